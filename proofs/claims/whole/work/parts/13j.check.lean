/-! THE CODE OF THE LAW: by program, the last blocks; all -/
set_option maxRecDepth 100000 in
theorem m_ckl_8 : (((mBl 268).drop (8 * 20)).take 20).all (fun e => m_ckB (m_y 268).cls (m_y 268).name (m_mx 268) (m_rt 268) (m_by 268) e.2 e.1) = true := by decide +kernel
theorem m_ckM_law : m_ckM 268 = true := by
  unfold m_ckM
  rw [Bool.and_eq_true]
  refine ⟨by decide +kernel, m_all_chunks _ _ 20 9 (by omega) (by decide +kernel) (fun i hi => ?_)⟩
  match i, hi with
  | 0, _ => exact m_ckl_0
  | 1, _ => exact m_ckl_1
  | 2, _ => exact m_ckl_2
  | 3, _ => exact m_ckl_3
  | 4, _ => exact m_ckl_4
  | 5, _ => exact m_ckl_5
  | 6, _ => exact m_ckl_6
  | 7, _ => exact m_ckl_7
  | 8, _ => exact m_ckl_8
  | n + 9, h => omega
theorem m_ck_all : ∀ k, k < 269 → m_ckM k = true := by
  intro k hk
  rcases Nat.lt_or_ge k 268 with h268 | h268
  · have h0 : 0 ≤ k := Nat.zero_le _
    rcases Nat.lt_or_ge k 10 with h10 | h10
    · exact m_ck_0 k h10 (Nat.zero_le _)
    rcases Nat.lt_or_ge k 20 with h20 | h20
    · exact m_ck_10 k h20 h10
    rcases Nat.lt_or_ge k 30 with h30 | h30
    · exact m_ck_20 k h30 h20
    rcases Nat.lt_or_ge k 40 with h40 | h40
    · exact m_ck_30 k h40 h30
    rcases Nat.lt_or_ge k 50 with h50 | h50
    · exact m_ck_40 k h50 h40
    rcases Nat.lt_or_ge k 60 with h60 | h60
    · exact m_ck_50 k h60 h50
    rcases Nat.lt_or_ge k 70 with h70 | h70
    · exact m_ck_60 k h70 h60
    rcases Nat.lt_or_ge k 80 with h80 | h80
    · exact m_ck_70 k h80 h70
    rcases Nat.lt_or_ge k 90 with h90 | h90
    · exact m_ck_80 k h90 h80
    rcases Nat.lt_or_ge k 100 with h100 | h100
    · exact m_ck_90 k h100 h90
    rcases Nat.lt_or_ge k 110 with h110 | h110
    · exact m_ck_100 k h110 h100
    rcases Nat.lt_or_ge k 120 with h120 | h120
    · exact m_ck_110 k h120 h110
    rcases Nat.lt_or_ge k 130 with h130 | h130
    · exact m_ck_120 k h130 h120
    rcases Nat.lt_or_ge k 140 with h140 | h140
    · exact m_ck_130 k h140 h130
    rcases Nat.lt_or_ge k 150 with h150 | h150
    · exact m_ck_140 k h150 h140
    rcases Nat.lt_or_ge k 160 with h160 | h160
    · exact m_ck_150 k h160 h150
    rcases Nat.lt_or_ge k 170 with h170 | h170
    · exact m_ck_160 k h170 h160
    rcases Nat.lt_or_ge k 180 with h180 | h180
    · exact m_ck_170 k h180 h170
    rcases Nat.lt_or_ge k 190 with h190 | h190
    · exact m_ck_180 k h190 h180
    rcases Nat.lt_or_ge k 200 with h200 | h200
    · exact m_ck_190 k h200 h190
    rcases Nat.lt_or_ge k 210 with h210 | h210
    · exact m_ck_200 k h210 h200
    rcases Nat.lt_or_ge k 220 with h220 | h220
    · exact m_ck_210 k h220 h210
    rcases Nat.lt_or_ge k 230 with h230 | h230
    · exact m_ck_220 k h230 h220
    rcases Nat.lt_or_ge k 240 with h240 | h240
    · exact m_ck_230 k h240 h230
    rcases Nat.lt_or_ge k 250 with h250 | h250
    · exact m_ck_240 k h250 h240
    rcases Nat.lt_or_ge k 260 with h260 | h260
    · exact m_ck_250 k h260 h250
    exact m_ck_260 k h268 h260
  · rw [show k = 268 by omega]
    exact m_ckM_law
