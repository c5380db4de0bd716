-- the words that a method may rest on: those of the tables that hold in every state from the start on
def mTT : List Jvm.Cond := lw_tbl.filter goodWord
def mTc : Nat → List Jvm.Cond
  | 0 => k2_sels lw_privs
  | 1 => tables_1_1
  | 2 => tables_1_2
  | 3 => tables_1_3
  | 4 => tables_1_4
  | 5 => tables_1_5
  | 6 => tables_1_6
  | 7 => tables_1_7
  | _ => []
/-- the word at a place: list * 1000 + place -/
def m_tw (q : Nat) : Option Jvm.Cond := (mTc (q / 1000))[q % 1000]?
def qX0_init_0 : List mO := [(.aload_n 0, 1, (0, 0), []),
  (.invokespecial 3, 3, (0, 0), [[0, 999, 1194, 1028, 1029]]),
  (.aload_n 0, 1, (0, 0), []),
  (.bipush 9, 2, (9, 0), []),
  (.newarray .int, 2, (0, 0), [[1071]]),
  (.putfield 9, 3, (0, 0), [[1, 1196, 0, 1], [0]]),
  (.aload_n 0, 1, (0, 0), []),
  (.bipush 9, 2, (9, 0), []),
  (.newarray .boolean, 2, (0, 0), [[1223]]),
  (.putfield 15, 3, (0, 0), [[2, 1198, 0, 1], [0]]),
  (.aload_n 0, 1, (0, 0), []),
  (.iconst 4, 1, (4, 0), []),
  (.putfield 19, 3, (0, 0), [[3, 1199, 0, 0], [0]]),
  (.aload_n 0, 1, (0, 0), []),
  (.iconst 4, 1, (4, 0), []),
  (.putfield 23, 3, (0, 0), [[4, 1200, 0, 0], [0]]),
  (.aload_n 0, 1, (0, 0), []),
  (.iconst 0, 1, (0, 0), []),
  (.putfield 26, 3, (0, 0), [[5, 1201, 0, 0], [0]]),
  (.aload_n 0, 1, (0, 0), []),
  (.bipush 9, 2, (9, 0), []),
  (.newarray .int, 2, (0, 0), [[1071]]),
  (.putfield 29, 3, (0, 0), [[6, 1202, 0, 1], [0]]),
  (.aload_n 0, 1, (0, 0), []),
  (.bipush 9, 2, (9, 0), []),
  (.newarray .int, 2, (0, 0), [[1071]]),
  (.putfield 32, 3, (0, 0), [[7, 1204, 0, 1], [0]]),
  (.aload_n 0, 1, (0, 0), []),
  (.aload_n 1, 1, (0, 0), []),
  (.putfield 35, 3, (0, 0), [[0, 1195, 0, 1], [0]]),
  (.return_, 1, (0, 0), [])]
def pX0_init : List (Nat × List mO) := [(0, qX0_init_0)]
def qX0_takeDay_0 : List mO := [(.aload_n 0, 1, (0, 0), []),
  (.aload_n 0, 1, (0, 0), []),
  (.getfield 35, 3, (0, 0), [[0, 1195, 0, 1], [0]]),
  (.iload_n 1, 1, (0, 0), []),
  (.iconst 1, 1, (1, 0), []),
  (.invokevirtual 39, 3, (0, 0), [[2, 3180, 0], [9, 70, 2219, 2218]])]
def qX0_takeDay_10 : List mO := [(.putfield 19, 3, (0, 0), [[3, 1199, 0, 0], [0]]),
  (.aload_n 0, 1, (0, 0), []),
  (.aload_n 0, 1, (0, 0), []),
  (.getfield 35, 3, (0, 0), [[0, 1195, 0, 1], [0]]),
  (.iload_n 1, 1, (0, 0), []),
  (.iconst 0, 1, (0, 0), []),
  (.invokevirtual 39, 3, (0, 0), [[2, 3180, 0], [9, 70, 2219, 2218]])]
def qX0_takeDay_23 : List mO := [(.putfield 23, 3, (0, 0), [[4, 1200, 0, 0], [0]]),
  (.iconst 0, 1, (0, 0), []),
  (.istore_n 2, 1, (0, 0), [])]
def qX0_takeDay_28 : List mO := [(.iload_n 2, 1, (0, 0), []),
  (.aload_n 0, 1, (0, 0), []),
  (.getfield 35, 3, (0, 0), [[0, 1195, 0, 1], [0]]),
  (.getfield 45, 3, (0, 0), [[0, 1073, 0, 0], [9]]),
  (.if_icmp .ge 52, 3, (0, 0), [[88]]),
  (.aload_n 0, 1, (0, 0), []),
  (.getfield 35, 3, (0, 0), [[0, 1195, 0, 1], [0]]),
  (.iload_n 2, 1, (0, 0), []),
  (.iload_n 1, 1, (0, 0), []),
  (.invokevirtual 48, 3, (0, 0), [[2, 3181, 0], [9, 71, 2166, 2165]])]
def qX0_takeDay_48 : List mO := [(.istore_n 3, 1, (0, 0), []),
  (.aload_n 0, 1, (0, 0), []),
  (.getfield 9, 3, (0, 0), [[1, 1196, 0, 1], [0]]),
  (.iload_n 2, 1, (0, 0), []),
  (.aload_n 0, 1, (0, 0), []),
  (.getfield 35, 3, (0, 0), [[0, 1195, 0, 1], [0]]),
  (.iload_n 3, 1, (0, 0), []),
  (.iload_n 2, 1, (0, 0), []),
  (.iload_n 1, 1, (0, 0), []),
  (.invokevirtual 52, 3, (0, 0), [[3, 3182, 0], [9, 72, 2184, 2183]])]
def qX0_takeDay_64 : List mO := [(.iastore, 1, (0, 0), []),
  (.aload_n 0, 1, (0, 0), []),
  (.getfield 15, 3, (0, 0), [[2, 1198, 0, 1], [0]]),
  (.iload_n 2, 1, (0, 0), []),
  (.aload_n 0, 1, (0, 0), []),
  (.getfield 35, 3, (0, 0), [[0, 1195, 0, 1], [0]]),
  (.getfield 56, 3, (0, 0), [[10, 1097, 0, 1], [9]]),
  (.iload_n 3, 1, (0, 0), []),
  (.invokevirtual 60, 3, (0, 0), [[1, 3183, 0], [5, 32, 2192, 2191]])]
def qX0_takeDay_81 : List mO := [(.bastore, 1, (0, 0), []),
  (.iinc 2 1, 3, (1, 0), []),
  (.goto (-57), 3, (0, 0), [[28]])]
def qX0_takeDay_88 : List mO := [(.return_, 1, (0, 0), [])]
def pX0_takeDay : List (Nat × List mO) := [(0, qX0_takeDay_0), (10, qX0_takeDay_10), (23, qX0_takeDay_23), (28, qX0_takeDay_28), (48, qX0_takeDay_48), (64, qX0_takeDay_64), (81, qX0_takeDay_81), (88, qX0_takeDay_88)]
def qX0_goBothWays_0 : List mO := [(.aload_n 0, 1, (0, 0), []),
  (.iconst 1, 1, (1, 0), []),
  (.iload_n 1, 1, (0, 0), []),
  (.ishl, 1, (0, 0), []),
  (.iload_n 2, 1, (0, 0), []),
  (.invokevirtual 65, 3, (0, 0), [[2, 3188, 0], [0, 5, 27, 3190]])]
def qX0_goBothWays_8 : List mO := [(.aload_n 0, 1, (0, 0), []),
  (.iload_n 1, 1, (0, 0), []),
  (.invokevirtual 69, 3, (0, 0), [[1, 3196, 0], [0, 6, 29, 3198]])]
def qX0_goBothWays_13 : List mO := [(.aload_n 0, 1, (0, 0), []),
  (.iload_n 1, 1, (0, 0), []),
  (.invokevirtual 73, 3, (0, 0), [[1, 3208, 0], [0, 7, 31, 3210]])]
def qX0_goBothWays_18 : List mO := [(.return_, 1, (0, 0), [])]
def pX0_goBothWays : List (Nat × List mO) := [(0, qX0_goBothWays_0), (8, qX0_goBothWays_8), (13, qX0_goBothWays_13), (18, qX0_goBothWays_18)]
def qX0_goOneWay_0 : List mO := [(.aload_n 0, 1, (0, 0), []),
  (.iconst 1, 1, (1, 0), []),
  (.iload_n 1, 1, (0, 0), []),
  (.ishl, 1, (0, 0), []),
  (.iload_n 2, 1, (0, 0), []),
  (.invokevirtual 65, 3, (0, 0), [[2, 3188, 0], [0, 5, 27, 3190]])]
def qX0_goOneWay_8 : List mO := [(.iload_n 3, 1, (0, 0), []),
  (.ifCond .eq 11, 3, (0, 0), [[20]]),
  (.aload_n 0, 1, (0, 0), []),
  (.iload_n 1, 1, (0, 0), []),
  (.invokevirtual 69, 3, (0, 0), [[1, 3196, 0], [0, 6, 29, 3198]])]
def qX0_goOneWay_17 : List mO := [(.goto 8, 3, (0, 0), [[25]])]
def qX0_goOneWay_20 : List mO := [(.aload_n 0, 1, (0, 0), []),
  (.iload_n 1, 1, (0, 0), []),
  (.invokevirtual 73, 3, (0, 0), [[1, 3208, 0], [0, 7, 31, 3210]])]
def qX0_goOneWay_25 : List mO := [(.return_, 1, (0, 0), [])]
def pX0_goOneWay : List (Nat × List mO) := [(0, qX0_goOneWay_0), (8, qX0_goOneWay_8), (17, qX0_goOneWay_17), (20, qX0_goOneWay_20), (25, qX0_goOneWay_25)]
def qX0_farthestByClocks_0 : List mO := [(.aload_n 0, 1, (0, 0), []),
  (.iload_n 1, 1, (0, 0), []),
  (.iload_n 2, 1, (0, 0), []),
  (.invokevirtual 65, 3, (0, 0), [[2, 3188, 0], [0, 5, 27, 3190]])]
def qX0_farthestByClocks_6 : List mO := [(.aload_n 0, 1, (0, 0), []),
  (.iconst 0, 1, (0, 0), []),
  (.invokevirtual 69, 3, (0, 0), [[1, 3196, 0], [0, 6, 29, 3198]])]
def qX0_farthestByClocks_11 : List mO := [(.iconst 0, 1, (0, 0), []),
  (.istore_n 3, 1, (0, 0), []),
  (.iconst 0, 1, (0, 0), []),
  (.istore 4, 2, (0, 0), [])]
def qX0_farthestByClocks_16 : List mO := [(.iload 4, 2, (0, 0), []),
  (.aload_n 0, 1, (0, 0), []),
  (.getfield 35, 3, (0, 0), [[0, 1195, 0, 1], [0]]),
  (.getfield 45, 3, (0, 0), [[0, 1073, 0, 0], [9]]),
  (.if_icmp .ge 31, 3, (0, 0), [[56]]),
  (.aload_n 0, 1, (0, 0), []),
  (.iload 4, 2, (0, 0), []),
  (.invokevirtual 76, 3, (0, 0), [[1, 3204, 0], [0, 10, 3206, 3205]])]
def qX0_farthestByClocks_34 : List mO := [(.ifCond .ne 5, 3, (0, 0), [[39]]),
  (.iconst (-1), 1, ((-1), 0), []),
  (.ireturn, 1, (0, 0), [])]
def qX0_farthestByClocks_39 : List mO := [(.iload_n 3, 1, (0, 0), []),
  (.aload_n 0, 1, (0, 0), []),
  (.iload 4, 2, (0, 0), []),
  (.invokevirtual 79, 3, (0, 0), [[1, 4066, 0], [0, 13, 4025, 4024]])]
def qX0_farthestByClocks_46 : List mO := [(.invokestatic 83, 3, (0, 0), [[2, 995, 4067, 4052, 1020, 4053]]),
  (.istore_n 3, 1, (0, 0), []),
  (.iinc 4 1, 3, (1, 0), []),
  (.goto (-37), 3, (0, 0), [[16]])]
def qX0_farthestByClocks_56 : List mO := [(.iload_n 3, 1, (0, 0), []),
  (.ireturn, 1, (0, 0), [])]
def pX0_farthestByClocks : List (Nat × List mO) := [(0, qX0_farthestByClocks_0), (6, qX0_farthestByClocks_6), (11, qX0_farthestByClocks_11), (16, qX0_farthestByClocks_16), (34, qX0_farthestByClocks_34), (39, qX0_farthestByClocks_39), (46, qX0_farthestByClocks_46), (56, qX0_farthestByClocks_56)]
def qX0_beginAt_0 : List mO := [(.aload_n 0, 1, (0, 0), []),
  (.iload_n 1, 1, (0, 0), []),
  (.putfield 26, 3, (0, 0), [[5, 1201, 0, 0], [0]]),
  (.iconst 0, 1, (0, 0), []),
  (.istore_n 3, 1, (0, 0), [])]
def qX0_beginAt_7 : List mO := [(.iload_n 3, 1, (0, 0), []),
  (.bipush 9, 2, (9, 0), []),
  (.if_icmp .ge 41, 3, (0, 0), [[51]]),
  (.aload_n 0, 1, (0, 0), []),
  (.getfield 29, 3, (0, 0), [[6, 1202, 0, 1], [0]]),
  (.iload_n 3, 1, (0, 0), []),
  (.aload_n 0, 1, (0, 0), []),
  (.iload_n 3, 1, (0, 0), []),
  (.invokevirtual 88, 3, (0, 0), [[1, 3192, 0], [0, 8, 28, 3194]])]
def qX0_beginAt_23 : List mO := [(.ifCond .eq 7, 3, (0, 0), [[30]]),
  (.iload_n 2, 1, (0, 0), []),
  (.goto 5, 3, (0, 0), [[32]])]
def qX0_beginAt_30 : List mO := [(.bipush (-9), 2, ((-9), 0), [])]
def qX0_beginAt_32 : List mO := [(.iastore, 1, (0, 0), []),
  (.aload_n 0, 1, (0, 0), []),
  (.getfield 32, 3, (0, 0), [[7, 1204, 0, 1], [0]]),
  (.iload_n 3, 1, (0, 0), []),
  (.aload_n 0, 1, (0, 0), []),
  (.getfield 29, 3, (0, 0), [[6, 1202, 0, 1], [0]]),
  (.iload_n 3, 1, (0, 0), []),
  (.iaload, 1, (0, 0), []),
  (.iastore, 1, (0, 0), []),
  (.iinc 3 1, 3, (1, 0), []),
  (.goto (-41), 3, (0, 0), [[7]])]
def qX0_beginAt_51 : List mO := [(.return_, 1, (0, 0), [])]
def pX0_beginAt : List (Nat × List mO) := [(0, qX0_beginAt_0), (7, qX0_beginAt_7), (23, qX0_beginAt_23), (30, qX0_beginAt_30), (32, qX0_beginAt_32), (51, qX0_beginAt_51)]
def qX0_goWest_0 : List mO := [(.iload_n 1, 1, (0, 0), []),
  (.istore_n 2, 1, (0, 0), [])]
def qX0_goWest_2 : List mO := [(.iload_n 2, 1, (0, 0), []),
  (.iconst 1, 1, (1, 0), []),
  (.iadd, 1, (0, 0), []),
  (.aload_n 0, 1, (0, 0), []),
  (.getfield 35, 3, (0, 0), [[0, 1195, 0, 1], [0]]),
  (.getfield 45, 3, (0, 0), [[0, 1073, 0, 0], [9]]),
  (.if_icmp .ge 43, 3, (0, 0), [[55]]),
  (.aload_n 0, 1, (0, 0), []),
  (.iload_n 2, 1, (0, 0), []),
  (.iconst 1, 1, (1, 0), []),
  (.iadd, 1, (0, 0), []),
  (.invokevirtual 88, 3, (0, 0), [[1, 3192, 0], [0, 8, 28, 3194]])]
def qX0_goWest_22 : List mO := [(.ifCond .ne 27, 3, (0, 0), [[49]]),
  (.aload_n 0, 1, (0, 0), []),
  (.iload_n 2, 1, (0, 0), []),
  (.iload_n 2, 1, (0, 0), []),
  (.iconst 1, 1, (1, 0), []),
  (.iadd, 1, (0, 0), []),
  (.aload_n 0, 1, (0, 0), []),
  (.getfield 35, 3, (0, 0), [[0, 1195, 0, 1], [0]]),
  (.getfield 91, 3, (0, 0), [[4, 1085, 0, 1], [9]]),
  (.iload_n 2, 1, (0, 0), []),
  (.iconst 1, 1, (1, 0), []),
  (.iadd, 1, (0, 0), []),
  (.iaload, 1, (0, 0), []),
  (.aload_n 0, 1, (0, 0), []),
  (.getfield 19, 3, (0, 0), [[3, 1199, 0, 0], [0]]),
  (.imul, 1, (0, 0), []),
  (.invokevirtual 94, 3, (0, 0), [[3, 3200, 0], [0, 9, 30, 3202]])]
def qX0_goWest_49 : List mO := [(.iinc 2 1, 3, (1, 0), []),
  (.goto (-50), 3, (0, 0), [[2]])]
def qX0_goWest_55 : List mO := [(.return_, 1, (0, 0), [])]
def pX0_goWest : List (Nat × List mO) := [(0, qX0_goWest_0), (2, qX0_goWest_2), (22, qX0_goWest_22), (49, qX0_goWest_49), (55, qX0_goWest_55)]
def qX0_goEast_0 : List mO := [(.iload_n 1, 1, (0, 0), []),
  (.istore_n 2, 1, (0, 0), [])]
def qX0_goEast_2 : List mO := [(.iload_n 2, 1, (0, 0), []),
  (.ifCond .le 31, 3, (0, 0), [[34]]),
  (.aload_n 0, 1, (0, 0), []),
  (.iload_n 2, 1, (0, 0), []),
  (.iload_n 2, 1, (0, 0), []),
  (.iconst 1, 1, (1, 0), []),
  (.isub, 1, (0, 0), []),
  (.aload_n 0, 1, (0, 0), []),
  (.getfield 35, 3, (0, 0), [[0, 1195, 0, 1], [0]]),
  (.getfield 91, 3, (0, 0), [[4, 1085, 0, 1], [9]]),
  (.iload_n 2, 1, (0, 0), []),
  (.iaload, 1, (0, 0), []),
  (.aload_n 0, 1, (0, 0), []),
  (.getfield 23, 3, (0, 0), [[4, 1200, 0, 0], [0]]),
  (.imul, 1, (0, 0), []),
  (.invokevirtual 94, 3, (0, 0), [[3, 3200, 0], [0, 9, 30, 3202]])]
def qX0_goEast_28 : List mO := [(.iinc 2 (-1), 3, ((-1), 0), []),
  (.goto (-29), 3, (0, 0), [[2]])]
def qX0_goEast_34 : List mO := [(.return_, 1, (0, 0), [])]
def pX0_goEast : List (Nat × List mO) := [(0, qX0_goEast_0), (2, qX0_goEast_2), (28, qX0_goEast_28), (34, qX0_goEast_34)]
def qX0_isBeginning_0 : List mO := [(.aload_n 0, 1, (0, 0), []),
  (.getfield 26, 3, (0, 0), [[5, 1201, 0, 0], [0]]),
  (.iload_n 1, 1, (0, 0), []),
  (.iushr, 1, (0, 0), []),
  (.iconst 1, 1, (1, 0), []),
  (.iand, 1, (0, 0), []),
  (.iconst 1, 1, (1, 0), []),
  (.if_icmp .ne 7, 3, (0, 0), [[16]]),
  (.iconst 1, 1, (1, 0), []),
  (.goto 4, 3, (0, 0), [[17]])]
def qX0_isBeginning_16 : List mO := [(.iconst 0, 1, (0, 0), [])]
def qX0_isBeginning_17 : List mO := [(.ireturn, 1, (0, 0), [[1]])]
def pX0_isBeginning : List (Nat × List mO) := [(0, qX0_isBeginning_0), (16, qX0_isBeginning_16), (17, qX0_isBeginning_17)]
def qX0_bring_0 : List mO := [(.aload_n 0, 1, (0, 0), []),
  (.iload_n 1, 1, (0, 0), []),
  (.invokevirtual 76, 3, (0, 0), [[1, 3204, 0], [0, 10, 3206, 3205]])]
def qX0_bring_5 : List mO := [(.ifCond .eq 20, 3, (0, 0), [[25]]),
  (.aload_n 0, 1, (0, 0), []),
  (.getfield 15, 3, (0, 0), [[2, 1198, 0, 1], [0]]),
  (.iload_n 1, 1, (0, 0), []),
  (.baload, 1, (0, 0), []),
  (.ifCond .eq 12, 3, (0, 0), [[26]]),
  (.aload_n 0, 1, (0, 0), []),
  (.iload_n 1, 1, (0, 0), []),
  (.invokevirtual 88, 3, (0, 0), [[1, 3192, 0], [0, 8, 28, 3194]])]
def qX0_bring_22 : List mO := [(.ifCond .ne 4, 3, (0, 0), [[26]])]
def qX0_bring_25 : List mO := [(.return_, 1, (0, 0), [])]
def qX0_bring_26 : List mO := [(.aload_n 0, 1, (0, 0), []),
  (.getfield 29, 3, (0, 0), [[6, 1202, 0, 1], [0]]),
  (.iload_n 1, 1, (0, 0), []),
  (.iaload, 1, (0, 0), []),
  (.aload_n 0, 1, (0, 0), []),
  (.iload_n 1, 1, (0, 0), []),
  (.invokevirtual 88, 3, (0, 0), [[1, 3192, 0], [0, 8, 28, 3194]])]
def qX0_bring_37 : List mO := [(.ifCond .eq 7, 3, (0, 0), [[44]]),
  (.iconst 0, 1, (0, 0), []),
  (.goto 12, 3, (0, 0), [[53]])]
def qX0_bring_44 : List mO := [(.aload_n 0, 1, (0, 0), []),
  (.getfield 35, 3, (0, 0), [[0, 1195, 0, 1], [0]]),
  (.getfield 98, 3, (0, 0), [[3, 1082, 0, 1], [9]]),
  (.iload_n 1, 1, (0, 0), []),
  (.iaload, 1, (0, 0), [])]
def qX0_bring_53 : List mO := [(.iadd, 1, (0, 0), []),
  (.iload_n 3, 1, (0, 0), []),
  (.iadd, 1, (0, 0), []),
  (.istore 4, 2, (0, 0), []),
  (.aload_n 0, 1, (0, 0), []),
  (.getfield 35, 3, (0, 0), [[0, 1195, 0, 1], [0]]),
  (.getfield 101, 3, (0, 0), [[1, 1077, 0, 1], [9]]),
  (.iload_n 2, 1, (0, 0), []),
  (.iaload, 1, (0, 0), []),
  (.iconst 5, 1, (5, 0), []),
  (.if_icmp .ne 12, 3, (0, 0), [[80]]),
  (.iload 4, 2, (0, 0), []),
  (.sipush 360, 3, (360, 0), []),
  (.if_icmp .ge 4, 3, (0, 0), [[80]]),
  (.return_, 1, (0, 0), [])]
def qX0_bring_80 : List mO := [(.aload_n 0, 1, (0, 0), []),
  (.getfield 29, 3, (0, 0), [[6, 1202, 0, 1], [0]]),
  (.iload_n 2, 1, (0, 0), []),
  (.iload 4, 2, (0, 0), []),
  (.iastore, 1, (0, 0), []),
  (.aload_n 0, 1, (0, 0), []),
  (.getfield 32, 3, (0, 0), [[7, 1204, 0, 1], [0]]),
  (.iload_n 2, 1, (0, 0), []),
  (.aload_n 0, 1, (0, 0), []),
  (.getfield 32, 3, (0, 0), [[7, 1204, 0, 1], [0]]),
  (.iload_n 1, 1, (0, 0), []),
  (.iaload, 1, (0, 0), []),
  (.aload_n 0, 1, (0, 0), []),
  (.getfield 9, 3, (0, 0), [[1, 1196, 0, 1], [0]]),
  (.iload_n 2, 1, (0, 0), []),
  (.iaload, 1, (0, 0), []),
  (.iadd, 1, (0, 0), []),
  (.iastore, 1, (0, 0), []),
  (.return_, 1, (0, 0), [])]
def pX0_bring : List (Nat × List mO) := [(0, qX0_bring_0), (5, qX0_bring_5), (22, qX0_bring_22), (25, qX0_bring_25), (26, qX0_bring_26), (37, qX0_bring_37), (44, qX0_bring_44), (53, qX0_bring_53), (80, qX0_bring_80)]
def qX0_reaches_0 : List mO := [(.aload_n 0, 1, (0, 0), []),
  (.getfield 29, 3, (0, 0), [[6, 1202, 0, 1], [0]]),
  (.iload_n 1, 1, (0, 0), []),
  (.iaload, 1, (0, 0), []),
  (.bipush (-9), 2, ((-9), 0), []),
  (.if_icmp .eq 7, 3, (0, 0), [[15]]),
  (.iconst 1, 1, (1, 0), []),
  (.goto 4, 3, (0, 0), [[16]])]
def qX0_reaches_15 : List mO := [(.iconst 0, 1, (0, 0), [])]
def qX0_reaches_16 : List mO := [(.ireturn, 1, (0, 0), [[1]])]
def pX0_reaches : List (Nat × List mO) := [(0, qX0_reaches_0), (15, qX0_reaches_15), (16, qX0_reaches_16)]
def qX0_reached_0 : List mO := [(.iconst 0, 1, (0, 0), []),
  (.istore_n 1, 1, (0, 0), []),
  (.iconst 0, 1, (0, 0), []),
  (.istore_n 2, 1, (0, 0), [])]
def qX0_reached_4 : List mO := [(.iload_n 2, 1, (0, 0), []),
  (.aload_n 0, 1, (0, 0), []),
  (.getfield 35, 3, (0, 0), [[0, 1195, 0, 1], [0]]),
  (.getfield 45, 3, (0, 0), [[0, 1073, 0, 0], [9]]),
  (.if_icmp .ge 20, 3, (0, 0), [[32]]),
  (.aload_n 0, 1, (0, 0), []),
  (.iload_n 2, 1, (0, 0), []),
  (.invokevirtual 76, 3, (0, 0), [[1, 3204, 0], [0, 10, 3206, 3205]])]
def qX0_reached_20 : List mO := [(.ifCond .eq 6, 3, (0, 0), [[26]]),
  (.iinc 1 1, 3, (1, 0), [])]
def qX0_reached_26 : List mO := [(.iinc 2 1, 3, (1, 0), []),
  (.goto (-25), 3, (0, 0), [[4]])]
def qX0_reached_32 : List mO := [(.iload_n 1, 1, (0, 0), []),
  (.ireturn, 1, (0, 0), [])]
def pX0_reached : List (Nat × List mO) := [(0, qX0_reached_0), (4, qX0_reached_4), (20, qX0_reached_20), (26, qX0_reached_26), (32, qX0_reached_32)]
def qX0_offOf_0 : List mO := [(.aload_n 0, 1, (0, 0), []),
  (.getfield 32, 3, (0, 0), [[7, 1204, 0, 1], [0]]),
  (.iload_n 1, 1, (0, 0), []),
  (.iaload, 1, (0, 0), []),
  (.aload_n 0, 1, (0, 0), []),
  (.getfield 29, 3, (0, 0), [[6, 1202, 0, 1], [0]]),
  (.iload_n 1, 1, (0, 0), []),
  (.iaload, 1, (0, 0), []),
  (.isub, 1, (0, 0), []),
  (.ireturn, 1, (0, 0), [])]
def pX0_offOf : List (Nat × List mO) := [(0, qX0_offOf_0)]
def qX0_distanceOf_0 : List mO := [(.aload_n 0, 1, (0, 0), []),
  (.iload_n 1, 1, (0, 0), []),
  (.invokevirtual 104, 3, (0, 0), [[1, 4027, 0], [0, 12, 4017, 4016]])]
def qX0_distanceOf_5 : List mO := [(.invokestatic 107, 3, (0, 0), [[1, 997, 4028, 4029, 1020, 4030]]),
  (.ireturn, 1, (0, 0), [])]
def pX0_distanceOf : List (Nat × List mO) := [(0, qX0_distanceOf_0), (5, qX0_distanceOf_5)]
def qX0_sumOfDistances_0 : List mO := [(.iconst 0, 1, (0, 0), []),
  (.istore_n 1, 1, (0, 0), []),
  (.iconst 0, 1, (0, 0), []),
  (.istore_n 2, 1, (0, 0), [])]
def qX0_sumOfDistances_4 : List mO := [(.iload_n 2, 1, (0, 0), []),
  (.aload_n 0, 1, (0, 0), []),
  (.getfield 35, 3, (0, 0), [[0, 1195, 0, 1], [0]]),
  (.getfield 45, 3, (0, 0), [[0, 1073, 0, 0], [9]]),
  (.if_icmp .ge 25, 3, (0, 0), [[37]]),
  (.aload_n 0, 1, (0, 0), []),
  (.iload_n 2, 1, (0, 0), []),
  (.invokevirtual 76, 3, (0, 0), [[1, 3204, 0], [0, 10, 3206, 3205]])]
def qX0_sumOfDistances_20 : List mO := [(.ifCond .eq 11, 3, (0, 0), [[31]]),
  (.iload_n 1, 1, (0, 0), []),
  (.aload_n 0, 1, (0, 0), []),
  (.iload_n 2, 1, (0, 0), []),
  (.invokevirtual 79, 3, (0, 0), [[1, 4066, 0], [0, 13, 4025, 4024]])]
def qX0_sumOfDistances_29 : List mO := [(.iadd, 1, (0, 0), []),
  (.istore_n 1, 1, (0, 0), [])]
def qX0_sumOfDistances_31 : List mO := [(.iinc 2 1, 3, (1, 0), []),
  (.goto (-30), 3, (0, 0), [[4]])]
def qX0_sumOfDistances_37 : List mO := [(.iload_n 1, 1, (0, 0), []),
  (.ireturn, 1, (0, 0), [])]
def pX0_sumOfDistances : List (Nat × List mO) := [(0, qX0_sumOfDistances_0), (4, qX0_sumOfDistances_4), (20, qX0_sumOfDistances_20), (29, qX0_sumOfDistances_29), (31, qX0_sumOfDistances_31), (37, qX0_sumOfDistances_37)]
def qX0_noonOf_0 : List mO := [(.aload_n 0, 1, (0, 0), []),
  (.getfield 29, 3, (0, 0), [[6, 1202, 0, 1], [0]]),
  (.iload_n 1, 1, (0, 0), []),
  (.iaload, 1, (0, 0), []),
  (.sipush 720, 3, (720, 0), []),
  (.iadd, 1, (0, 0), []),
  (.aload_n 0, 1, (0, 0), []),
  (.getfield 32, 3, (0, 0), [[7, 1204, 0, 1], [0]]),
  (.iload_n 1, 1, (0, 0), []),
  (.iaload, 1, (0, 0), []),
  (.isub, 1, (0, 0), []),
  (.ireturn, 1, (0, 0), [])]
def pX0_noonOf : List (Nat × List mO) := [(0, qX0_noonOf_0)]
def qX1_init_0 : List mO := [(.aload_n 0, 1, (0, 0), []),
  (.aload_n 1, 1, (0, 0), []),
  (.invokespecial 1, 3, (0, 0), [[1, 23, 2066, 2054, 0]])]
def qX1_init_5 : List mO := [(.return_, 1, (0, 0), [])]
def pX1_init : List (Nat × List mO) := [(0, qX1_init_0), (5, qX1_init_5)]
def qX1_cries_0 : List mO := [(.aload_n 0, 1, (0, 0), []),
  (.getfield 7, 3, (0, 0), [[0, 2014, 2016, 1], [1]]),
  (.bipush 50, 2, (50, 0), []),
  (.invokevirtual 13, 3, (0, 0), [[1, 5005, 0], [8, 66, 5007, 5006]])]
def qX1_cries_9 : List mO := [(.aload_n 0, 1, (0, 0), []),
  (.iload_n 1, 1, (0, 0), []),
  (.invokespecial 19, 3, (0, 0), [[1, 75, 5009, 4239, 2], [5010, 2070, 2061]])]
def qX1_cries_14 : List mO := [(.aload_n 0, 1, (0, 0), []),
  (.getfield 23, 3, (0, 0), [[1, 2025, 2027, 0], [1]]),
  (.ixor, 1, (0, 0), []),
  (.ireturn, 1, (0, 0), [])]
def pX1_cries : List (Nat × List mO) := [(0, qX1_cries_0), (9, qX1_cries_9), (14, qX1_cries_14)]
def qX1_tells_0 : List mO := [(.aload_n 0, 1, (0, 0), []),
  (.getfield 7, 3, (0, 0), [[0, 2014, 2016, 1], [1]]),
  (.bipush 51, 2, (51, 0), []),
  (.invokevirtual 13, 3, (0, 0), [[1, 5005, 0], [8, 66, 5007, 5006]])]
def qX1_tells_9 : List mO := [(.aload_n 0, 1, (0, 0), []),
  (.iload_n 1, 1, (0, 0), []),
  (.invokespecial 27, 3, (0, 0), [[1, 78, 5070, 5064, 2], [5071, 2070, 2061]])]
def qX1_tells_14 : List mO := [(.aload_n 0, 1, (0, 0), []),
  (.aload_n 0, 1, (0, 0), []),
  (.getfield 23, 3, (0, 0), [[1, 2025, 2027, 0], [1]]),
  (.invokevirtual 30, 3, (0, 0), [[1, 5073, 1, 5074, 5044, 5062], [1, 77, 5076, 5044]])]
def qX1_tells_22 : List mO := [(.iadd, 1, (0, 0), []),
  (.ireturn, 1, (0, 0), [])]
def pX1_tells : List (Nat × List mO) := [(0, qX1_tells_0), (9, qX1_tells_9), (14, qX1_tells_14), (22, qX1_tells_22)]
def qX2_init_0 : List mO := [(.aload_n 0, 1, (0, 0), []),
  (.aload_n 1, 1, (0, 0), []),
  (.invokespecial 1, 3, (0, 0), [[1, 74, 2076, 2010, 0]])]
def qX2_init_5 : List mO := [(.return_, 1, (0, 0), [])]
def pX2_init : List (Nat × List mO) := [(0, qX2_init_0), (5, qX2_init_5)]
def qX2_shares_0 : List mO := [(.aload_n 0, 1, (0, 0), []),
  (.getfield 7, 3, (0, 0), [[0, 2022, 2024, 1], [2, 7]]),
  (.bipush 40, 2, (40, 0), []),
  (.invokevirtual 13, 3, (0, 0), [[1, 5051, 0], [8, 66, 5007, 5006]])]
def qX2_shares_9 : List mO := [(.aload_n 0, 1, (0, 0), []),
  (.iload_n 1, 1, (0, 0), []),
  (.iconst 1, 1, (1, 0), []),
  (.iadd, 1, (0, 0), []),
  (.invokespecial 19, 3, (0, 0), [[1, 77, 5052, 5044, 2], [5046, 2080, 0]])]
def qX2_shares_16 : List mO := [(.ireturn, 1, (0, 0), [])]
def pX2_shares : List (Nat × List mO) := [(0, qX2_shares_0), (9, qX2_shares_9), (16, qX2_shares_16)]
def qX3_init_0 : List mO := [(.aload_n 0, 1, (0, 0), []),
  (.aload_n 1, 1, (0, 0), []),
  (.invokespecial 1, 3, (0, 0), [[1, 74, 2046, 2010, 0]])]
def qX3_init_5 : List mO := [(.return_, 1, (0, 0), [])]
def pX3_init : List (Nat × List mO) := [(0, qX3_init_0), (5, qX3_init_5)]
def qX3_cries_0 : List mO := [(.aload_n 0, 1, (0, 0), []),
  (.getfield 7, 3, (0, 0), [[0, 2016, 2018, 1], [3]]),
  (.bipush 20, 2, (20, 0), []),
  (.invokevirtual 13, 3, (0, 0), [[1, 5016, 0], [8, 66, 5007, 5006]])]
def qX3_cries_9 : List mO := [(.aload_n 0, 1, (0, 0), []),
  (.iload_n 1, 1, (0, 0), []),
  (.invokespecial 19, 3, (0, 0), [[1, 75, 5017, 4239, 2], [5001, 2050, 0]])]
def qX3_cries_14 : List mO := [(.iconst 3, 1, (3, 0), []),
  (.imul, 1, (0, 0), []),
  (.ireturn, 1, (0, 0), [])]
def pX3_cries : List (Nat × List mO) := [(0, qX3_cries_0), (9, qX3_cries_9), (14, qX3_cries_14)]
def qX4_init_0 : List mO := [(.aload_n 0, 1, (0, 0), []),
  (.aload_n 1, 1, (0, 0), []),
  (.invokespecial 1, 3, (0, 0), [[1, 74, 2056, 2010, 0]])]
def qX4_init_5 : List mO := [(.return_, 1, (0, 0), [])]
def pX4_init : List (Nat × List mO) := [(0, qX4_init_0), (5, qX4_init_5)]
def qX4_hears_0 : List mO := [(.aload_n 0, 1, (0, 0), []),
  (.getfield 7, 3, (0, 0), [[0, 2018, 2020, 1], [1, 4]]),
  (.bipush 30, 2, (30, 0), []),
  (.invokevirtual 13, 3, (0, 0), [[1, 5029, 0], [8, 66, 5007, 5006]])]
def qX4_hears_9 : List mO := [(.aload_n 0, 1, (0, 0), []),
  (.iload_n 1, 1, (0, 0), []),
  (.invokespecial 19, 3, (0, 0), [[1, 76, 5030, 5023, 2], [5025, 2060, 0]])]
def qX4_hears_14 : List mO := [(.aload_n 0, 1, (0, 0), []),
  (.getfield 23, 3, (0, 0), [[2, 2029, 2031, 0], [1, 4]]),
  (.isub, 1, (0, 0), []),
  (.ireturn, 1, (0, 0), [])]
def pX4_hears : List (Nat × List mO) := [(0, qX4_hears_0), (9, qX4_hears_9), (14, qX4_hears_14)]
def qX5_init_0 : List mO := [(.aload_n 0, 1, (0, 0), []),
  (.invokespecial 5, 3, (0, 0), [[0, 999, 1041, 1028, 1029]]),
  (.aload_n 0, 1, (0, 0), []),
  (.iconst 0, 1, (0, 0), []),
  (.putfield 11, 3, (0, 0), [[0, 1042, 0, 0], [5]]),
  (.aload_n 0, 1, (0, 0), []),
  (.bipush 8, 2, (8, 0), []),
  (.newarray .int, 2, (0, 0), [[1071]]),
  (.putfield 15, 3, (0, 0), [[1, 1045, 0, 1], [5]]),
  (.aload_n 0, 1, (0, 0), []),
  (.bipush 8, 2, (8, 0), []),
  (.newarray .int, 2, (0, 0), [[1071]]),
  (.putfield 19, 3, (0, 0), [[2, 1047, 0, 1], [5]]),
  (.aload_n 0, 1, (0, 0), []),
  (.bipush 8, 2, (8, 0), []),
  (.newarray .int, 2, (0, 0), [[1071]]),
  (.putfield 22, 3, (0, 0), [[3, 1049, 0, 1], [5]]),
  (.aload_n 0, 1, (0, 0), []),
  (.bipush 8, 2, (8, 0), []),
  (.newarray .int, 2, (0, 0), [[1071]]),
  (.putfield 25, 3, (0, 0), [[4, 1051, 0, 1], [5]]),
  (.aload_n 0, 1, (0, 0), []),
  (.iconst 0, 1, (0, 0), []),
  (.putfield 28, 3, (0, 0), [[5, 1053, 0, 0], [5]]),
  (.aload_n 0, 1, (0, 0), []),
  (.sipush 200, 3, (200, 0), []),
  (.newarray .int, 2, (0, 0), [[1071]]),
  (.putfield 31, 3, (0, 0), [[6, 1055, 0, 1], [5]]),
  (.return_, 1, (0, 0), [])]
def pX5_init : List (Nat × List mO) := [(0, qX5_init_0)]
def qX5_clear_0 : List mO := [(.aload_n 0, 1, (0, 0), []),
  (.iconst 0, 1, (0, 0), []),
  (.putfield 11, 3, (0, 0), [[0, 1042, 0, 0], [5]]),
  (.aload_n 0, 1, (0, 0), []),
  (.iconst 0, 1, (0, 0), []),
  (.putfield 28, 3, (0, 0), [[5, 1053, 0, 0], [5]]),
  (.return_, 1, (0, 0), [])]
def pX5_clear : List (Nat × List mO) := [(0, qX5_clear_0)]
def qX5_addStep_0 : List mO := [(.aload_n 0, 1, (0, 0), []),
  (.getfield 28, 3, (0, 0), [[5, 1053, 0, 0], [5]]),
  (.aload_n 0, 1, (0, 0), []),
  (.getfield 31, 3, (0, 0), [[6, 1055, 0, 1], [5]]),
  (.arraylength, 1, (0, 0), []),
  (.if_icmp .ge 20, 3, (0, 0), [[29]]),
  (.aload_n 0, 1, (0, 0), []),
  (.getfield 31, 3, (0, 0), [[6, 1055, 0, 1], [5]]),
  (.aload_n 0, 1, (0, 0), []),
  (.dup, 1, (0, 0), []),
  (.getfield 28, 3, (0, 0), [[5, 1053, 0, 0], [5]]),
  (.dup_x1, 1, (0, 0), []),
  (.iconst 1, 1, (1, 0), []),
  (.iadd, 1, (0, 0), []),
  (.putfield 28, 3, (0, 0), [[5, 1053, 0, 0], [5]]),
  (.iload_n 1, 1, (0, 0), []),
  (.iastore, 1, (0, 0), [])]
def qX5_addStep_29 : List mO := [(.return_, 1, (0, 0), [])]
def pX5_addStep : List (Nat × List mO) := [(0, qX5_addStep_0), (29, qX5_addStep_29)]
def qX5_comparing_0 : List mO := [(.iload_n 0, 1, (0, 0), []),
  (.bipush 28, 2, (28, 0), []),
  (.ishl, 1, (0, 0), []),
  (.iload_n 1, 1, (0, 0), []),
  (.bipush 14, 2, (14, 0), []),
  (.ishl, 1, (0, 0), []),
  (.ior, 1, (0, 0), []),
  (.iload_n 2, 1, (0, 0), []),
  (.ior, 1, (0, 0), []),
  (.ireturn, 1, (0, 0), [])]
def pX5_comparing : List (Nat × List mO) := [(0, qX5_comparing_0)]
def qX5_firstFor_0 : List mO := [(.iconst 0, 1, (0, 0), []),
  (.istore_n 3, 1, (0, 0), [])]
def qX5_firstFor_2 : List mO := [(.iload_n 3, 1, (0, 0), []),
  (.aload_n 0, 1, (0, 0), []),
  (.getfield 11, 3, (0, 0), [[0, 1042, 0, 0], [5]]),
  (.if_icmp .ge 33, 3, (0, 0), [[40]]),
  (.iload_n 1, 1, (0, 0), []),
  (.aload_n 0, 1, (0, 0), []),
  (.getfield 15, 3, (0, 0), [[1, 1045, 0, 1], [5]]),
  (.iload_n 3, 1, (0, 0), []),
  (.iaload, 1, (0, 0), []),
  (.invokestatic 34, 3, (0, 0), [[2, 90, 5, 2173, 1]])]
def qX5_firstFor_20 : List mO := [(.ifCond .eq 14, 3, (0, 0), [[34]]),
  (.aload_n 0, 1, (0, 0), []),
  (.iload_n 3, 1, (0, 0), []),
  (.aload_n 2, 1, (0, 0), []),
  (.invokevirtual 38, 3, (0, 0), [[2, 2175, 0], [5, 30, 0, 2177]])]
def qX5_firstFor_29 : List mO := [(.ifCond .eq 5, 3, (0, 0), [[34]]),
  (.iload_n 3, 1, (0, 0), []),
  (.ireturn, 1, (0, 0), [])]
def qX5_firstFor_34 : List mO := [(.iinc 3 1, 3, (1, 0), []),
  (.goto (-35), 3, (0, 0), [[2]])]
def qX5_firstFor_40 : List mO := [(.iconst (-1), 1, ((-1), 0), []),
  (.ireturn, 1, (0, 0), [])]
def pX5_firstFor : List (Nat × List mO) := [(0, qX5_firstFor_0), (2, qX5_firstFor_2), (20, qX5_firstFor_20), (29, qX5_firstFor_29), (34, qX5_firstFor_34), (40, qX5_firstFor_40)]
def qX5_isMet_0 : List mO := [(.iconst 1, 1, (1, 0), []),
  (.istore_n 3, 1, (0, 0), []),
  (.iload_n 1, 1, (0, 0), []),
  (.ifCond .ne 7, 3, (0, 0), [[10]]),
  (.iconst 0, 1, (0, 0), []),
  (.goto 11, 3, (0, 0), [[18]])]
def qX5_isMet_10 : List mO := [(.aload_n 0, 1, (0, 0), []),
  (.getfield 25, 3, (0, 0), [[4, 1051, 0, 1], [5]]),
  (.iload_n 1, 1, (0, 0), []),
  (.iconst 1, 1, (1, 0), []),
  (.isub, 1, (0, 0), []),
  (.iaload, 1, (0, 0), [])]
def qX5_isMet_18 : List mO := [(.istore 4, 2, (0, 0), [])]
def qX5_isMet_20 : List mO := [(.iload 4, 2, (0, 0), []),
  (.aload_n 0, 1, (0, 0), []),
  (.getfield 25, 3, (0, 0), [[4, 1051, 0, 1], [5]]),
  (.iload_n 1, 1, (0, 0), []),
  (.iaload, 1, (0, 0), []),
  (.if_icmp .ge 108, 3, (0, 0), [[136]]),
  (.iload_n 3, 1, (0, 0), []),
  (.iconst 1, 1, (1, 0), []),
  (.iushr, 1, (0, 0), []),
  (.istore 5, 2, (0, 0), []),
  (.aload_n 0, 1, (0, 0), []),
  (.getfield 31, 3, (0, 0), [[6, 1055, 0, 1], [5]]),
  (.iload 4, 2, (0, 0), []),
  (.iaload, 1, (0, 0), []),
  (.tableswitch 63 1 3 #[25, 35, 56], 25, (0, 0), [[106], [1, 68], [2, 78], [3, 99]])]
def qX5_isMet_68 : List mO := [(.iload 5, 2, (0, 0), []),
  (.iload_n 3, 1, (0, 0), []),
  (.iconst 1, 1, (1, 0), []),
  (.iand, 1, (0, 0), []),
  (.ior, 1, (0, 0), []),
  (.istore_n 3, 1, (0, 0), []),
  (.goto 55, 3, (0, 0), [[130]])]
def qX5_isMet_78 : List mO := [(.iload_n 3, 1, (0, 0), []),
  (.iconst 1, 1, (1, 0), []),
  (.iand, 1, (0, 0), []),
  (.iconst 1, 1, (1, 0), []),
  (.if_icmp .ne 8, 3, (0, 0), [[90]]),
  (.iload 5, 2, (0, 0), []),
  (.goto 8, 3, (0, 0), [[95]])]
def qX5_isMet_90 : List mO := [(.iload 5, 2, (0, 0), []),
  (.bipush (-2), 2, ((-2), 0), []),
  (.iand, 1, (0, 0), [])]
def qX5_isMet_95 : List mO := [(.istore_n 3, 1, (0, 0), []),
  (.goto 34, 3, (0, 0), [[130]])]
def qX5_isMet_99 : List mO := [(.iload_n 3, 1, (0, 0), []),
  (.iconst 1, 1, (1, 0), []),
  (.ixor, 1, (0, 0), []),
  (.istore_n 3, 1, (0, 0), []),
  (.goto 27, 3, (0, 0), [[130]])]
def qX5_isMet_106 : List mO := [(.iload_n 3, 1, (0, 0), []),
  (.iconst 1, 1, (1, 0), []),
  (.ishl, 1, (0, 0), []),
  (.aload_n 0, 1, (0, 0), []),
  (.getfield 31, 3, (0, 0), [[6, 1055, 0, 1], [5]]),
  (.iload 4, 2, (0, 0), []),
  (.iaload, 1, (0, 0), []),
  (.aload_n 2, 1, (0, 0), []),
  (.invokestatic 42, 3, (0, 0), [[2, 31, 2179, 2180, 0]])]
def qX5_isMet_120 : List mO := [(.ifCond .eq 7, 3, (0, 0), [[127]]),
  (.iconst 1, 1, (1, 0), []),
  (.goto 4, 3, (0, 0), [[128]])]
def qX5_isMet_127 : List mO := [(.iconst 0, 1, (0, 0), [])]
def qX5_isMet_128 : List mO := [(.ior, 1, (0, 0), []),
  (.istore_n 3, 1, (0, 0), [])]
def qX5_isMet_130 : List mO := [(.iinc 4 1, 3, (1, 0), []),
  (.goto (-113), 3, (0, 0), [[20]])]
def qX5_isMet_136 : List mO := [(.iload_n 3, 1, (0, 0), []),
  (.iconst 1, 1, (1, 0), []),
  (.iand, 1, (0, 0), []),
  (.iconst 1, 1, (1, 0), []),
  (.if_icmp .ne 7, 3, (0, 0), [[147]]),
  (.iconst 1, 1, (1, 0), []),
  (.goto 4, 3, (0, 0), [[148]])]
def qX5_isMet_147 : List mO := [(.iconst 0, 1, (0, 0), [])]
def qX5_isMet_148 : List mO := [(.ireturn, 1, (0, 0), [[1]])]
def pX5_isMet : List (Nat × List mO) := [(0, qX5_isMet_0), (10, qX5_isMet_10), (18, qX5_isMet_18), (20, qX5_isMet_20), (68, qX5_isMet_68), (78, qX5_isMet_78), (90, qX5_isMet_90), (95, qX5_isMet_95), (99, qX5_isMet_99), (106, qX5_isMet_106), (120, qX5_isMet_120), (127, qX5_isMet_127), (128, qX5_isMet_128), (130, qX5_isMet_130), (136, qX5_isMet_136), (147, qX5_isMet_147), (148, qX5_isMet_148)]
def qX5_isTrue_0 : List mO := [(.iload_n 0, 1, (0, 0), []),
  (.bipush 14, 2, (14, 0), []),
  (.iushr, 1, (0, 0), []),
  (.sipush 16383, 3, (16383, 0), []),
  (.iand, 1, (0, 0), []),
  (.istore_n 2, 1, (0, 0), []),
  (.iload_n 0, 1, (0, 0), []),
  (.sipush 16383, 3, (16383, 0), []),
  (.iand, 1, (0, 0), []),
  (.istore_n 3, 1, (0, 0), []),
  (.iload_n 2, 1, (0, 0), []),
  (.sipush 10000, 3, (10000, 0), []),
  (.if_icmp .lt 21, 3, (0, 0), [[40]]),
  (.iload_n 2, 1, (0, 0), []),
  (.sipush 10000, 3, (10000, 0), []),
  (.isub, 1, (0, 0), []),
  (.aload_n 1, 1, (0, 0), []),
  (.arraylength, 1, (0, 0), []),
  (.if_icmp .ge 11, 3, (0, 0), [[40]]),
  (.aload_n 1, 1, (0, 0), []),
  (.iload_n 2, 1, (0, 0), []),
  (.sipush 10000, 3, (10000, 0), []),
  (.isub, 1, (0, 0), []),
  (.iaload, 1, (0, 0), []),
  (.istore_n 2, 1, (0, 0), [])]
def qX5_isTrue_40 : List mO := [(.iload_n 3, 1, (0, 0), []),
  (.sipush 10000, 3, (10000, 0), []),
  (.if_icmp .lt 21, 3, (0, 0), [[65]]),
  (.iload_n 3, 1, (0, 0), []),
  (.sipush 10000, 3, (10000, 0), []),
  (.isub, 1, (0, 0), []),
  (.aload_n 1, 1, (0, 0), []),
  (.arraylength, 1, (0, 0), []),
  (.if_icmp .ge 11, 3, (0, 0), [[65]]),
  (.aload_n 1, 1, (0, 0), []),
  (.iload_n 3, 1, (0, 0), []),
  (.sipush 10000, 3, (10000, 0), []),
  (.isub, 1, (0, 0), []),
  (.iaload, 1, (0, 0), []),
  (.istore_n 3, 1, (0, 0), [])]
def qX5_isTrue_65 : List mO := [(.iload_n 0, 1, (0, 0), []),
  (.bipush 28, 2, (28, 0), []),
  (.iushr, 1, (0, 0), []),
  (.lookupswitch 49 #[(1, 27), (2, 38)], 27, (0, 0), [[118], [1, 96], [2, 107]])]
def qX5_isTrue_96 : List mO := [(.iload_n 2, 1, (0, 0), []),
  (.iload_n 3, 1, (0, 0), []),
  (.if_icmp .ge 7, 3, (0, 0), [[105]]),
  (.iconst 1, 1, (1, 0), []),
  (.goto 4, 3, (0, 0), [[106]])]
def qX5_isTrue_105 : List mO := [(.iconst 0, 1, (0, 0), [])]
def qX5_isTrue_106 : List mO := [(.ireturn, 1, (0, 0), [[1]])]
def qX5_isTrue_107 : List mO := [(.iload_n 2, 1, (0, 0), []),
  (.iload_n 3, 1, (0, 0), []),
  (.if_icmp .ne 7, 3, (0, 0), [[116]]),
  (.iconst 1, 1, (1, 0), []),
  (.goto 4, 3, (0, 0), [[117]])]
def qX5_isTrue_116 : List mO := [(.iconst 0, 1, (0, 0), [])]
def qX5_isTrue_117 : List mO := [(.ireturn, 1, (0, 0), [[1]])]
def qX5_isTrue_118 : List mO := [(.iload_n 2, 1, (0, 0), []),
  (.iload_n 3, 1, (0, 0), []),
  (.if_icmp .le 7, 3, (0, 0), [[127]]),
  (.iconst 1, 1, (1, 0), []),
  (.goto 4, 3, (0, 0), [[128]])]
def qX5_isTrue_127 : List mO := [(.iconst 0, 1, (0, 0), [])]
def qX5_isTrue_128 : List mO := [(.ireturn, 1, (0, 0), [[1]])]
def pX5_isTrue : List (Nat × List mO) := [(0, qX5_isTrue_0), (40, qX5_isTrue_40), (65, qX5_isTrue_65), (96, qX5_isTrue_96), (105, qX5_isTrue_105), (106, qX5_isTrue_106), (107, qX5_isTrue_107), (116, qX5_isTrue_116), (117, qX5_isTrue_117), (118, qX5_isTrue_118), (127, qX5_isTrue_127), (128, qX5_isTrue_128)]
def qX5_isSilent_0 : List mO := [(.iload_n 1, 1, (0, 0), []),
  (.ifCond .lt 25, 3, (0, 0), [[26]]),
  (.iload_n 1, 1, (0, 0), []),
  (.aload_n 0, 1, (0, 0), []),
  (.getfield 11, 3, (0, 0), [[0, 1042, 0, 0], [5]]),
  (.if_icmp .ge 17, 3, (0, 0), [[26]]),
  (.aload_n 0, 1, (0, 0), []),
  (.getfield 19, 3, (0, 0), [[2, 1047, 0, 1], [5]]),
  (.iload_n 1, 1, (0, 0), []),
  (.iaload, 1, (0, 0), []),
  (.iconst 3, 1, (3, 0), []),
  (.if_icmp .ne 7, 3, (0, 0), [[26]]),
  (.iconst 1, 1, (1, 0), []),
  (.goto 4, 3, (0, 0), [[27]])]
def qX5_isSilent_26 : List mO := [(.iconst 0, 1, (0, 0), [])]
def qX5_isSilent_27 : List mO := [(.ireturn, 1, (0, 0), [[1]])]
def pX5_isSilent : List (Nat × List mO) := [(0, qX5_isSilent_0), (26, qX5_isSilent_26), (27, qX5_isSilent_27)]
def qX5_changed_0 : List mO := [(.iload_n 1, 1, (0, 0), []),
  (.ifCond .lt 11, 3, (0, 0), [[12]]),
  (.iload_n 1, 1, (0, 0), []),
  (.aload_n 0, 1, (0, 0), []),
  (.getfield 11, 3, (0, 0), [[0, 1042, 0, 0], [5]]),
  (.if_icmp .lt 5, 3, (0, 0), [[14]])]
def qX5_changed_12 : List mO := [(.iload_n 2, 1, (0, 0), []),
  (.ireturn, 1, (0, 0), [])]
def qX5_changed_14 : List mO := [(.aload_n 0, 1, (0, 0), []),
  (.getfield 19, 3, (0, 0), [[2, 1047, 0, 1], [5]]),
  (.iload_n 1, 1, (0, 0), []),
  (.iaload, 1, (0, 0), []),
  (.tableswitch 53 0 2 #[28, 35, 44], 28, (0, 0), [[73], [0, 48], [1, 55], [2, 64]])]
def qX5_changed_48 : List mO := [(.aload_n 0, 1, (0, 0), []),
  (.getfield 22, 3, (0, 0), [[3, 1049, 0, 1], [5]]),
  (.iload_n 1, 1, (0, 0), []),
  (.iaload, 1, (0, 0), []),
  (.ireturn, 1, (0, 0), [])]
def qX5_changed_55 : List mO := [(.iload_n 2, 1, (0, 0), []),
  (.aload_n 0, 1, (0, 0), []),
  (.getfield 22, 3, (0, 0), [[3, 1049, 0, 1], [5]]),
  (.iload_n 1, 1, (0, 0), []),
  (.iaload, 1, (0, 0), []),
  (.iadd, 1, (0, 0), []),
  (.ireturn, 1, (0, 0), [])]
def qX5_changed_64 : List mO := [(.aload_n 0, 1, (0, 0), []),
  (.getfield 22, 3, (0, 0), [[3, 1049, 0, 1], [5]]),
  (.iload_n 1, 1, (0, 0), []),
  (.iaload, 1, (0, 0), []),
  (.iload_n 3, 1, (0, 0), []),
  (.imul, 1, (0, 0), []),
  (.ireturn, 1, (0, 0), [])]
def qX5_changed_73 : List mO := [(.iload_n 2, 1, (0, 0), []),
  (.ireturn, 1, (0, 0), [])]
def pX5_changed : List (Nat × List mO) := [(0, qX5_changed_0), (12, qX5_changed_12), (14, qX5_changed_14), (48, qX5_changed_48), (55, qX5_changed_55), (64, qX5_changed_64), (73, qX5_changed_73)]
def qX5_copyFrom_0 : List mO := [(.aload_n 0, 1, (0, 0), []),
  (.aload_n 1, 1, (0, 0), []),
  (.getfield 11, 3, (0, 0), [[0, 1042, 0, 0], [5]]),
  (.putfield 11, 3, (0, 0), [[0, 1042, 0, 0], [5]]),
  (.aload_n 1, 1, (0, 0), []),
  (.getfield 15, 3, (0, 0), [[1, 1045, 0, 1], [5]]),
  (.iconst 0, 1, (0, 0), []),
  (.aload_n 0, 1, (0, 0), []),
  (.getfield 15, 3, (0, 0), [[1, 1045, 0, 1], [5]]),
  (.iconst 0, 1, (0, 0), []),
  (.bipush 8, 2, (8, 0), []),
  (.invokestatic 45, 3, (0, 0), [[5, 998, 3158, 3160, 3159, 1018]]),
  (.aload_n 1, 1, (0, 0), []),
  (.getfield 19, 3, (0, 0), [[2, 1047, 0, 1], [5]]),
  (.iconst 0, 1, (0, 0), []),
  (.aload_n 0, 1, (0, 0), []),
  (.getfield 19, 3, (0, 0), [[2, 1047, 0, 1], [5]]),
  (.iconst 0, 1, (0, 0), []),
  (.bipush 8, 2, (8, 0), []),
  (.invokestatic 45, 3, (0, 0), [[5, 998, 3158, 3160, 3159, 1018]]),
  (.aload_n 1, 1, (0, 0), []),
  (.getfield 22, 3, (0, 0), [[3, 1049, 0, 1], [5]]),
  (.iconst 0, 1, (0, 0), []),
  (.aload_n 0, 1, (0, 0), []),
  (.getfield 22, 3, (0, 0), [[3, 1049, 0, 1], [5]]),
  (.iconst 0, 1, (0, 0), []),
  (.bipush 8, 2, (8, 0), []),
  (.invokestatic 45, 3, (0, 0), [[5, 998, 3158, 3160, 3159, 1018]]),
  (.aload_n 1, 1, (0, 0), []),
  (.getfield 25, 3, (0, 0), [[4, 1051, 0, 1], [5]]),
  (.iconst 0, 1, (0, 0), []),
  (.aload_n 0, 1, (0, 0), []),
  (.getfield 25, 3, (0, 0), [[4, 1051, 0, 1], [5]]),
  (.iconst 0, 1, (0, 0), []),
  (.bipush 8, 2, (8, 0), []),
  (.invokestatic 45, 3, (0, 0), [[5, 998, 3158, 3160, 3159, 1018]]),
  (.aload_n 0, 1, (0, 0), []),
  (.aload_n 1, 1, (0, 0), []),
  (.getfield 28, 3, (0, 0), [[5, 1053, 0, 0], [5]]),
  (.putfield 28, 3, (0, 0), [[5, 1053, 0, 0], [5]]),
  (.aload_n 1, 1, (0, 0), []),
  (.getfield 31, 3, (0, 0), [[6, 1055, 0, 1], [5]]),
  (.iconst 0, 1, (0, 0), []),
  (.aload_n 0, 1, (0, 0), []),
  (.getfield 31, 3, (0, 0), [[6, 1055, 0, 1], [5]]),
  (.iconst 0, 1, (0, 0), []),
  (.sipush 200, 3, (200, 0), []),
  (.invokestatic 45, 3, (0, 0), [[5, 998, 3158, 3160, 3159, 1018]]),
  (.return_, 1, (0, 0), [])]
def pX5_copyFrom : List (Nat × List mO) := [(0, qX5_copyFrom_0)]
def qX6_init_0 : List mO := [(.aload_n 0, 1, (0, 0), []),
  (.invokespecial 3, 3, (0, 0), [[0, 999, 1142, 1028, 1029]]),
  (.aload_n 0, 1, (0, 0), []),
  (.iconst 0, 1, (0, 0), []),
  (.putfield 9, 3, (0, 0), [[0, 1145, 0, 0], [6]]),
  (.aload_n 0, 1, (0, 0), []),
  (.sipush 200, 3, (200, 0), []),
  (.newarray .byte, 2, (0, 0), [[1188]]),
  (.putfield 15, 3, (0, 0), [[1, 1147, 0, 1], [6]]),
  (.aload_n 0, 1, (0, 0), []),
  (.new 19, 3, (0, 0), [[5, 7, 1143, 1037, 1003]]),
  (.dup, 1, (0, 0), []),
  (.invokespecial 21, 3, (0, 0), [[0, 25, 3, 1039, 1]])]
def qX6_init_26 : List mO := [(.putfield 22, 3, (0, 0), [[2, 1149, 0, 1], [6]]),
  (.aload_n 0, 1, (0, 0), []),
  (.iconst 4, 1, (4, 0), []),
  (.putfield 26, 3, (0, 0), [[3, 1151, 0, 0], [6]]),
  (.aload_n 0, 1, (0, 0), []),
  (.iconst 0, 1, (0, 0), []),
  (.putfield 29, 3, (0, 0), [[4, 1152, 0, 0], [6]]),
  (.aload_n 0, 1, (0, 0), []),
  (.iconst 0, 1, (0, 0), []),
  (.putfield 32, 3, (0, 0), [[5, 1153, 0, 0], [6]]),
  (.aload_n 0, 1, (0, 0), []),
  (.iconst 0, 1, (0, 0), []),
  (.putfield 35, 3, (0, 0), [[6, 1154, 0, 0], [6]]),
  (.aload_n 0, 1, (0, 0), []),
  (.iconst 0, 1, (0, 0), []),
  (.putfield 38, 3, (0, 0), [[7, 1155, 0, 0], [6]]),
  (.aload_n 0, 1, (0, 0), []),
  (.iconst 0, 1, (0, 0), []),
  (.putfield 41, 3, (0, 0), [[8, 1156, 0, 0], [6]]),
  (.aload_n 0, 1, (0, 0), []),
  (.iconst 0, 1, (0, 0), []),
  (.putfield 44, 3, (0, 0), [[9, 1157, 0, 0], [6]]),
  (.aload_n 0, 1, (0, 0), []),
  (.iconst 0, 1, (0, 0), []),
  (.putfield 47, 3, (0, 0), [[10, 1158, 0, 0], [6]]),
  (.aload_n 0, 1, (0, 0), []),
  (.sipush 200, 3, (200, 0), []),
  (.newarray .int, 2, (0, 0), [[1071]]),
  (.putfield 50, 3, (0, 0), [[11, 1159, 0, 1], [6]]),
  (.aload_n 0, 1, (0, 0), []),
  (.iconst 0, 1, (0, 0), []),
  (.putfield 54, 3, (0, 0), [[12, 1160, 0, 0], [6]]),
  (.return_, 1, (0, 0), [])]
def pX6_init : List (Nat × List mO) := [(0, qX6_init_0), (26, qX6_init_26)]
def qX6_readTape_0 : List mO := [(.aload_n 0, 1, (0, 0), []),
  (.getfield 22, 3, (0, 0), [[2, 1149, 0, 1], [6]]),
  (.invokevirtual 57, 3, (0, 0), [[0, 2233, 0], [5, 26, 2235, 2234]])]
def qX6_readTape_7 : List mO := [(.aload_n 0, 1, (0, 0), []),
  (.iconst 0, 1, (0, 0), []),
  (.putfield 32, 3, (0, 0), [[5, 1153, 0, 0], [6]]),
  (.aload_n 0, 1, (0, 0), []),
  (.iconst 0, 1, (0, 0), []),
  (.putfield 38, 3, (0, 0), [[7, 1155, 0, 0], [6]]),
  (.aload_n 0, 1, (0, 0), []),
  (.iconst 0, 1, (0, 0), []),
  (.putfield 47, 3, (0, 0), [[10, 1158, 0, 0], [6]]),
  (.aload_n 0, 1, (0, 0), []),
  (.iconst 0, 1, (0, 0), []),
  (.putfield 54, 3, (0, 0), [[12, 1160, 0, 0], [6]]),
  (.iconst 0, 1, (0, 0), []),
  (.istore_n 1, 1, (0, 0), [])]
def qX6_readTape_29 : List mO := [(.iload_n 1, 1, (0, 0), []),
  (.aload_n 0, 1, (0, 0), []),
  (.getfield 9, 3, (0, 0), [[0, 1145, 0, 0], [6]]),
  (.if_icmp .gt 49, 3, (0, 0), [[83]]),
  (.aload_n 0, 1, (0, 0), []),
  (.invokevirtual 60, 3, (0, 0), [[0, 2237, 0], [6, 37, 1, 2239]])]
def qX6_readTape_41 : List mO := [(.aload_n 0, 1, (0, 0), []),
  (.getfield 26, 3, (0, 0), [[3, 1151, 0, 0], [6]]),
  (.iconst 4, 1, (4, 0), []),
  (.if_icmp .ne 19, 3, (0, 0), [[65]]),
  (.aload_n 0, 1, (0, 0), []),
  (.getfield 38, 3, (0, 0), [[7, 1155, 0, 0], [6]]),
  (.ifCond .ne 7, 3, (0, 0), [[60]]),
  (.iconst (-1), 1, ((-1), 0), []),
  (.goto 7, 3, (0, 0), [[64]])]
def qX6_readTape_60 : List mO := [(.aload_n 0, 1, (0, 0), []),
  (.getfield 9, 3, (0, 0), [[0, 1145, 0, 0], [6]])]
def qX6_readTape_64 : List mO := [(.ireturn, 1, (0, 0), [])]
def qX6_readTape_65 : List mO := [(.aload_n 0, 1, (0, 0), []),
  (.invokevirtual 63, 3, (0, 0), [[0, 3013, 0], [6, 41, 5, 3015]])]
def qX6_readTape_69 : List mO := [(.ifCond .ne 8, 3, (0, 0), [[77]]),
  (.aload_n 0, 1, (0, 0), []),
  (.getfield 29, 3, (0, 0), [[4, 1152, 0, 0], [6]]),
  (.ireturn, 1, (0, 0), [])]
def qX6_readTape_77 : List mO := [(.iinc 1 1, 3, (1, 0), []),
  (.goto (-51), 3, (0, 0), [[29]])]
def qX6_readTape_83 : List mO := [(.aload_n 0, 1, (0, 0), []),
  (.getfield 9, 3, (0, 0), [[0, 1145, 0, 0], [6]]),
  (.ireturn, 1, (0, 0), [])]
def pX6_readTape : List (Nat × List mO) := [(0, qX6_readTape_0), (7, qX6_readTape_7), (29, qX6_readTape_29), (41, qX6_readTape_41), (60, qX6_readTape_60), (64, qX6_readTape_64), (65, qX6_readTape_65), (69, qX6_readTape_69), (77, qX6_readTape_77), (83, qX6_readTape_83)]
def qX6_readToken_0 : List mO := [(.aload_n 0, 1, (0, 0), []),
  (.getfield 32, 3, (0, 0), [[5, 1153, 0, 0], [6]]),
  (.aload_n 0, 1, (0, 0), []),
  (.getfield 9, 3, (0, 0), [[0, 1145, 0, 0], [6]]),
  (.if_icmp .ge 30, 3, (0, 0), [[38]]),
  (.aload_n 0, 1, (0, 0), []),
  (.getfield 15, 3, (0, 0), [[1, 1147, 0, 1], [6]]),
  (.aload_n 0, 1, (0, 0), []),
  (.getfield 32, 3, (0, 0), [[5, 1153, 0, 0], [6]]),
  (.baload, 1, (0, 0), []),
  (.bipush 32, 2, (32, 0), []),
  (.if_icmp .ne 16, 3, (0, 0), [[38]]),
  (.aload_n 0, 1, (0, 0), []),
  (.dup, 1, (0, 0), []),
  (.getfield 32, 3, (0, 0), [[5, 1153, 0, 0], [6]]),
  (.iconst 1, 1, (1, 0), []),
  (.iadd, 1, (0, 0), []),
  (.putfield 32, 3, (0, 0), [[5, 1153, 0, 0], [6]]),
  (.goto (-35), 3, (0, 0), [[0]])]
def qX6_readToken_38 : List mO := [(.aload_n 0, 1, (0, 0), []),
  (.aload_n 0, 1, (0, 0), []),
  (.getfield 32, 3, (0, 0), [[5, 1153, 0, 0], [6]]),
  (.putfield 29, 3, (0, 0), [[4, 1152, 0, 0], [6]]),
  (.aload_n 0, 1, (0, 0), []),
  (.getfield 32, 3, (0, 0), [[5, 1153, 0, 0], [6]]),
  (.aload_n 0, 1, (0, 0), []),
  (.getfield 9, 3, (0, 0), [[0, 1145, 0, 0], [6]]),
  (.if_icmp .lt 11, 3, (0, 0), [[65]]),
  (.aload_n 0, 1, (0, 0), []),
  (.iconst 4, 1, (4, 0), []),
  (.putfield 26, 3, (0, 0), [[3, 1151, 0, 0], [6]]),
  (.goto 100, 3, (0, 0), [[162]])]
def qX6_readToken_65 : List mO := [(.aload_n 0, 1, (0, 0), []),
  (.aload_n 0, 1, (0, 0), []),
  (.getfield 32, 3, (0, 0), [[5, 1153, 0, 0], [6]]),
  (.invokevirtual 67, 3, (0, 0), [[1, 3001, 0], [6, 39, 2, 3003]])]
def qX6_readToken_73 : List mO := [(.ifCond .eq 43, 3, (0, 0), [[116]]),
  (.aload_n 0, 1, (0, 0), []),
  (.iconst 0, 1, (0, 0), []),
  (.putfield 26, 3, (0, 0), [[3, 1151, 0, 0], [6]])]
def qX6_readToken_81 : List mO := [(.aload_n 0, 1, (0, 0), []),
  (.getfield 32, 3, (0, 0), [[5, 1153, 0, 0], [6]]),
  (.aload_n 0, 1, (0, 0), []),
  (.getfield 9, 3, (0, 0), [[0, 1145, 0, 0], [6]]),
  (.if_icmp .ge 73, 3, (0, 0), [[162]]),
  (.aload_n 0, 1, (0, 0), []),
  (.aload_n 0, 1, (0, 0), []),
  (.getfield 32, 3, (0, 0), [[5, 1153, 0, 0], [6]]),
  (.invokevirtual 67, 3, (0, 0), [[1, 3001, 0], [6, 39, 2, 3003]])]
def qX6_readToken_100 : List mO := [(.ifCond .eq 62, 3, (0, 0), [[162]]),
  (.aload_n 0, 1, (0, 0), []),
  (.dup, 1, (0, 0), []),
  (.getfield 32, 3, (0, 0), [[5, 1153, 0, 0], [6]]),
  (.iconst 1, 1, (1, 0), []),
  (.iadd, 1, (0, 0), []),
  (.putfield 32, 3, (0, 0), [[5, 1153, 0, 0], [6]]),
  (.goto (-32), 3, (0, 0), [[81]])]
def qX6_readToken_116 : List mO := [(.aload_n 0, 1, (0, 0), []),
  (.aload_n 0, 1, (0, 0), []),
  (.getfield 32, 3, (0, 0), [[5, 1153, 0, 0], [6]]),
  (.invokevirtual 71, 3, (0, 0), [[1, 3005, 0], [6, 40, 3, 3007]])]
def qX6_readToken_124 : List mO := [(.ifCond .eq 10, 3, (0, 0), [[134]]),
  (.aload_n 0, 1, (0, 0), []),
  (.invokevirtual 74, 3, (0, 0), [[0, 3009, 0], [6, 38, 4, 3011]])]
def qX6_readToken_131 : List mO := [(.goto 31, 3, (0, 0), [[162]])]
def qX6_readToken_134 : List mO := [(.aload_n 0, 1, (0, 0), []),
  (.iconst 2, 1, (2, 0), []),
  (.putfield 26, 3, (0, 0), [[3, 1151, 0, 0], [6]]),
  (.aload_n 0, 1, (0, 0), []),
  (.aload_n 0, 1, (0, 0), []),
  (.getfield 15, 3, (0, 0), [[1, 1147, 0, 1], [6]]),
  (.aload_n 0, 1, (0, 0), []),
  (.getfield 32, 3, (0, 0), [[5, 1153, 0, 0], [6]]),
  (.baload, 1, (0, 0), []),
  (.putfield 35, 3, (0, 0), [[6, 1154, 0, 0], [6]]),
  (.aload_n 0, 1, (0, 0), []),
  (.dup, 1, (0, 0), []),
  (.getfield 32, 3, (0, 0), [[5, 1153, 0, 0], [6]]),
  (.iconst 1, 1, (1, 0), []),
  (.iadd, 1, (0, 0), []),
  (.putfield 32, 3, (0, 0), [[5, 1153, 0, 0], [6]])]
def qX6_readToken_162 : List mO := [(.return_, 1, (0, 0), [])]
def pX6_readToken : List (Nat × List mO) := [(0, qX6_readToken_0), (38, qX6_readToken_38), (65, qX6_readToken_65), (73, qX6_readToken_73), (81, qX6_readToken_81), (100, qX6_readToken_100), (116, qX6_readToken_116), (124, qX6_readToken_124), (131, qX6_readToken_131), (134, qX6_readToken_134), (162, qX6_readToken_162)]
def qX6_readNumber_0 : List mO := [(.aload_n 0, 1, (0, 0), []),
  (.iconst 0, 1, (0, 0), []),
  (.putfield 35, 3, (0, 0), [[6, 1154, 0, 0], [6]])]
def qX6_readNumber_5 : List mO := [(.aload_n 0, 1, (0, 0), []),
  (.getfield 32, 3, (0, 0), [[5, 1153, 0, 0], [6]]),
  (.aload_n 0, 1, (0, 0), []),
  (.getfield 9, 3, (0, 0), [[0, 1145, 0, 0], [6]]),
  (.if_icmp .ge 64, 3, (0, 0), [[77]]),
  (.aload_n 0, 1, (0, 0), []),
  (.aload_n 0, 1, (0, 0), []),
  (.getfield 32, 3, (0, 0), [[5, 1153, 0, 0], [6]]),
  (.invokevirtual 71, 3, (0, 0), [[1, 3005, 0], [6, 40, 3, 3007]])]
def qX6_readNumber_24 : List mO := [(.ifCond .eq 53, 3, (0, 0), [[77]]),
  (.aload_n 0, 1, (0, 0), []),
  (.getfield 32, 3, (0, 0), [[5, 1153, 0, 0], [6]]),
  (.aload_n 0, 1, (0, 0), []),
  (.getfield 29, 3, (0, 0), [[4, 1152, 0, 0], [6]]),
  (.isub, 1, (0, 0), []),
  (.iconst 4, 1, (4, 0), []),
  (.if_icmp .ge 27, 3, (0, 0), [[64]]),
  (.aload_n 0, 1, (0, 0), []),
  (.aload_n 0, 1, (0, 0), []),
  (.getfield 35, 3, (0, 0), [[6, 1154, 0, 0], [6]]),
  (.bipush 10, 2, (10, 0), []),
  (.imul, 1, (0, 0), []),
  (.aload_n 0, 1, (0, 0), []),
  (.getfield 15, 3, (0, 0), [[1, 1147, 0, 1], [6]]),
  (.aload_n 0, 1, (0, 0), []),
  (.getfield 32, 3, (0, 0), [[5, 1153, 0, 0], [6]]),
  (.baload, 1, (0, 0), []),
  (.iadd, 1, (0, 0), []),
  (.bipush 48, 2, (48, 0), []),
  (.isub, 1, (0, 0), []),
  (.putfield 35, 3, (0, 0), [[6, 1154, 0, 0], [6]])]
def qX6_readNumber_64 : List mO := [(.aload_n 0, 1, (0, 0), []),
  (.dup, 1, (0, 0), []),
  (.getfield 32, 3, (0, 0), [[5, 1153, 0, 0], [6]]),
  (.iconst 1, 1, (1, 0), []),
  (.iadd, 1, (0, 0), []),
  (.putfield 32, 3, (0, 0), [[5, 1153, 0, 0], [6]]),
  (.goto (-69), 3, (0, 0), [[5]])]
def qX6_readNumber_77 : List mO := [(.aload_n 0, 1, (0, 0), []),
  (.aload_n 0, 1, (0, 0), []),
  (.getfield 32, 3, (0, 0), [[5, 1153, 0, 0], [6]]),
  (.aload_n 0, 1, (0, 0), []),
  (.getfield 29, 3, (0, 0), [[4, 1152, 0, 0], [6]]),
  (.isub, 1, (0, 0), []),
  (.iconst 4, 1, (4, 0), []),
  (.if_icmp .le 7, 3, (0, 0), [[95]]),
  (.iconst 3, 1, (3, 0), []),
  (.goto 4, 3, (0, 0), [[96]])]
def qX6_readNumber_95 : List mO := [(.iconst 1, 1, (1, 0), [])]
def qX6_readNumber_96 : List mO := [(.putfield 26, 3, (0, 0), [[3, 1151, 0, 0], [6]]),
  (.return_, 1, (0, 0), [])]
def pX6_readNumber : List (Nat × List mO) := [(0, qX6_readNumber_0), (5, qX6_readNumber_5), (24, qX6_readNumber_24), (64, qX6_readNumber_64), (77, qX6_readNumber_77), (95, qX6_readNumber_95), (96, qX6_readNumber_96)]
def qX6_isLetter_0 : List mO := [(.aload_n 0, 1, (0, 0), []),
  (.getfield 15, 3, (0, 0), [[1, 1147, 0, 1], [6]]),
  (.iload_n 1, 1, (0, 0), []),
  (.baload, 1, (0, 0), []),
  (.bipush 97, 2, (97, 0), []),
  (.if_icmp .lt 18, 3, (0, 0), [[26]]),
  (.aload_n 0, 1, (0, 0), []),
  (.getfield 15, 3, (0, 0), [[1, 1147, 0, 1], [6]]),
  (.iload_n 1, 1, (0, 0), []),
  (.baload, 1, (0, 0), []),
  (.bipush 122, 2, (122, 0), []),
  (.if_icmp .gt 7, 3, (0, 0), [[26]]),
  (.iconst 1, 1, (1, 0), []),
  (.goto 4, 3, (0, 0), [[27]])]
def qX6_isLetter_26 : List mO := [(.iconst 0, 1, (0, 0), [])]
def qX6_isLetter_27 : List mO := [(.ireturn, 1, (0, 0), [[1]])]
def pX6_isLetter : List (Nat × List mO) := [(0, qX6_isLetter_0), (26, qX6_isLetter_26), (27, qX6_isLetter_27)]
def qX6_isDigit_0 : List mO := [(.aload_n 0, 1, (0, 0), []),
  (.getfield 15, 3, (0, 0), [[1, 1147, 0, 1], [6]]),
  (.iload_n 1, 1, (0, 0), []),
  (.baload, 1, (0, 0), []),
  (.bipush 48, 2, (48, 0), []),
  (.if_icmp .lt 18, 3, (0, 0), [[26]]),
  (.aload_n 0, 1, (0, 0), []),
  (.getfield 15, 3, (0, 0), [[1, 1147, 0, 1], [6]]),
  (.iload_n 1, 1, (0, 0), []),
  (.baload, 1, (0, 0), []),
  (.bipush 57, 2, (57, 0), []),
  (.if_icmp .gt 7, 3, (0, 0), [[26]]),
  (.iconst 1, 1, (1, 0), []),
  (.goto 4, 3, (0, 0), [[27]])]
def qX6_isDigit_26 : List mO := [(.iconst 0, 1, (0, 0), [])]
def qX6_isDigit_27 : List mO := [(.ireturn, 1, (0, 0), [[1]])]
def pX6_isDigit : List (Nat × List mO) := [(0, qX6_isDigit_0), (26, qX6_isDigit_26), (27, qX6_isDigit_27)]
def qX6_takesToken_0 : List mO := [(.aload_n 0, 1, (0, 0), []),
  (.getfield 38, 3, (0, 0), [[7, 1155, 0, 0], [6]]),
  (.tableswitch 138 0 6 #[44, 49, 69, 96, 101, 106, 133], 44, (0, 0), [[142], [0, 48], [1, 53], [2, 73], [3, 100], [4, 105], [5, 110], [6, 137]])]
def qX6_takesToken_48 : List mO := [(.aload_n 0, 1, (0, 0), []),
  (.invokevirtual 77, 3, (0, 0), [[0, 3017, 0], [6, 42, 6, 3019]])]
def qX6_takesToken_52 : List mO := [(.ireturn, 1, (0, 0), [[1]])]
def qX6_takesToken_53 : List mO := [(.aload_n 0, 1, (0, 0), []),
  (.invokevirtual 80, 3, (0, 0), [[0, 3078, 0], [6, 43, 9, 3080]])]
def qX6_takesToken_57 : List mO := [(.ifCond .ne 10, 3, (0, 0), [[67]]),
  (.aload_n 0, 1, (0, 0), []),
  (.invokevirtual 83, 3, (0, 0), [[0, 3087, 0], [6, 44, 11, 3089]])]
def qX6_takesToken_64 : List mO := [(.ifCond .eq 7, 3, (0, 0), [[71]])]
def qX6_takesToken_67 : List mO := [(.iconst 1, 1, (1, 0), []),
  (.goto 4, 3, (0, 0), [[72]])]
def qX6_takesToken_71 : List mO := [(.iconst 0, 1, (0, 0), [])]
def qX6_takesToken_72 : List mO := [(.ireturn, 1, (0, 0), [[1]])]
def qX6_takesToken_73 : List mO := [(.aload_n 0, 1, (0, 0), []),
  (.invokevirtual 86, 3, (0, 0), [[0, 3100, 0], [6, 45, 13, 3102]])]
def qX6_takesToken_77 : List mO := [(.ifCond .ne 17, 3, (0, 0), [[94]]),
  (.aload_n 0, 1, (0, 0), []),
  (.invokevirtual 89, 3, (0, 0), [[0, 3109, 0], [6, 46, 15, 3111]])]
def qX6_takesToken_84 : List mO := [(.ifCond .ne 10, 3, (0, 0), [[94]]),
  (.aload_n 0, 1, (0, 0), []),
  (.invokevirtual 92, 3, (0, 0), [[0, 3117, 0], [6, 47, 17, 3119]])]
def qX6_takesToken_91 : List mO := [(.ifCond .eq 7, 3, (0, 0), [[98]])]
def qX6_takesToken_94 : List mO := [(.iconst 1, 1, (1, 0), []),
  (.goto 4, 3, (0, 0), [[99]])]
def qX6_takesToken_98 : List mO := [(.iconst 0, 1, (0, 0), [])]
def qX6_takesToken_99 : List mO := [(.ireturn, 1, (0, 0), [[1]])]
def qX6_takesToken_100 : List mO := [(.aload_n 0, 1, (0, 0), []),
  (.invokevirtual 95, 3, (0, 0), [[0, 3126, 0], [6, 48, 19, 3128]])]
def qX6_takesToken_104 : List mO := [(.ireturn, 1, (0, 0), [[1]])]
def qX6_takesToken_105 : List mO := [(.aload_n 0, 1, (0, 0), []),
  (.invokevirtual 98, 3, (0, 0), [[0, 3130, 0], [6, 49, 20, 3132]])]
def qX6_takesToken_109 : List mO := [(.ireturn, 1, (0, 0), [[1]])]
def qX6_takesToken_110 : List mO := [(.aload_n 0, 1, (0, 0), []),
  (.invokevirtual 101, 3, (0, 0), [[0, 3137, 0], [6, 50, 21, 3139]])]
def qX6_takesToken_114 : List mO := [(.ifCond .ne 17, 3, (0, 0), [[131]]),
  (.aload_n 0, 1, (0, 0), []),
  (.invokevirtual 104, 3, (0, 0), [[0, 3142, 0], [6, 51, 22, 3144]])]
def qX6_takesToken_121 : List mO := [(.ifCond .ne 10, 3, (0, 0), [[131]]),
  (.aload_n 0, 1, (0, 0), []),
  (.invokevirtual 83, 3, (0, 0), [[0, 3087, 0], [6, 44, 11, 3089]])]
def qX6_takesToken_128 : List mO := [(.ifCond .eq 7, 3, (0, 0), [[135]])]
def qX6_takesToken_131 : List mO := [(.iconst 1, 1, (1, 0), []),
  (.goto 4, 3, (0, 0), [[136]])]
def qX6_takesToken_135 : List mO := [(.iconst 0, 1, (0, 0), [])]
def qX6_takesToken_136 : List mO := [(.ireturn, 1, (0, 0), [[1]])]
def qX6_takesToken_137 : List mO := [(.aload_n 0, 1, (0, 0), []),
  (.invokevirtual 107, 3, (0, 0), [[0, 3146, 0], [6, 52, 23, 3148]])]
def qX6_takesToken_141 : List mO := [(.ireturn, 1, (0, 0), [[1]])]
def qX6_takesToken_142 : List mO := [(.aload_n 0, 1, (0, 0), []),
  (.invokevirtual 110, 3, (0, 0), [[0, 3150, 0], [6, 53, 24, 3152]])]
def qX6_takesToken_146 : List mO := [(.ireturn, 1, (0, 0), [[1]])]
def pX6_takesToken : List (Nat × List mO) := [(0, qX6_takesToken_0), (48, qX6_takesToken_48), (52, qX6_takesToken_52), (53, qX6_takesToken_53), (57, qX6_takesToken_57), (64, qX6_takesToken_64), (67, qX6_takesToken_67), (71, qX6_takesToken_71), (72, qX6_takesToken_72), (73, qX6_takesToken_73), (77, qX6_takesToken_77), (84, qX6_takesToken_84), (91, qX6_takesToken_91), (94, qX6_takesToken_94), (98, qX6_takesToken_98), (99, qX6_takesToken_99), (100, qX6_takesToken_100), (104, qX6_takesToken_104), (105, qX6_takesToken_105), (109, qX6_takesToken_109), (110, qX6_takesToken_110), (114, qX6_takesToken_114), (121, qX6_takesToken_121), (128, qX6_takesToken_128), (131, qX6_takesToken_131), (135, qX6_takesToken_135), (136, qX6_takesToken_136), (137, qX6_takesToken_137), (141, qX6_takesToken_141), (142, qX6_takesToken_142), (146, qX6_takesToken_146)]
def qX6_takesKind_0 : List mO := [(.aload_n 0, 1, (0, 0), []),
  (.ldc 113, 2, (0, 0), [[1, 0]]),
  (.invokevirtual 115, 3, (0, 0), [[1, 3022, 0], [6, 59, 7, 3024]])]
def qX6_takesKind_6 : List mO := [(.istore_n 1, 1, (0, 0), []),
  (.iload_n 1, 1, (0, 0), []),
  (.ifCond .lt 15, 3, (0, 0), [[23]]),
  (.aload_n 0, 1, (0, 0), []),
  (.getfield 22, 3, (0, 0), [[2, 1149, 0, 1], [6]]),
  (.getfield 119, 3, (0, 0), [[0, 1043, 0, 0], [5]]),
  (.bipush 8, 2, (8, 0), []),
  (.if_icmp .lt 5, 3, (0, 0), [[25]])]
def qX6_takesKind_23 : List mO := [(.iconst 0, 1, (0, 0), []),
  (.ireturn, 1, (0, 0), [[1]])]
def qX6_takesKind_25 : List mO := [(.aload_n 0, 1, (0, 0), []),
  (.getfield 22, 3, (0, 0), [[2, 1149, 0, 1], [6]]),
  (.getfield 122, 3, (0, 0), [[1, 1046, 0, 1], [5]]),
  (.aload_n 0, 1, (0, 0), []),
  (.getfield 22, 3, (0, 0), [[2, 1149, 0, 1], [6]]),
  (.getfield 119, 3, (0, 0), [[0, 1043, 0, 0], [5]]),
  (.iload_n 1, 1, (0, 0), []),
  (.iastore, 1, (0, 0), []),
  (.aload_n 0, 1, (0, 0), []),
  (.getfield 22, 3, (0, 0), [[2, 1149, 0, 1], [6]]),
  (.getfield 125, 3, (0, 0), [[3, 1050, 0, 1], [5]]),
  (.aload_n 0, 1, (0, 0), []),
  (.getfield 22, 3, (0, 0), [[2, 1149, 0, 1], [6]]),
  (.getfield 119, 3, (0, 0), [[0, 1043, 0, 0], [5]]),
  (.iconst 0, 1, (0, 0), []),
  (.iastore, 1, (0, 0), []),
  (.aload_n 0, 1, (0, 0), []),
  (.iconst 1, 1, (1, 0), []),
  (.putfield 38, 3, (0, 0), [[7, 1155, 0, 0], [6]]),
  (.iconst 1, 1, (1, 0), []),
  (.ireturn, 1, (0, 0), [[1]])]
def pX6_takesKind : List (Nat × List mO) := [(0, qX6_takesKind_0), (6, qX6_takesKind_6), (23, qX6_takesKind_23), (25, qX6_takesKind_25)]
def qX6_takesIf_0 : List mO := [(.aload_n 0, 1, (0, 0), []),
  (.iconst 2, 1, (2, 0), []),
  (.aload_n 0, 1, (0, 0), []),
  (.ldc 128, 2, (0, 0), [[1, 1]]),
  (.invokevirtual 115, 3, (0, 0), [[1, 3022, 0], [6, 59, 7, 3024]])]
def qX6_takesIf_8 : List mO := [(.ifCond .ne 7, 3, (0, 0), [[15]]),
  (.iconst 1, 1, (1, 0), []),
  (.goto 4, 3, (0, 0), [[16]])]
def qX6_takesIf_15 : List mO := [(.iconst 0, 1, (0, 0), [])]
def qX6_takesIf_16 : List mO := [(.invokevirtual 130, 3, (0, 0), [[2, 3083, 0], [6, 54, 10, 3085]])]
def qX6_takesIf_19 : List mO := [(.ireturn, 1, (0, 0), [[1]])]
def pX6_takesIf : List (Nat × List mO) := [(0, qX6_takesIf_0), (8, qX6_takesIf_8), (15, qX6_takesIf_15), (16, qX6_takesIf_16), (19, qX6_takesIf_19)]
def qX6_takesDeed_0 : List mO := [(.aload_n 0, 1, (0, 0), []),
  (.ldc 134, 2, (0, 0), [[1, 2]]),
  (.invokevirtual 115, 3, (0, 0), [[1, 3022, 0], [6, 59, 7, 3024]])]
def qX6_takesDeed_6 : List mO := [(.istore_n 1, 1, (0, 0), []),
  (.iload_n 1, 1, (0, 0), []),
  (.ifCond .lt 22, 3, (0, 0), [[30]]),
  (.aload_n 0, 1, (0, 0), []),
  (.getfield 47, 3, (0, 0), [[10, 1158, 0, 0], [6]]),
  (.ifCond .gt 15, 3, (0, 0), [[30]]),
  (.aload_n 0, 1, (0, 0), []),
  (.getfield 22, 3, (0, 0), [[2, 1149, 0, 1], [6]]),
  (.getfield 119, 3, (0, 0), [[0, 1043, 0, 0], [5]]),
  (.bipush 8, 2, (8, 0), []),
  (.if_icmp .lt 5, 3, (0, 0), [[32]])]
def qX6_takesDeed_30 : List mO := [(.iconst 0, 1, (0, 0), []),
  (.ireturn, 1, (0, 0), [[1]])]
def qX6_takesDeed_32 : List mO := [(.aload_n 0, 1, (0, 0), []),
  (.iconst 1, 1, (1, 0), []),
  (.invokevirtual 136, 3, (0, 0), [[1, 3092, 0], [6, 58, 12, 3094]])]
def qX6_takesDeed_37 : List mO := [(.aload_n 0, 1, (0, 0), []),
  (.getfield 22, 3, (0, 0), [[2, 1149, 0, 1], [6]]),
  (.getfield 140, 3, (0, 0), [[2, 1048, 0, 1], [5]]),
  (.aload_n 0, 1, (0, 0), []),
  (.getfield 22, 3, (0, 0), [[2, 1149, 0, 1], [6]]),
  (.getfield 119, 3, (0, 0), [[0, 1043, 0, 0], [5]]),
  (.iload_n 1, 1, (0, 0), []),
  (.iastore, 1, (0, 0), []),
  (.aload_n 0, 1, (0, 0), []),
  (.iload_n 1, 1, (0, 0), []),
  (.iconst 3, 1, (3, 0), []),
  (.if_icmp .ne 8, 3, (0, 0), [[64]]),
  (.bipush 7, 2, (7, 0), []),
  (.goto 5, 3, (0, 0), [[66]])]
def qX6_takesDeed_64 : List mO := [(.bipush 6, 2, (6, 0), [])]
def qX6_takesDeed_66 : List mO := [(.putfield 38, 3, (0, 0), [[7, 1155, 0, 0], [6]]),
  (.iconst 1, 1, (1, 0), []),
  (.ireturn, 1, (0, 0), [[1]])]
def pX6_takesDeed : List (Nat × List mO) := [(0, qX6_takesDeed_0), (6, qX6_takesDeed_6), (30, qX6_takesDeed_30), (32, qX6_takesDeed_32), (37, qX6_takesDeed_37), (64, qX6_takesDeed_64), (66, qX6_takesDeed_66)]
def qX6_takesNot_0 : List mO := [(.aload_n 0, 1, (0, 0), []),
  (.ldc 143, 2, (0, 0), [[1, 3]]),
  (.invokevirtual 115, 3, (0, 0), [[1, 3022, 0], [6, 59, 7, 3024]])]
def qX6_takesNot_6 : List mO := [(.ifCond .eq 5, 3, (0, 0), [[11]]),
  (.iconst 0, 1, (0, 0), []),
  (.ireturn, 1, (0, 0), [[1]])]
def qX6_takesNot_11 : List mO := [(.aload_n 0, 1, (0, 0), []),
  (.iconst 3, 1, (3, 0), []),
  (.invokevirtual 145, 3, (0, 0), [[1, 3105, 0], [6, 57, 14, 3107]])]
def qX6_takesNot_16 : List mO := [(.iconst 1, 1, (1, 0), []),
  (.ireturn, 1, (0, 0), [[1]])]
def pX6_takesNot : List (Nat × List mO) := [(0, qX6_takesNot_0), (6, qX6_takesNot_6), (11, qX6_takesNot_11), (16, qX6_takesNot_16)]
def qX6_takesOpening_0 : List mO := [(.aload_n 0, 1, (0, 0), []),
  (.bipush 40, 2, (40, 0), []),
  (.invokevirtual 148, 3, (0, 0), [[1, 3113, 0], [6, 55, 16, 3115]])]
def qX6_takesOpening_6 : List mO := [(.ifCond .eq 11, 3, (0, 0), [[17]]),
  (.aload_n 0, 1, (0, 0), []),
  (.getfield 47, 3, (0, 0), [[10, 1158, 0, 0], [6]]),
  (.iconst 3, 1, (3, 0), []),
  (.if_icmp .lt 5, 3, (0, 0), [[19]])]
def qX6_takesOpening_17 : List mO := [(.iconst 0, 1, (0, 0), []),
  (.ireturn, 1, (0, 0), [[1]])]
def qX6_takesOpening_19 : List mO := [(.aload_n 0, 1, (0, 0), []),
  (.dup, 1, (0, 0), []),
  (.getfield 47, 3, (0, 0), [[10, 1158, 0, 0], [6]]),
  (.iconst 1, 1, (1, 0), []),
  (.iadd, 1, (0, 0), []),
  (.putfield 47, 3, (0, 0), [[10, 1158, 0, 0], [6]]),
  (.aload_n 0, 1, (0, 0), []),
  (.iconst 0, 1, (0, 0), []),
  (.invokevirtual 145, 3, (0, 0), [[1, 3105, 0], [6, 57, 14, 3107]])]
def qX6_takesOpening_34 : List mO := [(.iconst 1, 1, (1, 0), []),
  (.ireturn, 1, (0, 0), [[1]])]
def pX6_takesOpening : List (Nat × List mO) := [(0, qX6_takesOpening_0), (6, qX6_takesOpening_6), (17, qX6_takesOpening_17), (19, qX6_takesOpening_19), (34, qX6_takesOpening_34)]
def qX6_takesLeft_0 : List mO := [(.aload_n 0, 1, (0, 0), []),
  (.aload_n 0, 1, (0, 0), []),
  (.invokevirtual 152, 3, (0, 0), [[0, 3121, 0], [6, 56, 18, 3123]])]
def qX6_takesLeft_5 : List mO := [(.putfield 41, 3, (0, 0), [[8, 1156, 0, 0], [6]]),
  (.aload_n 0, 1, (0, 0), []),
  (.iconst 3, 1, (3, 0), []),
  (.aload_n 0, 1, (0, 0), []),
  (.getfield 41, 3, (0, 0), [[8, 1156, 0, 0], [6]]),
  (.ifCond .lt 7, 3, (0, 0), [[21]]),
  (.iconst 1, 1, (1, 0), []),
  (.goto 4, 3, (0, 0), [[22]])]
def qX6_takesLeft_21 : List mO := [(.iconst 0, 1, (0, 0), [])]
def qX6_takesLeft_22 : List mO := [(.invokevirtual 130, 3, (0, 0), [[2, 3083, 0], [6, 54, 10, 3085]])]
def qX6_takesLeft_25 : List mO := [(.ireturn, 1, (0, 0), [[1]])]
def pX6_takesLeft : List (Nat × List mO) := [(0, qX6_takesLeft_0), (5, qX6_takesLeft_5), (21, qX6_takesLeft_21), (22, qX6_takesLeft_22), (25, qX6_takesLeft_25)]
def qX6_takesSign_0 : List mO := [(.aload_n 0, 1, (0, 0), []),
  (.aload_n 0, 1, (0, 0), []),
  (.bipush 60, 2, (60, 0), []),
  (.invokevirtual 148, 3, (0, 0), [[1, 3113, 0], [6, 55, 16, 3115]])]
def qX6_takesSign_7 : List mO := [(.ifCond .eq 7, 3, (0, 0), [[14]]),
  (.iconst 1, 1, (1, 0), []),
  (.goto 30, 3, (0, 0), [[41]])]
def qX6_takesSign_14 : List mO := [(.aload_n 0, 1, (0, 0), []),
  (.bipush 61, 2, (61, 0), []),
  (.invokevirtual 148, 3, (0, 0), [[1, 3113, 0], [6, 55, 16, 3115]])]
def qX6_takesSign_20 : List mO := [(.ifCond .eq 7, 3, (0, 0), [[27]]),
  (.iconst 2, 1, (2, 0), []),
  (.goto 17, 3, (0, 0), [[41]])]
def qX6_takesSign_27 : List mO := [(.aload_n 0, 1, (0, 0), []),
  (.bipush 62, 2, (62, 0), []),
  (.invokevirtual 148, 3, (0, 0), [[1, 3113, 0], [6, 55, 16, 3115]])]
def qX6_takesSign_33 : List mO := [(.ifCond .eq 7, 3, (0, 0), [[40]]),
  (.iconst 3, 1, (3, 0), []),
  (.goto 4, 3, (0, 0), [[41]])]
def qX6_takesSign_40 : List mO := [(.iconst 0, 1, (0, 0), [])]
def qX6_takesSign_41 : List mO := [(.putfield 44, 3, (0, 0), [[9, 1157, 0, 0], [6]]),
  (.aload_n 0, 1, (0, 0), []),
  (.iconst 4, 1, (4, 0), []),
  (.aload_n 0, 1, (0, 0), []),
  (.getfield 44, 3, (0, 0), [[9, 1157, 0, 0], [6]]),
  (.ifCond .eq 7, 3, (0, 0), [[57]]),
  (.iconst 1, 1, (1, 0), []),
  (.goto 4, 3, (0, 0), [[58]])]
def qX6_takesSign_57 : List mO := [(.iconst 0, 1, (0, 0), [])]
def qX6_takesSign_58 : List mO := [(.invokevirtual 130, 3, (0, 0), [[2, 3083, 0], [6, 54, 10, 3085]])]
def qX6_takesSign_61 : List mO := [(.ireturn, 1, (0, 0), [[1]])]
def pX6_takesSign : List (Nat × List mO) := [(0, qX6_takesSign_0), (7, qX6_takesSign_7), (14, qX6_takesSign_14), (20, qX6_takesSign_20), (27, qX6_takesSign_27), (33, qX6_takesSign_33), (40, qX6_takesSign_40), (41, qX6_takesSign_41), (57, qX6_takesSign_57), (58, qX6_takesSign_58), (61, qX6_takesSign_61)]
def qX6_takesRight_0 : List mO := [(.aload_n 0, 1, (0, 0), []),
  (.invokevirtual 152, 3, (0, 0), [[0, 3121, 0], [6, 56, 18, 3123]])]
def qX6_takesRight_4 : List mO := [(.istore_n 1, 1, (0, 0), []),
  (.iload_n 1, 1, (0, 0), []),
  (.ifCond .ge 5, 3, (0, 0), [[11]]),
  (.iconst 0, 1, (0, 0), []),
  (.ireturn, 1, (0, 0), [[1]])]
def qX6_takesRight_11 : List mO := [(.aload_n 0, 1, (0, 0), []),
  (.getfield 22, 3, (0, 0), [[2, 1149, 0, 1], [6]]),
  (.aload_n 0, 1, (0, 0), []),
  (.getfield 44, 3, (0, 0), [[9, 1157, 0, 0], [6]]),
  (.aload_n 0, 1, (0, 0), []),
  (.getfield 41, 3, (0, 0), [[8, 1156, 0, 0], [6]]),
  (.iload_n 1, 1, (0, 0), []),
  (.invokestatic 156, 3, (0, 0), [[3, 28, 3134, 3135, 0]])]
def qX6_takesRight_27 : List mO := [(.invokevirtual 160, 3, (0, 0), [[1, 3096, 0], [5, 27, 3098, 3097]])]
def qX6_takesRight_30 : List mO := [(.aload_n 0, 1, (0, 0), []),
  (.iconst 5, 1, (5, 0), []),
  (.putfield 38, 3, (0, 0), [[7, 1155, 0, 0], [6]]),
  (.iconst 1, 1, (1, 0), []),
  (.ireturn, 1, (0, 0), [[1]])]
def pX6_takesRight : List (Nat × List mO) := [(0, qX6_takesRight_0), (4, qX6_takesRight_4), (11, qX6_takesRight_11), (27, qX6_takesRight_27), (30, qX6_takesRight_30)]
def qX6_takesJoint_0 : List mO := [(.aload_n 0, 1, (0, 0), []),
  (.ldc 163, 2, (0, 0), [[1, 5]]),
  (.invokevirtual 115, 3, (0, 0), [[1, 3022, 0], [6, 59, 7, 3024]])]
def qX6_takesJoint_6 : List mO := [(.iconst 1, 1, (1, 0), []),
  (.iadd, 1, (0, 0), []),
  (.istore_n 1, 1, (0, 0), []),
  (.iload_n 1, 1, (0, 0), []),
  (.iconst 1, 1, (1, 0), []),
  (.if_icmp .eq 10, 3, (0, 0), [[21]]),
  (.iload_n 1, 1, (0, 0), []),
  (.iconst 2, 1, (2, 0), []),
  (.if_icmp .eq 5, 3, (0, 0), [[21]]),
  (.iconst 0, 1, (0, 0), []),
  (.ireturn, 1, (0, 0), [[1]])]
def qX6_takesJoint_21 : List mO := [(.aload_n 0, 1, (0, 0), []),
  (.iload_n 1, 1, (0, 0), []),
  (.invokevirtual 136, 3, (0, 0), [[1, 3092, 0], [6, 58, 12, 3094]])]
def qX6_takesJoint_26 : List mO := [(.aload_n 0, 1, (0, 0), []),
  (.iload_n 1, 1, (0, 0), []),
  (.invokevirtual 145, 3, (0, 0), [[1, 3105, 0], [6, 57, 14, 3107]])]
def qX6_takesJoint_31 : List mO := [(.aload_n 0, 1, (0, 0), []),
  (.iconst 2, 1, (2, 0), []),
  (.putfield 38, 3, (0, 0), [[7, 1155, 0, 0], [6]]),
  (.iconst 1, 1, (1, 0), []),
  (.ireturn, 1, (0, 0), [[1]])]
def pX6_takesJoint : List (Nat × List mO) := [(0, qX6_takesJoint_0), (6, qX6_takesJoint_6), (21, qX6_takesJoint_21), (26, qX6_takesJoint_26), (31, qX6_takesJoint_31)]
def qX6_takesClosing_0 : List mO := [(.aload_n 0, 1, (0, 0), []),
  (.bipush 41, 2, (41, 0), []),
  (.invokevirtual 148, 3, (0, 0), [[1, 3113, 0], [6, 55, 16, 3115]])]
def qX6_takesClosing_6 : List mO := [(.ifCond .eq 10, 3, (0, 0), [[16]]),
  (.aload_n 0, 1, (0, 0), []),
  (.getfield 47, 3, (0, 0), [[10, 1158, 0, 0], [6]]),
  (.ifCond .ne 5, 3, (0, 0), [[18]])]
def qX6_takesClosing_16 : List mO := [(.iconst 0, 1, (0, 0), []),
  (.ireturn, 1, (0, 0), [[1]])]
def qX6_takesClosing_18 : List mO := [(.aload_n 0, 1, (0, 0), []),
  (.dup, 1, (0, 0), []),
  (.getfield 47, 3, (0, 0), [[10, 1158, 0, 0], [6]]),
  (.iconst 1, 1, (1, 0), []),
  (.isub, 1, (0, 0), []),
  (.putfield 47, 3, (0, 0), [[10, 1158, 0, 0], [6]]),
  (.aload_n 0, 1, (0, 0), []),
  (.iconst 1, 1, (1, 0), []),
  (.invokevirtual 136, 3, (0, 0), [[1, 3092, 0], [6, 58, 12, 3094]])]
def qX6_takesClosing_33 : List mO := [(.aload_n 0, 1, (0, 0), []),
  (.getfield 54, 3, (0, 0), [[12, 1160, 0, 0], [6]]),
  (.ifCond .le 13, 3, (0, 0), [[50]]),
  (.aload_n 0, 1, (0, 0), []),
  (.dup, 1, (0, 0), []),
  (.getfield 54, 3, (0, 0), [[12, 1160, 0, 0], [6]]),
  (.iconst 1, 1, (1, 0), []),
  (.isub, 1, (0, 0), []),
  (.putfield 54, 3, (0, 0), [[12, 1160, 0, 0], [6]])]
def qX6_takesClosing_50 : List mO := [(.iconst 1, 1, (1, 0), []),
  (.ireturn, 1, (0, 0), [[1]])]
def pX6_takesClosing : List (Nat × List mO) := [(0, qX6_takesClosing_0), (6, qX6_takesClosing_6), (16, qX6_takesClosing_16), (18, qX6_takesClosing_18), (33, qX6_takesClosing_33), (50, qX6_takesClosing_50)]
def qX6_takesN_0 : List mO := [(.aload_n 0, 1, (0, 0), []),
  (.getfield 26, 3, (0, 0), [[3, 1151, 0, 0], [6]]),
  (.iconst 1, 1, (1, 0), []),
  (.if_icmp .ne 15, 3, (0, 0), [[20]]),
  (.aload_n 0, 1, (0, 0), []),
  (.getfield 22, 3, (0, 0), [[2, 1149, 0, 1], [6]]),
  (.getfield 119, 3, (0, 0), [[0, 1043, 0, 0], [5]]),
  (.bipush 8, 2, (8, 0), []),
  (.if_icmp .lt 5, 3, (0, 0), [[22]])]
def qX6_takesN_20 : List mO := [(.iconst 0, 1, (0, 0), []),
  (.ireturn, 1, (0, 0), [[1]])]
def qX6_takesN_22 : List mO := [(.aload_n 0, 1, (0, 0), []),
  (.getfield 35, 3, (0, 0), [[6, 1154, 0, 0], [6]]),
  (.aload_n 0, 1, (0, 0), []),
  (.getfield 22, 3, (0, 0), [[2, 1149, 0, 1], [6]]),
  (.getfield 140, 3, (0, 0), [[2, 1048, 0, 1], [5]]),
  (.aload_n 0, 1, (0, 0), []),
  (.getfield 22, 3, (0, 0), [[2, 1149, 0, 1], [6]]),
  (.getfield 119, 3, (0, 0), [[0, 1043, 0, 0], [5]]),
  (.iaload, 1, (0, 0), []),
  (.iconst 2, 1, (2, 0), []),
  (.if_icmp .ne 8, 3, (0, 0), [[50]]),
  (.bipush 9, 2, (9, 0), []),
  (.goto 5, 3, (0, 0), [[52]])]
def qX6_takesN_50 : List mO := [(.bipush 99, 2, (99, 0), [])]
def qX6_takesN_52 : List mO := [(.if_icmp .le 5, 3, (0, 0), [[57]]),
  (.iconst 0, 1, (0, 0), []),
  (.ireturn, 1, (0, 0), [[1]])]
def qX6_takesN_57 : List mO := [(.aload_n 0, 1, (0, 0), []),
  (.getfield 22, 3, (0, 0), [[2, 1149, 0, 1], [6]]),
  (.getfield 125, 3, (0, 0), [[3, 1050, 0, 1], [5]]),
  (.aload_n 0, 1, (0, 0), []),
  (.getfield 22, 3, (0, 0), [[2, 1149, 0, 1], [6]]),
  (.getfield 119, 3, (0, 0), [[0, 1043, 0, 0], [5]]),
  (.aload_n 0, 1, (0, 0), []),
  (.getfield 35, 3, (0, 0), [[6, 1154, 0, 0], [6]]),
  (.iastore, 1, (0, 0), []),
  (.aload_n 0, 1, (0, 0), []),
  (.bipush 7, 2, (7, 0), []),
  (.putfield 38, 3, (0, 0), [[7, 1155, 0, 0], [6]]),
  (.iconst 1, 1, (1, 0), []),
  (.ireturn, 1, (0, 0), [[1]])]
def pX6_takesN : List (Nat × List mO) := [(0, qX6_takesN_0), (20, qX6_takesN_20), (22, qX6_takesN_22), (50, qX6_takesN_50), (52, qX6_takesN_52), (57, qX6_takesN_57)]
def qX6_takesSemicolon_0 : List mO := [(.aload_n 0, 1, (0, 0), []),
  (.bipush 59, 2, (59, 0), []),
  (.invokevirtual 148, 3, (0, 0), [[1, 3113, 0], [6, 55, 16, 3115]])]
def qX6_takesSemicolon_6 : List mO := [(.ifCond .eq 15, 3, (0, 0), [[21]]),
  (.aload_n 0, 1, (0, 0), []),
  (.getfield 22, 3, (0, 0), [[2, 1149, 0, 1], [6]]),
  (.getfield 119, 3, (0, 0), [[0, 1043, 0, 0], [5]]),
  (.bipush 8, 2, (8, 0), []),
  (.if_icmp .lt 5, 3, (0, 0), [[23]])]
def qX6_takesSemicolon_21 : List mO := [(.iconst 0, 1, (0, 0), []),
  (.ireturn, 1, (0, 0), [[1]])]
def qX6_takesSemicolon_23 : List mO := [(.aload_n 0, 1, (0, 0), []),
  (.getfield 22, 3, (0, 0), [[2, 1149, 0, 1], [6]]),
  (.getfield 165, 3, (0, 0), [[4, 1052, 0, 1], [5]]),
  (.aload_n 0, 1, (0, 0), []),
  (.getfield 22, 3, (0, 0), [[2, 1149, 0, 1], [6]]),
  (.getfield 119, 3, (0, 0), [[0, 1043, 0, 0], [5]]),
  (.aload_n 0, 1, (0, 0), []),
  (.getfield 22, 3, (0, 0), [[2, 1149, 0, 1], [6]]),
  (.getfield 168, 3, (0, 0), [[5, 1054, 0, 0], [5]]),
  (.iastore, 1, (0, 0), []),
  (.aload_n 0, 1, (0, 0), []),
  (.getfield 22, 3, (0, 0), [[2, 1149, 0, 1], [6]]),
  (.dup, 1, (0, 0), []),
  (.getfield 119, 3, (0, 0), [[0, 1043, 0, 0], [5]]),
  (.iconst 1, 1, (1, 0), []),
  (.iadd, 1, (0, 0), []),
  (.putfield 119, 3, (0, 0), [[0, 1043, 0, 0], [5]]),
  (.aload_n 0, 1, (0, 0), []),
  (.iconst 0, 1, (0, 0), []),
  (.putfield 38, 3, (0, 0), [[7, 1155, 0, 0], [6]]),
  (.iconst 1, 1, (1, 0), []),
  (.ireturn, 1, (0, 0), [[1]])]
def pX6_takesSemicolon : List (Nat × List mO) := [(0, qX6_takesSemicolon_0), (6, qX6_takesSemicolon_6), (21, qX6_takesSemicolon_21), (23, qX6_takesSemicolon_23)]
def qX6_goesTo_0 : List mO := [(.iload_n 2, 1, (0, 0), []),
  (.ifCond .eq 8, 3, (0, 0), [[9]]),
  (.aload_n 0, 1, (0, 0), []),
  (.iload_n 1, 1, (0, 0), []),
  (.putfield 38, 3, (0, 0), [[7, 1155, 0, 0], [6]])]
def qX6_goesTo_9 : List mO := [(.iload_n 2, 1, (0, 0), []),
  (.ireturn, 1, (0, 0), [[1]])]
def pX6_goesTo : List (Nat × List mO) := [(0, qX6_goesTo_0), (9, qX6_goesTo_9)]
def qX6_isSingle_0 : List mO := [(.aload_n 0, 1, (0, 0), []),
  (.getfield 26, 3, (0, 0), [[3, 1151, 0, 0], [6]]),
  (.iconst 2, 1, (2, 0), []),
  (.if_icmp .ne 15, 3, (0, 0), [[20]]),
  (.aload_n 0, 1, (0, 0), []),
  (.getfield 35, 3, (0, 0), [[6, 1154, 0, 0], [6]]),
  (.iload_n 1, 1, (0, 0), []),
  (.if_icmp .ne 7, 3, (0, 0), [[20]]),
  (.iconst 1, 1, (1, 0), []),
  (.goto 4, 3, (0, 0), [[21]])]
def qX6_isSingle_20 : List mO := [(.iconst 0, 1, (0, 0), [])]
def qX6_isSingle_21 : List mO := [(.ireturn, 1, (0, 0), [[1]])]
def pX6_isSingle : List (Nat × List mO) := [(0, qX6_isSingle_0), (20, qX6_isSingle_20), (21, qX6_isSingle_21)]
def qX6_operand_0 : List mO := [(.aload_n 0, 1, (0, 0), []),
  (.getfield 26, 3, (0, 0), [[3, 1151, 0, 0], [6]]),
  (.iconst 1, 1, (1, 0), []),
  (.if_icmp .ne 8, 3, (0, 0), [[13]]),
  (.aload_n 0, 1, (0, 0), []),
  (.getfield 35, 3, (0, 0), [[6, 1154, 0, 0], [6]]),
  (.ireturn, 1, (0, 0), [])]
def qX6_operand_13 : List mO := [(.aload_n 0, 1, (0, 0), []),
  (.ldc 171, 2, (0, 0), [[1, 4]]),
  (.invokevirtual 115, 3, (0, 0), [[1, 3022, 0], [6, 59, 7, 3024]])]
def qX6_operand_19 : List mO := [(.istore_n 1, 1, (0, 0), []),
  (.iload_n 1, 1, (0, 0), []),
  (.ifCond .ge 7, 3, (0, 0), [[28]]),
  (.iconst (-1), 1, ((-1), 0), []),
  (.goto 8, 3, (0, 0), [[33]])]
def qX6_operand_28 : List mO := [(.sipush 10000, 3, (10000, 0), []),
  (.iload_n 1, 1, (0, 0), []),
  (.iadd, 1, (0, 0), [])]
def qX6_operand_33 : List mO := [(.ireturn, 1, (0, 0), [])]
def pX6_operand : List (Nat × List mO) := [(0, qX6_operand_0), (13, qX6_operand_13), (19, qX6_operand_19), (28, qX6_operand_28), (33, qX6_operand_33)]
def qX6_await_0 : List mO := [(.aload_n 0, 1, (0, 0), []),
  (.getfield 54, 3, (0, 0), [[12, 1160, 0, 0], [6]]),
  (.aload_n 0, 1, (0, 0), []),
  (.getfield 50, 3, (0, 0), [[11, 1159, 0, 1], [6]]),
  (.arraylength, 1, (0, 0), []),
  (.if_icmp .ge 20, 3, (0, 0), [[29]]),
  (.aload_n 0, 1, (0, 0), []),
  (.getfield 50, 3, (0, 0), [[11, 1159, 0, 1], [6]]),
  (.aload_n 0, 1, (0, 0), []),
  (.dup, 1, (0, 0), []),
  (.getfield 54, 3, (0, 0), [[12, 1160, 0, 0], [6]]),
  (.dup_x1, 1, (0, 0), []),
  (.iconst 1, 1, (1, 0), []),
  (.iadd, 1, (0, 0), []),
  (.putfield 54, 3, (0, 0), [[12, 1160, 0, 0], [6]]),
  (.iload_n 1, 1, (0, 0), []),
  (.iastore, 1, (0, 0), [])]
def qX6_await_29 : List mO := [(.return_, 1, (0, 0), [])]
def pX6_await : List (Nat × List mO) := [(0, qX6_await_0), (29, qX6_await_29)]
def qX6_addWaiting_0 : List mO := [(.aload_n 0, 1, (0, 0), []),
  (.getfield 54, 3, (0, 0), [[12, 1160, 0, 0], [6]]),
  (.ifCond .le 47, 3, (0, 0), [[51]]),
  (.aload_n 0, 1, (0, 0), []),
  (.getfield 50, 3, (0, 0), [[11, 1159, 0, 1], [6]]),
  (.aload_n 0, 1, (0, 0), []),
  (.getfield 54, 3, (0, 0), [[12, 1160, 0, 0], [6]]),
  (.iconst 1, 1, (1, 0), []),
  (.isub, 1, (0, 0), []),
  (.iaload, 1, (0, 0), []),
  (.iload_n 1, 1, (0, 0), []),
  (.if_icmp .lt 32, 3, (0, 0), [[51]]),
  (.aload_n 0, 1, (0, 0), []),
  (.dup, 1, (0, 0), []),
  (.getfield 54, 3, (0, 0), [[12, 1160, 0, 0], [6]]),
  (.iconst 1, 1, (1, 0), []),
  (.isub, 1, (0, 0), []),
  (.putfield 54, 3, (0, 0), [[12, 1160, 0, 0], [6]]),
  (.aload_n 0, 1, (0, 0), []),
  (.getfield 22, 3, (0, 0), [[2, 1149, 0, 1], [6]]),
  (.aload_n 0, 1, (0, 0), []),
  (.getfield 50, 3, (0, 0), [[11, 1159, 0, 1], [6]]),
  (.aload_n 0, 1, (0, 0), []),
  (.getfield 54, 3, (0, 0), [[12, 1160, 0, 0], [6]]),
  (.iaload, 1, (0, 0), []),
  (.invokevirtual 160, 3, (0, 0), [[1, 3096, 0], [5, 27, 3098, 3097]])]
def qX6_addWaiting_48 : List mO := [(.goto (-48), 3, (0, 0), [[0]])]
def qX6_addWaiting_51 : List mO := [(.return_, 1, (0, 0), [])]
def pX6_addWaiting : List (Nat × List mO) := [(0, qX6_addWaiting_0), (48, qX6_addWaiting_48), (51, qX6_addWaiting_51)]
def qX6_placeIn_0 : List mO := [(.aload_n 0, 1, (0, 0), []),
  (.getfield 26, 3, (0, 0), [[3, 1151, 0, 0], [6]]),
  (.ifCond .eq 5, 3, (0, 0), [[9]]),
  (.iconst (-1), 1, ((-1), 0), []),
  (.ireturn, 1, (0, 0), [])]
def qX6_placeIn_9 : List mO := [(.iconst 0, 1, (0, 0), []),
  (.istore_n 2, 1, (0, 0), []),
  (.iconst 0, 1, (0, 0), []),
  (.istore_n 3, 1, (0, 0), []),
  (.iconst 0, 1, (0, 0), []),
  (.istore 4, 2, (0, 0), [])]
def qX6_placeIn_16 : List mO := [(.iload 4, 2, (0, 0), []),
  (.aload_n 1, 1, (0, 0), []),
  (.invokevirtual 173, 3, (0, 0), [[0, 3026, 0], [300, 900, 3028, 3027]])]
def qX6_placeIn_22 : List mO := [(.if_icmp .ge 41, 3, (0, 0), [[63]]),
  (.aload_n 1, 1, (0, 0), []),
  (.iload 4, 2, (0, 0), []),
  (.invokevirtual 178, 3, (0, 0), [[1, 3036, 0], [300, 901, 3038, 3037]])]
def qX6_placeIn_31 : List mO := [(.bipush 32, 2, (32, 0), []),
  (.if_icmp .ne 24, 3, (0, 0), [[57]]),
  (.aload_n 0, 1, (0, 0), []),
  (.aload_n 1, 1, (0, 0), []),
  (.iload_n 3, 1, (0, 0), []),
  (.iload 4, 2, (0, 0), []),
  (.invokevirtual 182, 3, (0, 0), [[3, 3074, 0], [6, 60, 8, 3076]])]
def qX6_placeIn_44 : List mO := [(.ifCond .eq 5, 3, (0, 0), [[49]]),
  (.iload_n 2, 1, (0, 0), []),
  (.ireturn, 1, (0, 0), [])]
def qX6_placeIn_49 : List mO := [(.iinc 2 1, 3, (1, 0), []),
  (.iload 4, 2, (0, 0), []),
  (.iconst 1, 1, (1, 0), []),
  (.iadd, 1, (0, 0), []),
  (.istore_n 3, 1, (0, 0), [])]
def qX6_placeIn_57 : List mO := [(.iinc 4 1, 3, (1, 0), []),
  (.goto (-44), 3, (0, 0), [[16]])]
def qX6_placeIn_63 : List mO := [(.iconst (-1), 1, ((-1), 0), []),
  (.ireturn, 1, (0, 0), [])]
def pX6_placeIn : List (Nat × List mO) := [(0, qX6_placeIn_0), (9, qX6_placeIn_9), (16, qX6_placeIn_16), (22, qX6_placeIn_22), (31, qX6_placeIn_31), (44, qX6_placeIn_44), (49, qX6_placeIn_49), (57, qX6_placeIn_57), (63, qX6_placeIn_63)]
def qX6_isSpelt_0 : List mO := [(.iload_n 3, 1, (0, 0), []),
  (.iload_n 2, 1, (0, 0), []),
  (.isub, 1, (0, 0), []),
  (.aload_n 0, 1, (0, 0), []),
  (.getfield 32, 3, (0, 0), [[5, 1153, 0, 0], [6]]),
  (.aload_n 0, 1, (0, 0), []),
  (.getfield 29, 3, (0, 0), [[4, 1152, 0, 0], [6]]),
  (.isub, 1, (0, 0), []),
  (.if_icmp .eq 5, 3, (0, 0), [[17]]),
  (.iconst 0, 1, (0, 0), []),
  (.ireturn, 1, (0, 0), [[1]])]
def qX6_isSpelt_17 : List mO := [(.iload_n 2, 1, (0, 0), []),
  (.istore 4, 2, (0, 0), [])]
def qX6_isSpelt_20 : List mO := [(.iload 4, 2, (0, 0), []),
  (.iload_n 3, 1, (0, 0), []),
  (.if_icmp .ge 34, 3, (0, 0), [[57]]),
  (.aload_n 1, 1, (0, 0), []),
  (.iload 4, 2, (0, 0), []),
  (.invokevirtual 178, 3, (0, 0), [[1, 3036, 0], [300, 901, 3038, 3037]])]
def qX6_isSpelt_32 : List mO := [(.aload_n 0, 1, (0, 0), []),
  (.getfield 15, 3, (0, 0), [[1, 1147, 0, 1], [6]]),
  (.aload_n 0, 1, (0, 0), []),
  (.getfield 29, 3, (0, 0), [[4, 1152, 0, 0], [6]]),
  (.iload 4, 2, (0, 0), []),
  (.iadd, 1, (0, 0), []),
  (.iload_n 2, 1, (0, 0), []),
  (.isub, 1, (0, 0), []),
  (.baload, 1, (0, 0), []),
  (.if_icmp .eq 5, 3, (0, 0), [[51]]),
  (.iconst 0, 1, (0, 0), []),
  (.ireturn, 1, (0, 0), [[1]])]
def qX6_isSpelt_51 : List mO := [(.iinc 4 1, 3, (1, 0), []),
  (.goto (-34), 3, (0, 0), [[20]])]
def qX6_isSpelt_57 : List mO := [(.iconst 1, 1, (1, 0), []),
  (.ireturn, 1, (0, 0), [[1]])]
def pX6_isSpelt : List (Nat × List mO) := [(0, qX6_isSpelt_0), (17, qX6_isSpelt_17), (20, qX6_isSpelt_20), (32, qX6_isSpelt_32), (51, qX6_isSpelt_51), (57, qX6_isSpelt_57)]
def qX7_init_0 : List mO := [(.aload_n 0, 1, (0, 0), []),
  (.aload_n 1, 1, (0, 0), []),
  (.invokespecial 1, 3, (0, 0), [[1, 19, 2086, 2074, 0]])]
def qX7_init_5 : List mO := [(.return_, 1, (0, 0), [])]
def pX7_init : List (Nat × List mO) := [(0, qX7_init_0), (5, qX7_init_5)]
def qX7_hears_0 : List mO := [(.aload_n 0, 1, (0, 0), []),
  (.getfield 7, 3, (0, 0), [[0, 2020, 2022, 1], [7]]),
  (.bipush 60, 2, (60, 0), []),
  (.invokevirtual 13, 3, (0, 0), [[1, 5037, 0], [8, 66, 5007, 5006]])]
def qX7_hears_9 : List mO := [(.iconst 0, 1, (0, 0), []),
  (.aload_n 0, 1, (0, 0), []),
  (.iload_n 1, 1, (0, 0), []),
  (.invokespecial 19, 3, (0, 0), [[1, 76, 5038, 5023, 2], [5039, 2090, 2081]])]
def qX7_hears_15 : List mO := [(.isub, 1, (0, 0), []),
  (.ireturn, 1, (0, 0), [])]
def pX7_hears : List (Nat × List mO) := [(0, qX7_hears_0), (9, qX7_hears_9), (15, qX7_hears_15)]
def qX7_shares_0 : List mO := [(.aload_n 0, 1, (0, 0), []),
  (.getfield 7, 3, (0, 0), [[0, 2020, 2022, 1], [7]]),
  (.bipush 61, 2, (61, 0), []),
  (.invokevirtual 13, 3, (0, 0), [[1, 5037, 0], [8, 66, 5007, 5006]])]
def qX7_shares_9 : List mO := [(.aload_n 0, 1, (0, 0), []),
  (.iload_n 1, 1, (0, 0), []),
  (.invokespecial 23, 3, (0, 0), [[1, 20, 5058, 5049, 2], [7218, 2090, 0]])]
def qX7_shares_14 : List mO := [(.aload_n 0, 1, (0, 0), []),
  (.aload_n 0, 1, (0, 0), []),
  (.getfield 26, 3, (0, 0), [[2, 2031, 2033, 0], [7]]),
  (.invokevirtual 30, 3, (0, 0), [[1, 5059, 1, 5060, 4239, 5020], [7, 75, 5061, 4239]])]
def qX7_shares_22 : List mO := [(.iadd, 1, (0, 0), []),
  (.ireturn, 1, (0, 0), [])]
def pX7_shares : List (Nat × List mO) := [(0, qX7_shares_0), (9, qX7_shares_9), (14, qX7_shares_14), (22, qX7_shares_22)]
def qX8_init_0 : List mO := [(.aload_n 0, 1, (0, 0), []),
  (.invokespecial 1, 3, (0, 0), [[0, 999, 1231, 1028, 1029]]),
  (.aload_n 0, 1, (0, 0), []),
  (.iconst 0, 1, (0, 0), []),
  (.putfield 7, 3, (0, 0), [[0, 1232, 0, 0], [8]]),
  (.aload_n 0, 1, (0, 0), []),
  (.bipush 30, 2, (30, 0), []),
  (.newarray .int, 2, (0, 0), [[1071]]),
  (.putfield 13, 3, (0, 0), [[1, 1234, 0, 1], [8]]),
  (.aload_n 0, 1, (0, 0), []),
  (.iconst 0, 1, (0, 0), []),
  (.putfield 17, 3, (0, 0), [[2, 1236, 0, 0], [8]]),
  (.return_, 1, (0, 0), [])]
def pX8_init : List (Nat × List mO) := [(0, qX8_init_0)]
def qX8_clear_0 : List mO := [(.aload_n 0, 1, (0, 0), []),
  (.iconst 0, 1, (0, 0), []),
  (.putfield 7, 3, (0, 0), [[0, 1232, 0, 0], [8]]),
  (.aload_n 0, 1, (0, 0), []),
  (.iconst 0, 1, (0, 0), []),
  (.putfield 17, 3, (0, 0), [[2, 1236, 0, 0], [8]]),
  (.return_, 1, (0, 0), [])]
def pX8_clear : List (Nat × List mO) := [(0, qX8_clear_0)]
def qX8_begin_0 : List mO := [(.aload_n 0, 1, (0, 0), []),
  (.getfield 17, 3, (0, 0), [[2, 1236, 0, 0], [8]]),
  (.ifCond .ne 32, 3, (0, 0), [[36]]),
  (.aload_n 0, 1, (0, 0), []),
  (.getfield 7, 3, (0, 0), [[0, 1232, 0, 0], [8]]),
  (.aload_n 0, 1, (0, 0), []),
  (.getfield 13, 3, (0, 0), [[1, 1234, 0, 1], [8]]),
  (.arraylength, 1, (0, 0), []),
  (.if_icmp .ge 20, 3, (0, 0), [[36]]),
  (.aload_n 0, 1, (0, 0), []),
  (.getfield 13, 3, (0, 0), [[1, 1234, 0, 1], [8]]),
  (.aload_n 0, 1, (0, 0), []),
  (.dup, 1, (0, 0), []),
  (.getfield 7, 3, (0, 0), [[0, 1232, 0, 0], [8]]),
  (.dup_x1, 1, (0, 0), []),
  (.iconst 1, 1, (1, 0), []),
  (.iadd, 1, (0, 0), []),
  (.putfield 7, 3, (0, 0), [[0, 1232, 0, 0], [8]]),
  (.iload_n 1, 1, (0, 0), []),
  (.iastore, 1, (0, 0), [])]
def qX8_begin_36 : List mO := [(.return_, 1, (0, 0), [])]
def pX8_begin : List (Nat × List mO) := [(0, qX8_begin_0), (36, qX8_begin_36)]
def qX9_init_0 : List mO := [(.aload_n 0, 1, (0, 0), []),
  (.invokespecial 3, 3, (0, 0), [[0, 999, 1035, 1028, 1029]]),
  (.aload_n 0, 1, (0, 0), []),
  (.iconst 0, 1, (0, 0), []),
  (.putfield 9, 3, (0, 0), [[0, 1072, 0, 0], [9]]),
  (.aload_n 0, 1, (0, 0), []),
  (.bipush 9, 2, (9, 0), []),
  (.newarray .int, 2, (0, 0), [[1071]]),
  (.putfield 15, 3, (0, 0), [[1, 1075, 0, 1], [9]]),
  (.aload_n 0, 1, (0, 0), []),
  (.bipush 9, 2, (9, 0), []),
  (.newarray .int, 2, (0, 0), [[1071]]),
  (.putfield 19, 3, (0, 0), [[2, 1078, 0, 1], [9]]),
  (.aload_n 0, 1, (0, 0), []),
  (.bipush 9, 2, (9, 0), []),
  (.newarray .int, 2, (0, 0), [[1071]]),
  (.putfield 22, 3, (0, 0), [[3, 1080, 0, 1], [9]]),
  (.aload_n 0, 1, (0, 0), []),
  (.bipush 9, 2, (9, 0), []),
  (.newarray .int, 2, (0, 0), [[1071]]),
  (.putfield 25, 3, (0, 0), [[4, 1083, 0, 1], [9]]),
  (.aload_n 0, 1, (0, 0), []),
  (.bipush 9, 2, (9, 0), []),
  (.newarray .int, 2, (0, 0), [[1071]]),
  (.putfield 28, 3, (0, 0), [[5, 1086, 0, 1], [9]]),
  (.aload_n 0, 1, (0, 0), []),
  (.bipush 9, 2, (9, 0), []),
  (.newarray .int, 2, (0, 0), [[1071]]),
  (.putfield 31, 3, (0, 0), [[6, 1088, 0, 1], [9]]),
  (.aload_n 0, 1, (0, 0), []),
  (.iconst 0, 1, (0, 0), []),
  (.putfield 34, 3, (0, 0), [[7, 1090, 0, 0], [9]]),
  (.aload_n 0, 1, (0, 0), []),
  (.bipush 7, 2, (7, 0), []),
  (.newarray .int, 2, (0, 0), [[1071]]),
  (.putfield 37, 3, (0, 0), [[8, 1092, 0, 1], [9]]),
  (.aload_n 0, 1, (0, 0), []),
  (.iconst 1, 1, (1, 0), []),
  (.putfield 40, 3, (0, 0), [[9, 1094, 0, 0], [9]]),
  (.aload_n 0, 1, (0, 0), []),
  (.new 43, 3, (0, 0), [[5, 7, 1036, 1037, 1003]]),
  (.dup, 1, (0, 0), []),
  (.invokespecial 45, 3, (0, 0), [[0, 25, 1, 1039, 1]])]
def qX9_init_83 : List mO := [(.putfield 46, 3, (0, 0), [[10, 1096, 0, 1], [9]]),
  (.aload_n 0, 1, (0, 0), []),
  (.iconst 0, 1, (0, 0), []),
  (.putfield 50, 3, (0, 0), [[11, 1099, 0, 0], [9]]),
  (.aload_n 0, 1, (0, 0), []),
  (.bipush 6, 2, (6, 0), []),
  (.newarray .int, 2, (0, 0), [[1071]]),
  (.putfield 53, 3, (0, 0), [[12, 1101, 0, 1], [9]]),
  (.aload_n 0, 1, (0, 0), []),
  (.bipush 6, 2, (6, 0), []),
  (.newarray .int, 2, (0, 0), [[1071]]),
  (.putfield 56, 3, (0, 0), [[13, 1103, 0, 1], [9]]),
  (.aload_n 0, 1, (0, 0), []),
  (.bipush 6, 2, (6, 0), []),
  (.newarray .int, 2, (0, 0), [[1071]]),
  (.putfield 59, 3, (0, 0), [[14, 1105, 0, 1], [9]]),
  (.return_, 1, (0, 0), [])]
def pX9_init : List (Nat × List mO) := [(0, qX9_init_0), (83, qX9_init_83)]
def qX9_isTower_0 : List mO := [(.iload_n 1, 1, (0, 0), []),
  (.ifCond .lt 15, 3, (0, 0), [[16]]),
  (.iload_n 1, 1, (0, 0), []),
  (.aload_n 0, 1, (0, 0), []),
  (.getfield 9, 3, (0, 0), [[0, 1072, 0, 0], [9]]),
  (.if_icmp .ge 7, 3, (0, 0), [[16]]),
  (.iconst 1, 1, (1, 0), []),
  (.goto 4, 3, (0, 0), [[17]])]
def qX9_isTower_16 : List mO := [(.iconst 0, 1, (0, 0), [])]
def qX9_isTower_17 : List mO := [(.ireturn, 1, (0, 0), [[1]])]
def pX9_isTower : List (Nat × List mO) := [(0, qX9_isTower_0), (16, qX9_isTower_16), (17, qX9_isTower_17)]
def qX9_holding_0 : List mO := [(.iconst 0, 1, (0, 0), []),
  (.istore_n 1, 1, (0, 0), []),
  (.iconst 0, 1, (0, 0), []),
  (.istore_n 2, 1, (0, 0), [])]
def qX9_holding_4 : List mO := [(.iload_n 2, 1, (0, 0), []),
  (.aload_n 0, 1, (0, 0), []),
  (.getfield 9, 3, (0, 0), [[0, 1072, 0, 0], [9]]),
  (.if_icmp .ge 23, 3, (0, 0), [[32]]),
  (.aload_n 0, 1, (0, 0), []),
  (.getfield 31, 3, (0, 0), [[6, 1088, 0, 1], [9]]),
  (.iload_n 2, 1, (0, 0), []),
  (.iaload, 1, (0, 0), []),
  (.bipush (-9), 2, ((-9), 0), []),
  (.if_icmp .eq 6, 3, (0, 0), [[26]]),
  (.iinc 1 1, 3, (1, 0), [])]
def qX9_holding_26 : List mO := [(.iinc 2 1, 3, (1, 0), []),
  (.goto (-25), 3, (0, 0), [[4]])]
def qX9_holding_32 : List mO := [(.iload_n 1, 1, (0, 0), []),
  (.ireturn, 1, (0, 0), [])]
def pX9_holding : List (Nat × List mO) := [(0, qX9_holding_0), (4, qX9_holding_4), (26, qX9_holding_26), (32, qX9_holding_32)]
def qX9_minutesAMile_0 : List mO := [(.iload_n 2, 1, (0, 0), []),
  (.ifCond .eq 14, 3, (0, 0), [[15]]),
  (.iconst 4, 1, (4, 0), []),
  (.aload_n 0, 1, (0, 0), []),
  (.getfield 37, 3, (0, 0), [[8, 1092, 0, 1], [9]]),
  (.iload_n 1, 1, (0, 0), []),
  (.iaload, 1, (0, 0), []),
  (.iadd, 1, (0, 0), []),
  (.goto 11, 3, (0, 0), [[23]])]
def qX9_minutesAMile_15 : List mO := [(.iconst 4, 1, (4, 0), []),
  (.aload_n 0, 1, (0, 0), []),
  (.getfield 37, 3, (0, 0), [[8, 1092, 0, 1], [9]]),
  (.iload_n 1, 1, (0, 0), []),
  (.iaload, 1, (0, 0), []),
  (.isub, 1, (0, 0), [])]
def qX9_minutesAMile_23 : List mO := [(.ireturn, 1, (0, 0), [])]
def pX9_minutesAMile : List (Nat × List mO) := [(0, qX9_minutesAMile_0), (15, qX9_minutesAMile_15), (23, qX9_minutesAMile_23)]
def qX9_ruleFor_0 : List mO := [(.aload_n 0, 1, (0, 0), []),
  (.getfield 59, 3, (0, 0), [[14, 1105, 0, 1], [9]]),
  (.iconst 0, 1, (0, 0), []),
  (.iload_n 2, 1, (0, 0), []),
  (.iastore, 1, (0, 0), []),
  (.aload_n 0, 1, (0, 0), []),
  (.getfield 59, 3, (0, 0), [[14, 1105, 0, 1], [9]]),
  (.iconst 1, 1, (1, 0), []),
  (.aload_n 0, 1, (0, 0), []),
  (.getfield 37, 3, (0, 0), [[8, 1092, 0, 1], [9]]),
  (.iload_n 2, 1, (0, 0), []),
  (.iaload, 1, (0, 0), []),
  (.iconst 3, 1, (3, 0), []),
  (.iadd, 1, (0, 0), []),
  (.iastore, 1, (0, 0), []),
  (.aload_n 0, 1, (0, 0), []),
  (.getfield 59, 3, (0, 0), [[14, 1105, 0, 1], [9]]),
  (.iconst 2, 1, (2, 0), []),
  (.aload_n 0, 1, (0, 0), []),
  (.getfield 19, 3, (0, 0), [[2, 1078, 0, 1], [9]]),
  (.iload_n 1, 1, (0, 0), []),
  (.iaload, 1, (0, 0), []),
  (.iastore, 1, (0, 0), []),
  (.aload_n 0, 1, (0, 0), []),
  (.getfield 59, 3, (0, 0), [[14, 1105, 0, 1], [9]]),
  (.iconst 3, 1, (3, 0), []),
  (.aload_n 0, 1, (0, 0), []),
  (.getfield 22, 3, (0, 0), [[3, 1080, 0, 1], [9]]),
  (.iload_n 1, 1, (0, 0), []),
  (.iaload, 1, (0, 0), []),
  (.iastore, 1, (0, 0), []),
  (.aload_n 0, 1, (0, 0), []),
  (.getfield 59, 3, (0, 0), [[14, 1105, 0, 1], [9]]),
  (.iconst 4, 1, (4, 0), []),
  (.aload_n 0, 1, (0, 0), []),
  (.getfield 25, 3, (0, 0), [[4, 1083, 0, 1], [9]]),
  (.iload_n 1, 1, (0, 0), []),
  (.iaload, 1, (0, 0), []),
  (.iastore, 1, (0, 0), []),
  (.aload_n 0, 1, (0, 0), []),
  (.getfield 59, 3, (0, 0), [[14, 1105, 0, 1], [9]]),
  (.iconst 5, 1, (5, 0), []),
  (.iload_n 1, 1, (0, 0), []),
  (.iastore, 1, (0, 0), []),
  (.aload_n 0, 1, (0, 0), []),
  (.getfield 46, 3, (0, 0), [[10, 1096, 0, 1], [9]]),
  (.aload_n 0, 1, (0, 0), []),
  (.getfield 15, 3, (0, 0), [[1, 1075, 0, 1], [9]]),
  (.iload_n 1, 1, (0, 0), []),
  (.iaload, 1, (0, 0), []),
  (.aload_n 0, 1, (0, 0), []),
  (.getfield 59, 3, (0, 0), [[14, 1105, 0, 1], [9]]),
  (.invokevirtual 62, 3, (0, 0), [[2, 2168, 0], [5, 29, 2170, 2169]])]
def qX9_ruleFor_81 : List mO := [(.ireturn, 1, (0, 0), [])]
def pX9_ruleFor : List (Nat × List mO) := [(0, qX9_ruleFor_0), (81, qX9_ruleFor_81)]
def qX9_addedBy_0 : List mO := [(.aload_n 0, 1, (0, 0), []),
  (.getfield 46, 3, (0, 0), [[10, 1096, 0, 1], [9]]),
  (.iload_n 1, 1, (0, 0), []),
  (.aload_n 0, 1, (0, 0), []),
  (.getfield 19, 3, (0, 0), [[2, 1078, 0, 1], [9]]),
  (.iload_n 2, 1, (0, 0), []),
  (.iaload, 1, (0, 0), []),
  (.aload_n 0, 1, (0, 0), []),
  (.getfield 25, 3, (0, 0), [[4, 1083, 0, 1], [9]]),
  (.iload_n 2, 1, (0, 0), []),
  (.iaload, 1, (0, 0), []),
  (.invokevirtual 66, 3, (0, 0), [[3, 2186, 0], [5, 33, 2188, 2187]])]
def qX9_addedBy_20 : List mO := [(.istore 4, 2, (0, 0), []),
  (.aload_n 0, 1, (0, 0), []),
  (.getfield 15, 3, (0, 0), [[1, 1075, 0, 1], [9]]),
  (.iload_n 2, 1, (0, 0), []),
  (.iaload, 1, (0, 0), []),
  (.tableswitch 75 2 5 #[32, 37, 55, 65], 32, (0, 0), [[103], [2, 60], [3, 65], [4, 83], [5, 93]])]
def qX9_addedBy_60 : List mO := [(.iconst 2, 1, (2, 0), []),
  (.iload 4, 2, (0, 0), []),
  (.imul, 1, (0, 0), []),
  (.ireturn, 1, (0, 0), [])]
def qX9_addedBy_65 : List mO := [(.iconst 2, 1, (2, 0), []),
  (.iload 4, 2, (0, 0), []),
  (.imul, 1, (0, 0), []),
  (.iload_n 3, 1, (0, 0), []),
  (.bipush 6, 2, (6, 0), []),
  (.if_icmp .ne 8, 3, (0, 0), [[80]]),
  (.bipush 10, 2, (10, 0), []),
  (.goto 4, 3, (0, 0), [[81]])]
def qX9_addedBy_80 : List mO := [(.iconst 0, 1, (0, 0), [])]
def qX9_addedBy_81 : List mO := [(.iadd, 1, (0, 0), []),
  (.ireturn, 1, (0, 0), [])]
def qX9_addedBy_83 : List mO := [(.iload 4, 2, (0, 0), []),
  (.aload_n 0, 1, (0, 0), []),
  (.getfield 22, 3, (0, 0), [[3, 1080, 0, 1], [9]]),
  (.iload_n 2, 1, (0, 0), []),
  (.iaload, 1, (0, 0), []),
  (.iadd, 1, (0, 0), []),
  (.ireturn, 1, (0, 0), [])]
def qX9_addedBy_93 : List mO := [(.iload 4, 2, (0, 0), []),
  (.aload_n 0, 1, (0, 0), []),
  (.getfield 22, 3, (0, 0), [[3, 1080, 0, 1], [9]]),
  (.iload_n 2, 1, (0, 0), []),
  (.iaload, 1, (0, 0), []),
  (.iadd, 1, (0, 0), []),
  (.ireturn, 1, (0, 0), [])]
def qX9_addedBy_103 : List mO := [(.iload 4, 2, (0, 0), []),
  (.ireturn, 1, (0, 0), [])]
def pX9_addedBy : List (Nat × List mO) := [(0, qX9_addedBy_0), (20, qX9_addedBy_20), (60, qX9_addedBy_60), (65, qX9_addedBy_65), (80, qX9_addedBy_80), (81, qX9_addedBy_81), (83, qX9_addedBy_83), (93, qX9_addedBy_93), (103, qX9_addedBy_103)]
def qX9_copyFrom_0 : List mO := [(.aload_n 0, 1, (0, 0), []),
  (.aload_n 1, 1, (0, 0), []),
  (.getfield 9, 3, (0, 0), [[0, 1072, 0, 0], [9]]),
  (.putfield 9, 3, (0, 0), [[0, 1072, 0, 0], [9]]),
  (.aload_n 1, 1, (0, 0), []),
  (.getfield 15, 3, (0, 0), [[1, 1075, 0, 1], [9]]),
  (.iconst 0, 1, (0, 0), []),
  (.aload_n 0, 1, (0, 0), []),
  (.getfield 15, 3, (0, 0), [[1, 1075, 0, 1], [9]]),
  (.iconst 0, 1, (0, 0), []),
  (.bipush 9, 2, (9, 0), []),
  (.invokestatic 70, 3, (0, 0), [[5, 998, 5099, 3160, 3159, 1018]]),
  (.aload_n 1, 1, (0, 0), []),
  (.getfield 19, 3, (0, 0), [[2, 1078, 0, 1], [9]]),
  (.iconst 0, 1, (0, 0), []),
  (.aload_n 0, 1, (0, 0), []),
  (.getfield 19, 3, (0, 0), [[2, 1078, 0, 1], [9]]),
  (.iconst 0, 1, (0, 0), []),
  (.bipush 9, 2, (9, 0), []),
  (.invokestatic 70, 3, (0, 0), [[5, 998, 5099, 3160, 3159, 1018]]),
  (.aload_n 1, 1, (0, 0), []),
  (.getfield 22, 3, (0, 0), [[3, 1080, 0, 1], [9]]),
  (.iconst 0, 1, (0, 0), []),
  (.aload_n 0, 1, (0, 0), []),
  (.getfield 22, 3, (0, 0), [[3, 1080, 0, 1], [9]]),
  (.iconst 0, 1, (0, 0), []),
  (.bipush 9, 2, (9, 0), []),
  (.invokestatic 70, 3, (0, 0), [[5, 998, 5099, 3160, 3159, 1018]]),
  (.aload_n 1, 1, (0, 0), []),
  (.getfield 25, 3, (0, 0), [[4, 1083, 0, 1], [9]]),
  (.iconst 0, 1, (0, 0), []),
  (.aload_n 0, 1, (0, 0), []),
  (.getfield 25, 3, (0, 0), [[4, 1083, 0, 1], [9]]),
  (.iconst 0, 1, (0, 0), []),
  (.bipush 9, 2, (9, 0), []),
  (.invokestatic 70, 3, (0, 0), [[5, 998, 5099, 3160, 3159, 1018]]),
  (.aload_n 1, 1, (0, 0), []),
  (.getfield 28, 3, (0, 0), [[5, 1086, 0, 1], [9]]),
  (.iconst 0, 1, (0, 0), []),
  (.aload_n 0, 1, (0, 0), []),
  (.getfield 28, 3, (0, 0), [[5, 1086, 0, 1], [9]]),
  (.iconst 0, 1, (0, 0), []),
  (.bipush 9, 2, (9, 0), []),
  (.invokestatic 70, 3, (0, 0), [[5, 998, 5099, 3160, 3159, 1018]]),
  (.aload_n 1, 1, (0, 0), []),
  (.getfield 31, 3, (0, 0), [[6, 1088, 0, 1], [9]]),
  (.iconst 0, 1, (0, 0), []),
  (.aload_n 0, 1, (0, 0), []),
  (.getfield 31, 3, (0, 0), [[6, 1088, 0, 1], [9]]),
  (.iconst 0, 1, (0, 0), []),
  (.bipush 9, 2, (9, 0), []),
  (.invokestatic 70, 3, (0, 0), [[5, 998, 5099, 3160, 3159, 1018]]),
  (.aload_n 0, 1, (0, 0), []),
  (.aload_n 1, 1, (0, 0), []),
  (.getfield 34, 3, (0, 0), [[7, 1090, 0, 0], [9]]),
  (.putfield 34, 3, (0, 0), [[7, 1090, 0, 0], [9]]),
  (.aload_n 1, 1, (0, 0), []),
  (.getfield 37, 3, (0, 0), [[8, 1092, 0, 1], [9]]),
  (.iconst 0, 1, (0, 0), []),
  (.aload_n 0, 1, (0, 0), []),
  (.getfield 37, 3, (0, 0), [[8, 1092, 0, 1], [9]]),
  (.iconst 0, 1, (0, 0), []),
  (.bipush 7, 2, (7, 0), []),
  (.invokestatic 70, 3, (0, 0), [[5, 998, 5099, 3160, 3159, 1018]]),
  (.aload_n 0, 1, (0, 0), []),
  (.aload_n 1, 1, (0, 0), []),
  (.getfield 40, 3, (0, 0), [[9, 1094, 0, 0], [9]]),
  (.putfield 40, 3, (0, 0), [[9, 1094, 0, 0], [9]]),
  (.aload_n 0, 1, (0, 0), []),
  (.getfield 46, 3, (0, 0), [[10, 1096, 0, 1], [9]]),
  (.aload_n 1, 1, (0, 0), []),
  (.getfield 46, 3, (0, 0), [[10, 1096, 0, 1], [9]]),
  (.invokevirtual 76, 3, (0, 0), [[1, 5100, 0], [5, 34, 3156, 3155]])]
def qX9_copyFrom_140 : List mO := [(.aload_n 0, 1, (0, 0), []),
  (.aload_n 1, 1, (0, 0), []),
  (.getfield 50, 3, (0, 0), [[11, 1099, 0, 0], [9]]),
  (.putfield 50, 3, (0, 0), [[11, 1099, 0, 0], [9]]),
  (.aload_n 1, 1, (0, 0), []),
  (.getfield 53, 3, (0, 0), [[12, 1101, 0, 1], [9]]),
  (.iconst 0, 1, (0, 0), []),
  (.aload_n 0, 1, (0, 0), []),
  (.getfield 53, 3, (0, 0), [[12, 1101, 0, 1], [9]]),
  (.iconst 0, 1, (0, 0), []),
  (.bipush 6, 2, (6, 0), []),
  (.invokestatic 70, 3, (0, 0), [[5, 998, 5099, 3160, 3159, 1018]]),
  (.aload_n 1, 1, (0, 0), []),
  (.getfield 56, 3, (0, 0), [[13, 1103, 0, 1], [9]]),
  (.iconst 0, 1, (0, 0), []),
  (.aload_n 0, 1, (0, 0), []),
  (.getfield 56, 3, (0, 0), [[13, 1103, 0, 1], [9]]),
  (.iconst 0, 1, (0, 0), []),
  (.bipush 6, 2, (6, 0), []),
  (.invokestatic 70, 3, (0, 0), [[5, 998, 5099, 3160, 3159, 1018]]),
  (.return_, 1, (0, 0), [])]
def pX9_copyFrom : List (Nat × List mO) := [(0, qX9_copyFrom_0), (140, qX9_copyFrom_140)]
def qX10_init_0 : List mO := [(.aload_n 0, 1, (0, 0), []),
  (.invokespecial 1, 3, (0, 0), [[0, 999, 2012, 1028, 1029]]),
  (.aload_n 0, 1, (0, 0), []),
  (.iconst 0, 1, (0, 0), []),
  (.putfield 7, 3, (0, 0), [[1, 2024, 0, 0], [1, 2, 3, 4, 7, 10]]),
  (.aload_n 0, 1, (0, 0), []),
  (.iconst 0, 1, (0, 0), []),
  (.putfield 13, 3, (0, 0), [[2, 2028, 0, 0], [1, 2, 3, 4, 7, 10]]),
  (.aload_n 0, 1, (0, 0), []),
  (.aload_n 1, 1, (0, 0), []),
  (.putfield 16, 3, (0, 0), [[0, 2013, 0, 1], [1, 2, 3, 4, 7, 10]]),
  (.return_, 1, (0, 0), [])]
def pX10_init : List (Nat × List mO) := [(0, qX10_init_0)]
def qX10_cries_0 : List mO := [(.aload_n 0, 1, (0, 0), []),
  (.getfield 16, 3, (0, 0), [[0, 2013, 0, 1], [1, 2, 3, 4, 7, 10]]),
  (.bipush 10, 2, (10, 0), []),
  (.invokevirtual 20, 3, (0, 0), [[1, 5021, 0], [8, 66, 5007, 5006]])]
def qX10_cries_9 : List mO := [(.iload_n 1, 1, (0, 0), []),
  (.aload_n 0, 1, (0, 0), []),
  (.getfield 7, 3, (0, 0), [[1, 2024, 0, 0], [1, 2, 3, 4, 7, 10]]),
  (.iadd, 1, (0, 0), []),
  (.ireturn, 1, (0, 0), [])]
def pX10_cries : List (Nat × List mO) := [(0, qX10_cries_0), (9, qX10_cries_9)]
def qX10_hears_0 : List mO := [(.aload_n 0, 1, (0, 0), []),
  (.getfield 16, 3, (0, 0), [[0, 2013, 0, 1], [1, 2, 3, 4, 7, 10]]),
  (.bipush 11, 2, (11, 0), []),
  (.invokevirtual 20, 3, (0, 0), [[1, 5021, 0], [8, 66, 5007, 5006]])]
def qX10_hears_9 : List mO := [(.aload_n 0, 1, (0, 0), []),
  (.iload_n 1, 1, (0, 0), []),
  (.invokevirtual 26, 3, (0, 0), [[1, 5042, 1, 5001, 4239, 5020], [1, 17, 5002, 5003], [2, 75, 5012, 4239], [3, 22, 5013, 5014], [4, 75, 5018, 4239], [7, 75, 5019, 4239], [10, 75, 5000, 4239]])]
def qX10_hears_14 : List mO := [(.iconst 2, 1, (2, 0), []),
  (.imul, 1, (0, 0), []),
  (.ireturn, 1, (0, 0), [])]
def pX10_hears : List (Nat × List mO) := [(0, qX10_hears_0), (9, qX10_hears_9), (14, qX10_hears_14)]
def qX10_shares_0 : List mO := [(.aload_n 0, 1, (0, 0), []),
  (.getfield 16, 3, (0, 0), [[0, 2013, 0, 1], [1, 2, 3, 4, 7, 10]]),
  (.bipush 12, 2, (12, 0), []),
  (.invokevirtual 20, 3, (0, 0), [[1, 5021, 0], [8, 66, 5007, 5006]])]
def qX10_shares_9 : List mO := [(.aload_n 0, 1, (0, 0), []),
  (.getfield 13, 3, (0, 0), [[2, 2028, 0, 0], [1, 2, 3, 4, 7, 10]]),
  (.aload_n 0, 1, (0, 0), []),
  (.getfield 7, 3, (0, 0), [[1, 2024, 0, 0], [1, 2, 3, 4, 7, 10]]),
  (.isub, 1, (0, 0), []),
  (.istore_n 2, 1, (0, 0), []),
  (.iload_n 2, 1, (0, 0), []),
  (.ifCond .ne 13, 3, (0, 0), [[33]]),
  (.aload_n 0, 1, (0, 0), []),
  (.getfield 16, 3, (0, 0), [[0, 2013, 0, 1], [1, 2, 3, 4, 7, 10]]),
  (.iconst 1, 1, (1, 0), []),
  (.putfield 30, 3, (0, 0), [[2, 1237, 0, 0], [8]]),
  (.iconst 0, 1, (0, 0), []),
  (.ireturn, 1, (0, 0), [])]
def qX10_shares_33 : List mO := [(.iload_n 1, 1, (0, 0), []),
  (.iload_n 2, 1, (0, 0), []),
  (.idiv, 1, (0, 0), []),
  (.ireturn, 1, (0, 0), [])]
def pX10_shares : List (Nat × List mO) := [(0, qX10_shares_0), (9, qX10_shares_9), (33, qX10_shares_33)]
def qX10_tells_0 : List mO := [(.aload_n 0, 1, (0, 0), []),
  (.getfield 16, 3, (0, 0), [[0, 2013, 0, 1], [1, 2, 3, 4, 7, 10]]),
  (.bipush 13, 2, (13, 0), []),
  (.invokevirtual 20, 3, (0, 0), [[1, 5021, 0], [8, 66, 5007, 5006]])]
def qX10_tells_9 : List mO := [(.aload_n 0, 1, (0, 0), []),
  (.iload_n 1, 1, (0, 0), []),
  (.invokevirtual 34, 3, (0, 0), [[1, 5082, 1, 5025, 5023, 5041], [1, 24, 5026, 5027], [2, 76, 5031, 5023], [3, 76, 5032, 5023], [4, 24, 5033, 5027], [7, 62, 5034, 5035], [10, 76, 5024, 5023]])]
def qX10_tells_14 : List mO := [(.aload_n 0, 1, (0, 0), []),
  (.getfield 13, 3, (0, 0), [[2, 2028, 0, 0], [1, 2, 3, 4, 7, 10]]),
  (.ixor, 1, (0, 0), []),
  (.ireturn, 1, (0, 0), [])]
def pX10_tells : List (Nat × List mO) := [(0, qX10_tells_0), (9, qX10_tells_9), (14, qX10_tells_14)]
def qX11_init_0 : List mO := [(.aload_n 0, 1, (0, 0), []),
  (.invokespecial 1, 3, (0, 0), [[0, 999, 1027, 1028, 1029]]),
  (.aload_n 0, 1, (0, 0), []),
  (.new 7, 3, (0, 0), [[9, 15, 1030, 1031, 1002]]),
  (.dup, 1, (0, 0), []),
  (.invokespecial 9, 3, (0, 0), [[0, 67, 0, 1033, 1]])]
def qX11_init_12 : List mO := [(.putfield 10, 3, (0, 0), [[0, 2091, 0, 1], [11]]),
  (.aload_n 0, 1, (0, 0), []),
  (.new 7, 3, (0, 0), [[9, 15, 1030, 1031, 1002]]),
  (.dup, 1, (0, 0), []),
  (.invokespecial 9, 3, (0, 0), [[0, 67, 0, 1033, 1]])]
def qX11_init_23 : List mO := [(.putfield 16, 3, (0, 0), [[1, 2092, 0, 1], [11]]),
  (.aload_n 0, 1, (0, 0), []),
  (.iconst 0, 1, (0, 0), []),
  (.putfield 19, 3, (0, 0), [[2, 2093, 0, 0], [11]]),
  (.aload_n 0, 1, (0, 0), []),
  (.new 23, 3, (0, 0), [[6, 13, 1137, 1138, 1004]]),
  (.dup, 1, (0, 0), []),
  (.invokespecial 25, 3, (0, 0), [[0, 35, 2, 1140, 1]])]
def qX11_init_39 : List mO := [(.putfield 26, 3, (0, 0), [[3, 2094, 0, 1], [11]]),
  (.aload_n 0, 1, (0, 0), []),
  (.new 30, 3, (0, 0), [[0, 8, 1189, 1190, 1005]]),
  (.dup, 1, (0, 0), []),
  (.aload_n 0, 1, (0, 0), []),
  (.getfield 10, 3, (0, 0), [[0, 2091, 0, 1], [11]]),
  (.invokespecial 32, 3, (0, 0), [[1, 0, 1191, 1192, 0]])]
def qX11_init_54 : List mO := [(.putfield 35, 3, (0, 0), [[4, 2095, 0, 1], [11]]),
  (.aload_n 0, 1, (0, 0), []),
  (.new 30, 3, (0, 0), [[0, 8, 1189, 1190, 1005]]),
  (.dup, 1, (0, 0), []),
  (.aload_n 0, 1, (0, 0), []),
  (.getfield 10, 3, (0, 0), [[0, 2091, 0, 1], [11]]),
  (.invokespecial 32, 3, (0, 0), [[1, 0, 1191, 1192, 0]])]
def qX11_init_69 : List mO := [(.putfield 39, 3, (0, 0), [[5, 2096, 0, 1], [11]]),
  (.aload_n 0, 1, (0, 0), []),
  (.bipush 7, 2, (7, 0), []),
  (.newarray .boolean, 2, (0, 0), [[1223]]),
  (.putfield 42, 3, (0, 0), [[6, 2097, 0, 1], [11]]),
  (.aload_n 0, 1, (0, 0), []),
  (.bipush 7, 2, (7, 0), []),
  (.newarray .int, 2, (0, 0), [[1071]]),
  (.putfield 46, 3, (0, 0), [[7, 2098, 0, 1], [11]]),
  (.aload_n 0, 1, (0, 0), []),
  (.iconst 0, 1, (0, 0), []),
  (.putfield 50, 3, (0, 0), [[8, 2099, 0, 0], [11]]),
  (.aload_n 0, 1, (0, 0), []),
  (.bipush 9, 2, (9, 0), []),
  (.iconst 3, 1, (3, 0), []),
  (.multianewarray 54 2, 4, (0, 0), [[1224, 1071]]),
  (.putfield 56, 3, (0, 0), [[9, 2100, 0, 1], [11]]),
  (.aload_n 0, 1, (0, 0), []),
  (.iconst 4, 1, (4, 0), []),
  (.newarray .int, 2, (0, 0), [[1071]]),
  (.dup, 1, (0, 0), []),
  (.iconst 0, 1, (0, 0), []),
  (.iconst (-1), 1, ((-1), 0), []),
  (.iastore, 1, (0, 0), []),
  (.dup, 1, (0, 0), []),
  (.iconst 1, 1, (1, 0), []),
  (.iconst (-1), 1, ((-1), 0), []),
  (.iastore, 1, (0, 0), []),
  (.dup, 1, (0, 0), []),
  (.iconst 2, 1, (2, 0), []),
  (.iconst (-1), 1, ((-1), 0), []),
  (.iastore, 1, (0, 0), []),
  (.dup, 1, (0, 0), []),
  (.iconst 3, 1, (3, 0), []),
  (.iconst (-1), 1, ((-1), 0), []),
  (.iastore, 1, (0, 0), []),
  (.putfield 59, 3, (0, 0), [[10, 2101, 0, 1], [11]]),
  (.aload_n 0, 1, (0, 0), []),
  (.iconst 4, 1, (4, 0), []),
  (.newarray .int, 2, (0, 0), [[1071]]),
  (.putfield 62, 3, (0, 0), [[11, 2102, 0, 1], [11]]),
  (.aload_n 0, 1, (0, 0), []),
  (.iconst 4, 1, (4, 0), []),
  (.bipush 40, 2, (40, 0), []),
  (.multianewarray 54 2, 4, (0, 0), [[1224, 1071]]),
  (.putfield 65, 3, (0, 0), [[12, 2103, 0, 1], [11]]),
  (.aload_n 0, 1, (0, 0), []),
  (.iconst 4, 1, (4, 0), []),
  (.newarray .int, 2, (0, 0), [[1071]]),
  (.dup, 1, (0, 0), []),
  (.iconst 0, 1, (0, 0), []),
  (.iconst 2, 1, (2, 0), []),
  (.iastore, 1, (0, 0), []),
  (.dup, 1, (0, 0), []),
  (.iconst 1, 1, (1, 0), []),
  (.iconst 2, 1, (2, 0), []),
  (.iastore, 1, (0, 0), []),
  (.dup, 1, (0, 0), []),
  (.iconst 2, 1, (2, 0), []),
  (.iconst 2, 1, (2, 0), []),
  (.iastore, 1, (0, 0), []),
  (.dup, 1, (0, 0), []),
  (.iconst 3, 1, (3, 0), []),
  (.iconst 2, 1, (2, 0), []),
  (.iastore, 1, (0, 0), []),
  (.putfield 68, 3, (0, 0), [[13, 2104, 0, 1], [11]]),
  (.aload_n 0, 1, (0, 0), []),
  (.iconst 4, 1, (4, 0), []),
  (.newarray .int, 2, (0, 0), [[1071]]),
  (.putfield 71, 3, (0, 0), [[14, 2105, 0, 1], [11]]),
  (.aload_n 0, 1, (0, 0), []),
  (.iconst 4, 1, (4, 0), []),
  (.newarray .int, 2, (0, 0), [[1071]]),
  (.putfield 74, 3, (0, 0), [[15, 2106, 0, 1], [11]]),
  (.aload_n 0, 1, (0, 0), []),
  (.new 77, 3, (0, 0), [[8, 3, 1226, 1227, 1006]]),
  (.dup, 1, (0, 0), []),
  (.invokespecial 79, 3, (0, 0), [[0, 64, 4, 1229, 1]])]
def qX11_init_190 : List mO := [(.putfield 80, 3, (0, 0), [[16, 2107, 0, 1], [11]]),
  (.aload_n 0, 1, (0, 0), []),
  (.bipush 6, 2, (6, 0), []),
  (.anewarray 84, 3, (0, 0), [[2006]]),
  (.dup, 1, (0, 0), []),
  (.iconst 0, 1, (0, 0), []),
  (.new 84, 3, (0, 0), [[10, 3, 2006, 2008, 1007]]),
  (.dup, 1, (0, 0), []),
  (.aload_n 0, 1, (0, 0), []),
  (.getfield 80, 3, (0, 0), [[16, 2107, 0, 1], [11]]),
  (.invokespecial 86, 3, (0, 0), [[1, 74, 2009, 2010, 0]])]
def qX11_init_212 : List mO := [(.aastore, 1, (0, 0), []),
  (.dup, 1, (0, 0), []),
  (.iconst 1, 1, (1, 0), []),
  (.new 89, 3, (0, 0), [[3, 3, 2041, 2042, 1008]]),
  (.dup, 1, (0, 0), []),
  (.aload_n 0, 1, (0, 0), []),
  (.getfield 80, 3, (0, 0), [[16, 2107, 0, 1], [11]]),
  (.invokespecial 91, 3, (0, 0), [[1, 21, 2043, 2044, 0]])]
def qX11_init_226 : List mO := [(.aastore, 1, (0, 0), []),
  (.dup, 1, (0, 0), []),
  (.iconst 2, 1, (2, 0), []),
  (.new 92, 3, (0, 0), [[4, 3, 2051, 2052, 1009]]),
  (.dup, 1, (0, 0), []),
  (.aload_n 0, 1, (0, 0), []),
  (.getfield 80, 3, (0, 0), [[16, 2107, 0, 1], [11]]),
  (.invokespecial 94, 3, (0, 0), [[1, 23, 2053, 2054, 0]])]
def qX11_init_240 : List mO := [(.aastore, 1, (0, 0), []),
  (.dup, 1, (0, 0), []),
  (.iconst 3, 1, (3, 0), []),
  (.new 95, 3, (0, 0), [[1, 3, 2061, 2062, 1010]]),
  (.dup, 1, (0, 0), []),
  (.aload_n 0, 1, (0, 0), []),
  (.getfield 80, 3, (0, 0), [[16, 2107, 0, 1], [11]]),
  (.invokespecial 97, 3, (0, 0), [[1, 16, 2063, 2064, 0]])]
def qX11_init_254 : List mO := [(.aastore, 1, (0, 0), []),
  (.dup, 1, (0, 0), []),
  (.iconst 4, 1, (4, 0), []),
  (.new 98, 3, (0, 0), [[2, 3, 2071, 2072, 1011]]),
  (.dup, 1, (0, 0), []),
  (.aload_n 0, 1, (0, 0), []),
  (.getfield 80, 3, (0, 0), [[16, 2107, 0, 1], [11]]),
  (.invokespecial 100, 3, (0, 0), [[1, 19, 2073, 2074, 0]])]
def qX11_init_268 : List mO := [(.aastore, 1, (0, 0), []),
  (.dup, 1, (0, 0), []),
  (.iconst 5, 1, (5, 0), []),
  (.new 101, 3, (0, 0), [[7, 3, 2081, 2082, 1012]]),
  (.dup, 1, (0, 0), []),
  (.aload_n 0, 1, (0, 0), []),
  (.getfield 80, 3, (0, 0), [[16, 2107, 0, 1], [11]]),
  (.invokespecial 103, 3, (0, 0), [[1, 61, 2083, 2084, 0]])]
def qX11_init_282 : List mO := [(.aastore, 1, (0, 0), []),
  (.putfield 104, 3, (0, 0), [[17, 2108, 0, 1], [11]]),
  (.return_, 1, (0, 0), [])]
def pX11_init : List (Nat × List mO) := [(0, qX11_init_0), (12, qX11_init_12), (23, qX11_init_23), (39, qX11_init_39), (54, qX11_init_54), (69, qX11_init_69), (190, qX11_init_190), (212, qX11_init_212), (226, qX11_init_226), (240, qX11_init_240), (254, qX11_init_254), (268, qX11_init_268), (282, qX11_init_282)]
def qX11_tower_0 : List mO := [(.iload_n 1, 1, (0, 0), []),
  (.invokestatic 108, 3, (0, 0), [[1, 87, 2150, 2151, 0]])]
def qX11_tower_4 : List mO := [(.ifCond .eq 28, 3, (0, 0), [[32]]),
  (.iconst 1, 1, (1, 0), []),
  (.iload_n 2, 1, (0, 0), []),
  (.invokestatic 112, 3, (0, 0), [[2, 88, 2153, 2154, 0]])]
def qX11_tower_12 : List mO := [(.ifCond .eq 20, 3, (0, 0), [[32]]),
  (.iconst 2, 1, (2, 0), []),
  (.iload_n 3, 1, (0, 0), []),
  (.invokestatic 112, 3, (0, 0), [[2, 88, 2153, 2154, 0]])]
def qX11_tower_20 : List mO := [(.ifCond .eq 12, 3, (0, 0), [[32]]),
  (.iconst 3, 1, (3, 0), []),
  (.iload 4, 2, (0, 0), []),
  (.invokestatic 112, 3, (0, 0), [[2, 88, 2153, 2154, 0]])]
def qX11_tower_29 : List mO := [(.ifCond .ne 5, 3, (0, 0), [[34]])]
def qX11_tower_32 : List mO := [(.iconst (-1), 1, ((-1), 0), []),
  (.ireturn, 1, (0, 0), [])]
def qX11_tower_34 : List mO := [(.aload_n 0, 1, (0, 0), []),
  (.getfield 10, 3, (0, 0), [[0, 2091, 0, 1], [11]]),
  (.getfield 116, 3, (0, 0), [[0, 1074, 0, 0], [9]]),
  (.bipush 9, 2, (9, 0), []),
  (.if_icmp .lt 6, 3, (0, 0), [[49]]),
  (.bipush (-2), 2, ((-2), 0), []),
  (.ireturn, 1, (0, 0), [])]
def qX11_tower_49 : List mO := [(.aload_n 0, 1, (0, 0), []),
  (.getfield 10, 3, (0, 0), [[0, 2091, 0, 1], [11]]),
  (.dup, 1, (0, 0), []),
  (.getfield 116, 3, (0, 0), [[0, 1074, 0, 0], [9]]),
  (.dup_x1, 1, (0, 0), []),
  (.iconst 1, 1, (1, 0), []),
  (.iadd, 1, (0, 0), []),
  (.putfield 116, 3, (0, 0), [[0, 1074, 0, 0], [9]]),
  (.istore 5, 2, (0, 0), []),
  (.aload_n 0, 1, (0, 0), []),
  (.getfield 10, 3, (0, 0), [[0, 2091, 0, 1], [11]]),
  (.getfield 119, 3, (0, 0), [[1, 1076, 0, 1], [9]]),
  (.iload 5, 2, (0, 0), []),
  (.iload_n 1, 1, (0, 0), []),
  (.iastore, 1, (0, 0), []),
  (.aload_n 0, 1, (0, 0), []),
  (.getfield 10, 3, (0, 0), [[0, 2091, 0, 1], [11]]),
  (.getfield 122, 3, (0, 0), [[2, 1079, 0, 1], [9]]),
  (.iload 5, 2, (0, 0), []),
  (.iload_n 2, 1, (0, 0), []),
  (.iastore, 1, (0, 0), []),
  (.aload_n 0, 1, (0, 0), []),
  (.getfield 10, 3, (0, 0), [[0, 2091, 0, 1], [11]]),
  (.getfield 125, 3, (0, 0), [[3, 1081, 0, 1], [9]]),
  (.iload 5, 2, (0, 0), []),
  (.iload_n 3, 1, (0, 0), []),
  (.iastore, 1, (0, 0), []),
  (.aload_n 0, 1, (0, 0), []),
  (.getfield 10, 3, (0, 0), [[0, 2091, 0, 1], [11]]),
  (.getfield 128, 3, (0, 0), [[4, 1084, 0, 1], [9]]),
  (.iload 5, 2, (0, 0), []),
  (.iload 4, 2, (0, 0), []),
  (.iastore, 1, (0, 0), []),
  (.aload_n 0, 1, (0, 0), []),
  (.getfield 10, 3, (0, 0), [[0, 2091, 0, 1], [11]]),
  (.getfield 131, 3, (0, 0), [[5, 1087, 0, 1], [9]]),
  (.iload 5, 2, (0, 0), []),
  (.bipush (-9), 2, ((-9), 0), []),
  (.iastore, 1, (0, 0), []),
  (.aload_n 0, 1, (0, 0), []),
  (.getfield 10, 3, (0, 0), [[0, 2091, 0, 1], [11]]),
  (.getfield 134, 3, (0, 0), [[6, 1089, 0, 1], [9]]),
  (.iload 5, 2, (0, 0), []),
  (.bipush (-9), 2, ((-9), 0), []),
  (.iastore, 1, (0, 0), []),
  (.iload 5, 2, (0, 0), []),
  (.ireturn, 1, (0, 0), [])]
def pX11_tower : List (Nat × List mO) := [(0, qX11_tower_0), (4, qX11_tower_4), (12, qX11_tower_12), (20, qX11_tower_20), (29, qX11_tower_29), (32, qX11_tower_32), (34, qX11_tower_34), (49, qX11_tower_49)]
def qX11_towerOf_0 : List mO := [(.aload_n 0, 1, (0, 0), []),
  (.getfield 10, 3, (0, 0), [[0, 2091, 0, 1], [11]]),
  (.iload_n 1, 1, (0, 0), []),
  (.invokevirtual 137, 3, (0, 0), [[1, 2160, 0], [9, 68, 2162, 2161]])]
def qX11_towerOf_8 : List mO := [(.ifCond .ne 5, 3, (0, 0), [[13]]),
  (.iconst (-1), 1, ((-1), 0), []),
  (.ireturn, 1, (0, 0), [])]
def qX11_towerOf_13 : List mO := [(.iload_n 2, 1, (0, 0), []),
  (.tableswitch 171 0 7 #[46, 56, 66, 76, 86, 117, 151, 161], 46, (0, 0), [[185], [0, 60], [1, 70], [2, 80], [3, 90], [4, 100], [5, 131], [6, 165], [7, 175]])]
def qX11_towerOf_60 : List mO := [(.aload_n 0, 1, (0, 0), []),
  (.getfield 10, 3, (0, 0), [[0, 2091, 0, 1], [11]]),
  (.getfield 119, 3, (0, 0), [[1, 1076, 0, 1], [9]]),
  (.iload_n 1, 1, (0, 0), []),
  (.iaload, 1, (0, 0), []),
  (.ireturn, 1, (0, 0), [])]
def qX11_towerOf_70 : List mO := [(.aload_n 0, 1, (0, 0), []),
  (.getfield 10, 3, (0, 0), [[0, 2091, 0, 1], [11]]),
  (.getfield 122, 3, (0, 0), [[2, 1079, 0, 1], [9]]),
  (.iload_n 1, 1, (0, 0), []),
  (.iaload, 1, (0, 0), []),
  (.ireturn, 1, (0, 0), [])]
def qX11_towerOf_80 : List mO := [(.aload_n 0, 1, (0, 0), []),
  (.getfield 10, 3, (0, 0), [[0, 2091, 0, 1], [11]]),
  (.getfield 125, 3, (0, 0), [[3, 1081, 0, 1], [9]]),
  (.iload_n 1, 1, (0, 0), []),
  (.iaload, 1, (0, 0), []),
  (.ireturn, 1, (0, 0), [])]
def qX11_towerOf_90 : List mO := [(.aload_n 0, 1, (0, 0), []),
  (.getfield 10, 3, (0, 0), [[0, 2091, 0, 1], [11]]),
  (.getfield 128, 3, (0, 0), [[4, 1084, 0, 1], [9]]),
  (.iload_n 1, 1, (0, 0), []),
  (.iaload, 1, (0, 0), []),
  (.ireturn, 1, (0, 0), [])]
def qX11_towerOf_100 : List mO := [(.aload_n 0, 1, (0, 0), []),
  (.getfield 10, 3, (0, 0), [[0, 2091, 0, 1], [11]]),
  (.aload_n 0, 1, (0, 0), []),
  (.getfield 10, 3, (0, 0), [[0, 2091, 0, 1], [11]]),
  (.iload_n 1, 1, (0, 0), []),
  (.aload_n 0, 1, (0, 0), []),
  (.getfield 10, 3, (0, 0), [[0, 2091, 0, 1], [11]]),
  (.getfield 140, 3, (0, 0), [[7, 1091, 0, 0], [9]]),
  (.invokevirtual 143, 3, (0, 0), [[2, 2164, 0], [9, 71, 2166, 2165]])]
def qX11_towerOf_119 : List mO := [(.iload_n 1, 1, (0, 0), []),
  (.aload_n 0, 1, (0, 0), []),
  (.getfield 10, 3, (0, 0), [[0, 2091, 0, 1], [11]]),
  (.getfield 140, 3, (0, 0), [[7, 1091, 0, 0], [9]]),
  (.invokevirtual 147, 3, (0, 0), [[3, 2182, 0], [9, 72, 2184, 2183]])]
def qX11_towerOf_130 : List mO := [(.ireturn, 1, (0, 0), [])]
def qX11_towerOf_131 : List mO := [(.aload_n 0, 1, (0, 0), []),
  (.getfield 10, 3, (0, 0), [[0, 2091, 0, 1], [11]]),
  (.getfield 151, 3, (0, 0), [[10, 1098, 0, 1], [9]]),
  (.aload_n 0, 1, (0, 0), []),
  (.getfield 10, 3, (0, 0), [[0, 2091, 0, 1], [11]]),
  (.iload_n 1, 1, (0, 0), []),
  (.aload_n 0, 1, (0, 0), []),
  (.getfield 10, 3, (0, 0), [[0, 2091, 0, 1], [11]]),
  (.getfield 140, 3, (0, 0), [[7, 1091, 0, 0], [9]]),
  (.invokevirtual 143, 3, (0, 0), [[2, 2164, 0], [9, 71, 2166, 2165]])]
def qX11_towerOf_153 : List mO := [(.invokevirtual 155, 3, (0, 0), [[1, 2190, 0], [5, 32, 2192, 2191]])]
def qX11_towerOf_156 : List mO := [(.ifCond .eq 7, 3, (0, 0), [[163]]),
  (.iconst 1, 1, (1, 0), []),
  (.goto 4, 3, (0, 0), [[164]])]
def qX11_towerOf_163 : List mO := [(.iconst 0, 1, (0, 0), [])]
def qX11_towerOf_164 : List mO := [(.ireturn, 1, (0, 0), [])]
def qX11_towerOf_165 : List mO := [(.aload_n 0, 1, (0, 0), []),
  (.getfield 10, 3, (0, 0), [[0, 2091, 0, 1], [11]]),
  (.getfield 131, 3, (0, 0), [[5, 1087, 0, 1], [9]]),
  (.iload_n 1, 1, (0, 0), []),
  (.iaload, 1, (0, 0), []),
  (.ireturn, 1, (0, 0), [])]
def qX11_towerOf_175 : List mO := [(.aload_n 0, 1, (0, 0), []),
  (.getfield 10, 3, (0, 0), [[0, 2091, 0, 1], [11]]),
  (.getfield 134, 3, (0, 0), [[6, 1089, 0, 1], [9]]),
  (.iload_n 1, 1, (0, 0), []),
  (.iaload, 1, (0, 0), []),
  (.ireturn, 1, (0, 0), [])]
def qX11_towerOf_185 : List mO := [(.iconst (-1), 1, ((-1), 0), []),
  (.ireturn, 1, (0, 0), [])]
def pX11_towerOf : List (Nat × List mO) := [(0, qX11_towerOf_0), (8, qX11_towerOf_8), (13, qX11_towerOf_13), (60, qX11_towerOf_60), (70, qX11_towerOf_70), (80, qX11_towerOf_80), (90, qX11_towerOf_90), (100, qX11_towerOf_100), (119, qX11_towerOf_119), (130, qX11_towerOf_130), (131, qX11_towerOf_131), (153, qX11_towerOf_153), (156, qX11_towerOf_156), (163, qX11_towerOf_163), (164, qX11_towerOf_164), (165, qX11_towerOf_165), (175, qX11_towerOf_175), (185, qX11_towerOf_185)]
def qX11_change_0 : List mO := [(.aload_n 0, 1, (0, 0), []),
  (.getfield 10, 3, (0, 0), [[0, 2091, 0, 1], [11]]),
  (.iload_n 1, 1, (0, 0), []),
  (.invokevirtual 137, 3, (0, 0), [[1, 2160, 0], [9, 68, 2162, 2161]])]
def qX11_change_8 : List mO := [(.ifCond .eq 11, 3, (0, 0), [[19]]),
  (.iload_n 2, 1, (0, 0), []),
  (.iload_n 3, 1, (0, 0), []),
  (.invokestatic 112, 3, (0, 0), [[2, 88, 2153, 2154, 0]])]
def qX11_change_16 : List mO := [(.ifCond .ne 5, 3, (0, 0), [[21]])]
def qX11_change_19 : List mO := [(.iconst (-1), 1, ((-1), 0), []),
  (.ireturn, 1, (0, 0), [])]
def qX11_change_21 : List mO := [(.iload_n 2, 1, (0, 0), []),
  (.iconst 1, 1, (1, 0), []),
  (.if_icmp .ne 13, 3, (0, 0), [[36]]),
  (.aload_n 0, 1, (0, 0), []),
  (.getfield 10, 3, (0, 0), [[0, 2091, 0, 1], [11]]),
  (.getfield 122, 3, (0, 0), [[2, 1079, 0, 1], [9]]),
  (.goto 25, 3, (0, 0), [[58]])]
def qX11_change_36 : List mO := [(.iload_n 2, 1, (0, 0), []),
  (.iconst 2, 1, (2, 0), []),
  (.if_icmp .ne 13, 3, (0, 0), [[51]]),
  (.aload_n 0, 1, (0, 0), []),
  (.getfield 10, 3, (0, 0), [[0, 2091, 0, 1], [11]]),
  (.getfield 125, 3, (0, 0), [[3, 1081, 0, 1], [9]]),
  (.goto 10, 3, (0, 0), [[58]])]
def qX11_change_51 : List mO := [(.aload_n 0, 1, (0, 0), []),
  (.getfield 10, 3, (0, 0), [[0, 2091, 0, 1], [11]]),
  (.getfield 128, 3, (0, 0), [[4, 1084, 0, 1], [9]])]
def qX11_change_58 : List mO := [(.astore 4, 2, (0, 0), []),
  (.aload 4, 2, (0, 0), []),
  (.iload_n 1, 1, (0, 0), []),
  (.iaload, 1, (0, 0), []),
  (.istore 5, 2, (0, 0), []),
  (.aload 4, 2, (0, 0), []),
  (.iload_n 1, 1, (0, 0), []),
  (.iload_n 3, 1, (0, 0), []),
  (.iastore, 1, (0, 0), []),
  (.iload 5, 2, (0, 0), []),
  (.ireturn, 1, (0, 0), [])]
def pX11_change : List (Nat × List mO) := [(0, qX11_change_0), (8, qX11_change_8), (16, qX11_change_16), (19, qX11_change_19), (21, qX11_change_21), (36, qX11_change_36), (51, qX11_change_51), (58, qX11_change_58)]
def qX11_turn_0 : List mO := [(.aload_n 0, 1, (0, 0), []),
  (.getfield 10, 3, (0, 0), [[0, 2091, 0, 1], [11]]),
  (.iload_n 1, 1, (0, 0), []),
  (.invokevirtual 137, 3, (0, 0), [[1, 2160, 0], [9, 68, 2162, 2161]])]
def qX11_turn_8 : List mO := [(.ifCond .eq 10, 3, (0, 0), [[18]]),
  (.iload_n 2, 1, (0, 0), []),
  (.invokestatic 108, 3, (0, 0), [[1, 87, 2150, 2151, 0]])]
def qX11_turn_15 : List mO := [(.ifCond .ne 5, 3, (0, 0), [[20]])]
def qX11_turn_18 : List mO := [(.iconst (-1), 1, ((-1), 0), []),
  (.ireturn, 1, (0, 0), [])]
def qX11_turn_20 : List mO := [(.aload_n 0, 1, (0, 0), []),
  (.getfield 10, 3, (0, 0), [[0, 2091, 0, 1], [11]]),
  (.getfield 119, 3, (0, 0), [[1, 1076, 0, 1], [9]]),
  (.iload_n 1, 1, (0, 0), []),
  (.iaload, 1, (0, 0), []),
  (.istore_n 3, 1, (0, 0), []),
  (.aload_n 0, 1, (0, 0), []),
  (.getfield 10, 3, (0, 0), [[0, 2091, 0, 1], [11]]),
  (.getfield 119, 3, (0, 0), [[1, 1076, 0, 1], [9]]),
  (.iload_n 1, 1, (0, 0), []),
  (.iload_n 2, 1, (0, 0), []),
  (.iastore, 1, (0, 0), []),
  (.iload_n 3, 1, (0, 0), []),
  (.ireturn, 1, (0, 0), [])]
def pX11_turn : List (Nat × List mO) := [(0, qX11_turn_0), (8, qX11_turn_8), (15, qX11_turn_15), (18, qX11_turn_18), (20, qX11_turn_20)]
def qX11_day_0 : List mO := [(.iload_n 1, 1, (0, 0), []),
  (.invokestatic 160, 3, (0, 0), [[1, 89, 2206, 2207, 0]])]
def qX11_day_4 : List mO := [(.ifCond .ne 5, 3, (0, 0), [[9]]),
  (.iconst (-1), 1, ((-1), 0), []),
  (.ireturn, 1, (0, 0), [])]
def qX11_day_9 : List mO := [(.aload_n 0, 1, (0, 0), []),
  (.getfield 10, 3, (0, 0), [[0, 2091, 0, 1], [11]]),
  (.getfield 140, 3, (0, 0), [[7, 1091, 0, 0], [9]]),
  (.istore_n 2, 1, (0, 0), []),
  (.aload_n 0, 1, (0, 0), []),
  (.getfield 10, 3, (0, 0), [[0, 2091, 0, 1], [11]]),
  (.iload_n 1, 1, (0, 0), []),
  (.putfield 140, 3, (0, 0), [[7, 1091, 0, 0], [9]]),
  (.iload_n 2, 1, (0, 0), []),
  (.ireturn, 1, (0, 0), [])]
def pX11_day : List (Nat × List mO) := [(0, qX11_day_0), (4, qX11_day_4), (9, qX11_day_9)]
def qX11_wind_0 : List mO := [(.iload_n 1, 1, (0, 0), []),
  (.invokestatic 160, 3, (0, 0), [[1, 89, 2206, 2207, 0]])]
def qX11_wind_4 : List mO := [(.ifCond .eq 14, 3, (0, 0), [[18]]),
  (.iload_n 2, 1, (0, 0), []),
  (.bipush (-3), 2, ((-3), 0), []),
  (.if_icmp .lt 8, 3, (0, 0), [[18]]),
  (.iload_n 2, 1, (0, 0), []),
  (.iconst 3, 1, (3, 0), []),
  (.if_icmp .le 5, 3, (0, 0), [[20]])]
def qX11_wind_18 : List mO := [(.iconst (-1), 1, ((-1), 0), []),
  (.ireturn, 1, (0, 0), [])]
def qX11_wind_20 : List mO := [(.aload_n 0, 1, (0, 0), []),
  (.getfield 10, 3, (0, 0), [[0, 2091, 0, 1], [11]]),
  (.getfield 163, 3, (0, 0), [[8, 1093, 0, 1], [9]]),
  (.iload_n 1, 1, (0, 0), []),
  (.iaload, 1, (0, 0), []),
  (.istore_n 3, 1, (0, 0), []),
  (.aload_n 0, 1, (0, 0), []),
  (.getfield 10, 3, (0, 0), [[0, 2091, 0, 1], [11]]),
  (.getfield 163, 3, (0, 0), [[8, 1093, 0, 1], [9]]),
  (.iload_n 1, 1, (0, 0), []),
  (.iload_n 2, 1, (0, 0), []),
  (.iastore, 1, (0, 0), []),
  (.iload_n 3, 1, (0, 0), []),
  (.bipush 100, 2, (100, 0), []),
  (.iadd, 1, (0, 0), []),
  (.ireturn, 1, (0, 0), [])]
def pX11_wind : List (Nat × List mO) := [(0, qX11_wind_0), (4, qX11_wind_4), (18, qX11_wind_18), (20, qX11_wind_20)]
def qX11_pace_0 : List mO := [(.aload_n 0, 1, (0, 0), []),
  (.getfield 10, 3, (0, 0), [[0, 2091, 0, 1], [11]]),
  (.aload_n 0, 1, (0, 0), []),
  (.getfield 10, 3, (0, 0), [[0, 2091, 0, 1], [11]]),
  (.getfield 140, 3, (0, 0), [[7, 1091, 0, 0], [9]]),
  (.iload_n 1, 1, (0, 0), []),
  (.invokevirtual 166, 3, (0, 0), [[2, 2217, 0], [9, 70, 2219, 2218]])]
def qX11_pace_15 : List mO := [(.ireturn, 1, (0, 0), [])]
def pX11_pace : List (Nat × List mO) := [(0, qX11_pace_0), (15, qX11_pace_15)]
def qX11_isTowerKind_0 : List mO := [(.iload_n 0, 1, (0, 0), []),
  (.iconst 1, 1, (1, 0), []),
  (.if_icmp .lt 12, 3, (0, 0), [[14]]),
  (.iload_n 0, 1, (0, 0), []),
  (.iconst 5, 1, (5, 0), []),
  (.if_icmp .gt 7, 3, (0, 0), [[14]]),
  (.iconst 1, 1, (1, 0), []),
  (.goto 4, 3, (0, 0), [[15]])]
def qX11_isTowerKind_14 : List mO := [(.iconst 0, 1, (0, 0), [])]
def qX11_isTowerKind_15 : List mO := [(.ireturn, 1, (0, 0), [[1]])]
def pX11_isTowerKind : List (Nat × List mO) := [(0, qX11_isTowerKind_0), (14, qX11_isTowerKind_14), (15, qX11_isTowerKind_15)]
def qX11_isMeasure_0 : List mO := [(.iload_n 0, 1, (0, 0), []),
  (.tableswitch 76 1 3 #[27, 43, 59], 27, (0, 0), [[77], [1, 28], [2, 44], [3, 60]])]
def qX11_isMeasure_28 : List mO := [(.iload_n 1, 1, (0, 0), []),
  (.ifCond .lt 13, 3, (0, 0), [[42]]),
  (.iload_n 1, 1, (0, 0), []),
  (.bipush 99, 2, (99, 0), []),
  (.if_icmp .gt 7, 3, (0, 0), [[42]]),
  (.iconst 1, 1, (1, 0), []),
  (.goto 4, 3, (0, 0), [[43]])]
def qX11_isMeasure_42 : List mO := [(.iconst 0, 1, (0, 0), [])]
def qX11_isMeasure_43 : List mO := [(.ireturn, 1, (0, 0), [[1]])]
def qX11_isMeasure_44 : List mO := [(.iload_n 1, 1, (0, 0), []),
  (.ifCond .lt 13, 3, (0, 0), [[58]]),
  (.iload_n 1, 1, (0, 0), []),
  (.bipush 9, 2, (9, 0), []),
  (.if_icmp .gt 7, 3, (0, 0), [[58]]),
  (.iconst 1, 1, (1, 0), []),
  (.goto 4, 3, (0, 0), [[59]])]
def qX11_isMeasure_58 : List mO := [(.iconst 0, 1, (0, 0), [])]
def qX11_isMeasure_59 : List mO := [(.ireturn, 1, (0, 0), [[1]])]
def qX11_isMeasure_60 : List mO := [(.iload_n 1, 1, (0, 0), []),
  (.iconst 1, 1, (1, 0), []),
  (.if_icmp .lt 13, 3, (0, 0), [[75]]),
  (.iload_n 1, 1, (0, 0), []),
  (.bipush 20, 2, (20, 0), []),
  (.if_icmp .gt 7, 3, (0, 0), [[75]]),
  (.iconst 1, 1, (1, 0), []),
  (.goto 4, 3, (0, 0), [[76]])]
def qX11_isMeasure_75 : List mO := [(.iconst 0, 1, (0, 0), [])]
def qX11_isMeasure_76 : List mO := [(.ireturn, 1, (0, 0), [[1]])]
def qX11_isMeasure_77 : List mO := [(.iconst 0, 1, (0, 0), []),
  (.ireturn, 1, (0, 0), [[1]])]
def pX11_isMeasure : List (Nat × List mO) := [(0, qX11_isMeasure_0), (28, qX11_isMeasure_28), (42, qX11_isMeasure_42), (43, qX11_isMeasure_43), (44, qX11_isMeasure_44), (58, qX11_isMeasure_58), (59, qX11_isMeasure_59), (60, qX11_isMeasure_60), (75, qX11_isMeasure_75), (76, qX11_isMeasure_76), (77, qX11_isMeasure_77)]
def qX11_isDay_0 : List mO := [(.iload_n 0, 1, (0, 0), []),
  (.ifCond .lt 13, 3, (0, 0), [[14]]),
  (.iload_n 0, 1, (0, 0), []),
  (.bipush 7, 2, (7, 0), []),
  (.if_icmp .ge 7, 3, (0, 0), [[14]]),
  (.iconst 1, 1, (1, 0), []),
  (.goto 4, 3, (0, 0), [[15]])]
def qX11_isDay_14 : List mO := [(.iconst 0, 1, (0, 0), [])]
def qX11_isDay_15 : List mO := [(.ireturn, 1, (0, 0), [[1]])]
def pX11_isDay : List (Nat × List mO) := [(0, qX11_isDay_0), (14, qX11_isDay_14), (15, qX11_isDay_15)]
def qX11_isUnder_0 : List mO := [(.iload_n 0, 1, (0, 0), []),
  (.iload_n 1, 1, (0, 0), []),
  (.if_icmp .eq 27, 3, (0, 0), [[29]]),
  (.iload_n 1, 1, (0, 0), []),
  (.ifCond .eq 23, 3, (0, 0), [[29]]),
  (.iload_n 0, 1, (0, 0), []),
  (.iconst 3, 1, (3, 0), []),
  (.if_icmp .ne 8, 3, (0, 0), [[19]]),
  (.iload_n 1, 1, (0, 0), []),
  (.iconst 2, 1, (2, 0), []),
  (.if_icmp .eq 13, 3, (0, 0), [[29]])]
def qX11_isUnder_19 : List mO := [(.iload_n 0, 1, (0, 0), []),
  (.iconst 5, 1, (5, 0), []),
  (.if_icmp .ne 12, 3, (0, 0), [[33]]),
  (.iload_n 1, 1, (0, 0), []),
  (.iconst 4, 1, (4, 0), []),
  (.if_icmp .ne 7, 3, (0, 0), [[33]])]
def qX11_isUnder_29 : List mO := [(.iconst 1, 1, (1, 0), []),
  (.goto 4, 3, (0, 0), [[34]])]
def qX11_isUnder_33 : List mO := [(.iconst 0, 1, (0, 0), [])]
def qX11_isUnder_34 : List mO := [(.ireturn, 1, (0, 0), [[1]])]
def pX11_isUnder : List (Nat × List mO) := [(0, qX11_isUnder_0), (19, qX11_isUnder_19), (29, qX11_isUnder_29), (33, qX11_isUnder_33), (34, qX11_isUnder_34)]
def qX11_feed_0 : List mO := [(.iload_n 3, 1, (0, 0), []),
  (.iconst 1, 1, (1, 0), []),
  (.if_icmp .lt 9, 3, (0, 0), [[11]]),
  (.iload_n 3, 1, (0, 0), []),
  (.bipush 8, 2, (8, 0), []),
  (.if_icmp .le 5, 3, (0, 0), [[13]])]
def qX11_feed_11 : List mO := [(.iconst (-1), 1, ((-1), 0), []),
  (.ireturn, 1, (0, 0), [])]
def qX11_feed_13 : List mO := [(.aload_n 0, 1, (0, 0), []),
  (.getfield 26, 3, (0, 0), [[3, 2094, 0, 1], [11]]),
  (.getfield 170, 3, (0, 0), [[0, 1146, 0, 0], [6]]),
  (.iload_n 3, 1, (0, 0), []),
  (.iadd, 1, (0, 0), []),
  (.sipush 200, 3, (200, 0), []),
  (.if_icmp .le 6, 3, (0, 0), [[31]]),
  (.bipush (-2), 2, ((-2), 0), []),
  (.ireturn, 1, (0, 0), [])]
def qX11_feed_31 : List mO := [(.iconst 0, 1, (0, 0), []),
  (.istore 4, 2, (0, 0), [])]
def qX11_feed_34 : List mO := [(.iload 4, 2, (0, 0), []),
  (.iload_n 3, 1, (0, 0), []),
  (.if_icmp .ge 36, 3, (0, 0), [[73]]),
  (.aload_n 0, 1, (0, 0), []),
  (.getfield 26, 3, (0, 0), [[3, 2094, 0, 1], [11]]),
  (.getfield 173, 3, (0, 0), [[1, 1148, 0, 1], [6]]),
  (.aload_n 0, 1, (0, 0), []),
  (.getfield 26, 3, (0, 0), [[3, 2094, 0, 1], [11]]),
  (.getfield 170, 3, (0, 0), [[0, 1146, 0, 0], [6]]),
  (.iload 4, 2, (0, 0), []),
  (.iadd, 1, (0, 0), []),
  (.lload_n 1, 1, (0, 0), []),
  (.bipush 8, 2, (8, 0), []),
  (.iload 4, 2, (0, 0), []),
  (.imul, 1, (0, 0), []),
  (.lushr, 1, (0, 0), []),
  (.l2i, 1, (0, 0), []),
  (.i2b, 1, (0, 0), []),
  (.bastore, 1, (0, 0), []),
  (.iinc 4 1, 3, (1, 0), []),
  (.goto (-36), 3, (0, 0), [[34]])]
def qX11_feed_73 : List mO := [(.aload_n 0, 1, (0, 0), []),
  (.getfield 26, 3, (0, 0), [[3, 2094, 0, 1], [11]]),
  (.dup, 1, (0, 0), []),
  (.getfield 170, 3, (0, 0), [[0, 1146, 0, 0], [6]]),
  (.iload_n 3, 1, (0, 0), []),
  (.iadd, 1, (0, 0), []),
  (.putfield 170, 3, (0, 0), [[0, 1146, 0, 0], [6]]),
  (.aload_n 0, 1, (0, 0), []),
  (.getfield 26, 3, (0, 0), [[3, 2094, 0, 1], [11]]),
  (.getfield 170, 3, (0, 0), [[0, 1146, 0, 0], [6]]),
  (.ireturn, 1, (0, 0), [])]
def pX11_feed : List (Nat × List mO) := [(0, qX11_feed_0), (11, qX11_feed_11), (13, qX11_feed_13), (31, qX11_feed_31), (34, qX11_feed_34), (73, qX11_feed_73)]
def qX11_rules_0 : List mO := [(.aload_n 0, 1, (0, 0), []),
  (.getfield 26, 3, (0, 0), [[3, 2094, 0, 1], [11]]),
  (.invokevirtual 177, 3, (0, 0), [[0, 2229, 0], [6, 36, 2231, 2230]])]
def qX11_rules_7 : List mO := [(.istore_n 1, 1, (0, 0), []),
  (.aload_n 0, 1, (0, 0), []),
  (.getfield 26, 3, (0, 0), [[3, 2094, 0, 1], [11]]),
  (.iconst 0, 1, (0, 0), []),
  (.putfield 170, 3, (0, 0), [[0, 1146, 0, 0], [6]]),
  (.iload_n 1, 1, (0, 0), []),
  (.iconst (-1), 1, ((-1), 0), []),
  (.if_icmp .eq 8, 3, (0, 0), [[26]]),
  (.bipush (-100), 2, ((-100), 0), []),
  (.iload_n 1, 1, (0, 0), []),
  (.isub, 1, (0, 0), []),
  (.ireturn, 1, (0, 0), [])]
def qX11_rules_26 : List mO := [(.aload_n 0, 1, (0, 0), []),
  (.getfield 10, 3, (0, 0), [[0, 2091, 0, 1], [11]]),
  (.getfield 151, 3, (0, 0), [[10, 1098, 0, 1], [9]]),
  (.aload_n 0, 1, (0, 0), []),
  (.getfield 26, 3, (0, 0), [[3, 2094, 0, 1], [11]]),
  (.getfield 181, 3, (0, 0), [[2, 1150, 0, 1], [6]]),
  (.invokevirtual 184, 3, (0, 0), [[1, 3154, 0], [5, 34, 3156, 3155]])]
def qX11_rules_43 : List mO := [(.aload_n 0, 1, (0, 0), []),
  (.getfield 10, 3, (0, 0), [[0, 2091, 0, 1], [11]]),
  (.getfield 151, 3, (0, 0), [[10, 1098, 0, 1], [9]]),
  (.getfield 188, 3, (0, 0), [[0, 1044, 0, 0], [5]]),
  (.ireturn, 1, (0, 0), [])]
def pX11_rules : List (Nat × List mO) := [(0, qX11_rules_0), (7, qX11_rules_7), (26, qX11_rules_26), (43, qX11_rules_43)]
def qX11_cry_0 : List mO := [(.aload_n 0, 1, (0, 0), []),
  (.iload_n 1, 1, (0, 0), []),
  (.iload_n 2, 1, (0, 0), []),
  (.invokevirtual 191, 3, (0, 0), [[2, 3165, 0], [11, 118, 25, 3167]])]
def qX11_cry_6 : List mO := [(.ifCond .ne 5, 3, (0, 0), [[11]]),
  (.iconst (-1), 1, ((-1), 0), []),
  (.ireturn, 1, (0, 0), [])]
def qX11_cry_11 : List mO := [(.aload_n 0, 1, (0, 0), []),
  (.iload_n 1, 1, (0, 0), []),
  (.iload_n 2, 1, (0, 0), []),
  (.iload_n 3, 1, (0, 0), []),
  (.invokevirtual 194, 3, (0, 0), [[3, 3172, 0], [11, 121, 26, 3174]])]
def qX11_cry_18 : List mO := [(.iconst 0, 1, (0, 0), []),
  (.istore 4, 2, (0, 0), [])]
def qX11_cry_21 : List mO := [(.iload 4, 2, (0, 0), []),
  (.aload_n 0, 1, (0, 0), []),
  (.getfield 10, 3, (0, 0), [[0, 2091, 0, 1], [11]]),
  (.getfield 116, 3, (0, 0), [[0, 1074, 0, 0], [9]]),
  (.if_icmp .ge 61, 3, (0, 0), [[91]]),
  (.aload_n 0, 1, (0, 0), []),
  (.getfield 35, 3, (0, 0), [[4, 2095, 0, 1], [11]]),
  (.iload 4, 2, (0, 0), []),
  (.invokevirtual 198, 3, (0, 0), [[1, 3212, 0], [0, 10, 3206, 3205]])]
def qX11_cry_42 : List mO := [(.ifCond .eq 43, 3, (0, 0), [[85]]),
  (.aload_n 0, 1, (0, 0), []),
  (.getfield 10, 3, (0, 0), [[0, 2091, 0, 1], [11]]),
  (.getfield 131, 3, (0, 0), [[5, 1087, 0, 1], [9]]),
  (.iload 4, 2, (0, 0), []),
  (.aload_n 0, 1, (0, 0), []),
  (.getfield 35, 3, (0, 0), [[4, 2095, 0, 1], [11]]),
  (.getfield 201, 3, (0, 0), [[7, 1205, 0, 1], [0]]),
  (.iload 4, 2, (0, 0), []),
  (.iaload, 1, (0, 0), []),
  (.iastore, 1, (0, 0), []),
  (.aload_n 0, 1, (0, 0), []),
  (.getfield 10, 3, (0, 0), [[0, 2091, 0, 1], [11]]),
  (.getfield 134, 3, (0, 0), [[6, 1089, 0, 1], [9]]),
  (.iload 4, 2, (0, 0), []),
  (.aload_n 0, 1, (0, 0), []),
  (.getfield 35, 3, (0, 0), [[4, 2095, 0, 1], [11]]),
  (.getfield 202, 3, (0, 0), [[6, 1203, 0, 1], [0]]),
  (.iload 4, 2, (0, 0), []),
  (.iaload, 1, (0, 0), []),
  (.iastore, 1, (0, 0), [])]
def qX11_cry_85 : List mO := [(.iinc 4 1, 3, (1, 0), []),
  (.goto (-67), 3, (0, 0), [[21]])]
def qX11_cry_91 : List mO := [(.aload_n 0, 1, (0, 0), []),
  (.getfield 35, 3, (0, 0), [[4, 2095, 0, 1], [11]]),
  (.invokevirtual 203, 3, (0, 0), [[0, 3213, 0], [0, 11, 3215, 3214]])]
def qX11_cry_98 : List mO := [(.ireturn, 1, (0, 0), [])]
def pX11_cry : List (Nat × List mO) := [(0, qX11_cry_0), (6, qX11_cry_6), (11, qX11_cry_11), (18, qX11_cry_18), (21, qX11_cry_21), (42, qX11_cry_42), (85, qX11_cry_85), (91, qX11_cry_91), (98, qX11_cry_98)]
def qX11_shows_0 : List mO := [(.aload_n 0, 1, (0, 0), []),
  (.getfield 10, 3, (0, 0), [[0, 2091, 0, 1], [11]]),
  (.iload_n 1, 1, (0, 0), []),
  (.invokevirtual 137, 3, (0, 0), [[1, 2160, 0], [9, 68, 2162, 2161]])]
def qX11_shows_8 : List mO := [(.ifCond .eq 10, 3, (0, 0), [[18]]),
  (.iload_n 2, 1, (0, 0), []),
  (.invokestatic 206, 3, (0, 0), [[1, 116, 3221, 3222, 0]])]
def qX11_shows_15 : List mO := [(.ifCond .ne 5, 3, (0, 0), [[20]])]
def qX11_shows_18 : List mO := [(.iconst (-1), 1, ((-1), 0), []),
  (.ireturn, 1, (0, 0), [])]
def qX11_shows_20 : List mO := [(.aload_n 0, 1, (0, 0), []),
  (.getfield 10, 3, (0, 0), [[0, 2091, 0, 1], [11]]),
  (.getfield 134, 3, (0, 0), [[6, 1089, 0, 1], [9]]),
  (.iload_n 1, 1, (0, 0), []),
  (.iaload, 1, (0, 0), []),
  (.bipush (-9), 2, ((-9), 0), []),
  (.if_icmp .ne 6, 3, (0, 0), [[37]]),
  (.bipush (-3), 2, ((-3), 0), []),
  (.ireturn, 1, (0, 0), [])]
def qX11_shows_37 : List mO := [(.iload_n 2, 1, (0, 0), []),
  (.aload_n 0, 1, (0, 0), []),
  (.getfield 10, 3, (0, 0), [[0, 2091, 0, 1], [11]]),
  (.getfield 134, 3, (0, 0), [[6, 1089, 0, 1], [9]]),
  (.iload_n 1, 1, (0, 0), []),
  (.iaload, 1, (0, 0), []),
  (.if_icmp .ge 8, 3, (0, 0), [[55]]),
  (.bipush (-4), 2, ((-4), 0), []),
  (.goto 24, 3, (0, 0), [[76]])]
def qX11_shows_55 : List mO := [(.aload_n 0, 1, (0, 0), []),
  (.getfield 10, 3, (0, 0), [[0, 2091, 0, 1], [11]]),
  (.getfield 131, 3, (0, 0), [[5, 1087, 0, 1], [9]]),
  (.iload_n 1, 1, (0, 0), []),
  (.iaload, 1, (0, 0), []),
  (.iload_n 2, 1, (0, 0), []),
  (.iadd, 1, (0, 0), []),
  (.aload_n 0, 1, (0, 0), []),
  (.getfield 10, 3, (0, 0), [[0, 2091, 0, 1], [11]]),
  (.getfield 134, 3, (0, 0), [[6, 1089, 0, 1], [9]]),
  (.iload_n 1, 1, (0, 0), []),
  (.iaload, 1, (0, 0), []),
  (.isub, 1, (0, 0), [])]
def qX11_shows_76 : List mO := [(.ireturn, 1, (0, 0), [])]
def pX11_shows : List (Nat × List mO) := [(0, qX11_shows_0), (8, qX11_shows_8), (15, qX11_shows_15), (18, qX11_shows_18), (20, qX11_shows_20), (37, qX11_shows_37), (55, qX11_shows_55), (76, qX11_shows_76)]
def qX11_hush_0 : List mO := [(.aload_n 0, 1, (0, 0), []),
  (.getfield 10, 3, (0, 0), [[0, 2091, 0, 1], [11]]),
  (.invokevirtual 209, 3, (0, 0), [[0, 3228, 0], [9, 69, 3230, 3229]])]
def qX11_hush_7 : List mO := [(.istore_n 1, 1, (0, 0), []),
  (.aload_n 0, 1, (0, 0), []),
  (.getfield 10, 3, (0, 0), [[0, 2091, 0, 1], [11]]),
  (.getfield 131, 3, (0, 0), [[5, 1087, 0, 1], [9]]),
  (.bipush (-9), 2, ((-9), 0), []),
  (.invokestatic 212, 3, (0, 0), [[2, 267, 3232, 3233, 0]])]
def qX11_hush_20 : List mO := [(.aload_n 0, 1, (0, 0), []),
  (.getfield 10, 3, (0, 0), [[0, 2091, 0, 1], [11]]),
  (.getfield 134, 3, (0, 0), [[6, 1089, 0, 1], [9]]),
  (.bipush (-9), 2, ((-9), 0), []),
  (.invokestatic 212, 3, (0, 0), [[2, 267, 3232, 3233, 0]])]
def qX11_hush_32 : List mO := [(.iload_n 1, 1, (0, 0), []),
  (.ireturn, 1, (0, 0), [])]
def pX11_hush : List (Nat × List mO) := [(0, qX11_hush_0), (7, qX11_hush_7), (20, qX11_hush_20), (32, qX11_hush_32)]
def qX11_comes_0 : List mO := [(.aload_n 0, 1, (0, 0), []),
  (.iload_n 1, 1, (0, 0), []),
  (.iload_n 2, 1, (0, 0), []),
  (.invokevirtual 191, 3, (0, 0), [[2, 3165, 0], [11, 118, 25, 3167]])]
def qX11_comes_6 : List mO := [(.ifCond .eq 14, 3, (0, 0), [[20]]),
  (.aload_n 0, 1, (0, 0), []),
  (.getfield 10, 3, (0, 0), [[0, 2091, 0, 1], [11]]),
  (.iload_n 3, 1, (0, 0), []),
  (.invokevirtual 137, 3, (0, 0), [[1, 2160, 0], [9, 68, 2162, 2161]])]
def qX11_comes_17 : List mO := [(.ifCond .ne 5, 3, (0, 0), [[22]])]
def qX11_comes_20 : List mO := [(.iconst (-1), 1, ((-1), 0), []),
  (.ireturn, 1, (0, 0), [])]
def qX11_comes_22 : List mO := [(.aload_n 0, 1, (0, 0), []),
  (.iload_n 1, 1, (0, 0), []),
  (.iload_n 2, 1, (0, 0), []),
  (.invokevirtual 218, 3, (0, 0), [[2, 3239, 0], [11, 120, 32, 4001]])]
def qX11_comes_28 : List mO := [(.aload_n 0, 1, (0, 0), []),
  (.getfield 35, 3, (0, 0), [[4, 2095, 0, 1], [11]]),
  (.iload_n 3, 1, (0, 0), []),
  (.invokevirtual 198, 3, (0, 0), [[1, 3212, 0], [0, 10, 3206, 3205]])]
def qX11_comes_36 : List mO := [(.ifCond .eq 15, 3, (0, 0), [[51]]),
  (.aload_n 0, 1, (0, 0), []),
  (.getfield 35, 3, (0, 0), [[4, 2095, 0, 1], [11]]),
  (.getfield 202, 3, (0, 0), [[6, 1203, 0, 1], [0]]),
  (.iload_n 3, 1, (0, 0), []),
  (.iaload, 1, (0, 0), []),
  (.goto 5, 3, (0, 0), [[53]])]
def qX11_comes_51 : List mO := [(.bipush (-3), 2, ((-3), 0), [])]
def qX11_comes_53 : List mO := [(.ireturn, 1, (0, 0), [])]
def pX11_comes : List (Nat × List mO) := [(0, qX11_comes_0), (6, qX11_comes_6), (17, qX11_comes_17), (20, qX11_comes_20), (22, qX11_comes_22), (28, qX11_comes_28), (36, qX11_comes_36), (51, qX11_comes_51), (53, qX11_comes_53)]
def qX11_holds_0 : List mO := [(.aload_n 0, 1, (0, 0), []),
  (.iload_n 1, 1, (0, 0), []),
  (.iload_n 2, 1, (0, 0), []),
  (.invokevirtual 191, 3, (0, 0), [[2, 3165, 0], [11, 118, 25, 3167]])]
def qX11_holds_6 : List mO := [(.ifCond .eq 14, 3, (0, 0), [[20]]),
  (.aload_n 0, 1, (0, 0), []),
  (.getfield 10, 3, (0, 0), [[0, 2091, 0, 1], [11]]),
  (.iload_n 3, 1, (0, 0), []),
  (.invokevirtual 137, 3, (0, 0), [[1, 2160, 0], [9, 68, 2162, 2161]])]
def qX11_holds_17 : List mO := [(.ifCond .ne 5, 3, (0, 0), [[22]])]
def qX11_holds_20 : List mO := [(.iconst (-1), 1, ((-1), 0), []),
  (.ireturn, 1, (0, 0), [])]
def qX11_holds_22 : List mO := [(.aload_n 0, 1, (0, 0), []),
  (.iload_n 1, 1, (0, 0), []),
  (.iload_n 2, 1, (0, 0), []),
  (.invokevirtual 218, 3, (0, 0), [[2, 3239, 0], [11, 120, 32, 4001]])]
def qX11_holds_28 : List mO := [(.aload_n 0, 1, (0, 0), []),
  (.getfield 35, 3, (0, 0), [[4, 2095, 0, 1], [11]]),
  (.iload_n 3, 1, (0, 0), []),
  (.invokevirtual 198, 3, (0, 0), [[1, 3212, 0], [0, 10, 3206, 3205]])]
def qX11_holds_36 : List mO := [(.ifCond .eq 15, 3, (0, 0), [[51]]),
  (.aload_n 0, 1, (0, 0), []),
  (.getfield 35, 3, (0, 0), [[4, 2095, 0, 1], [11]]),
  (.getfield 201, 3, (0, 0), [[7, 1205, 0, 1], [0]]),
  (.iload_n 3, 1, (0, 0), []),
  (.iaload, 1, (0, 0), []),
  (.goto 5, 3, (0, 0), [[53]])]
def qX11_holds_51 : List mO := [(.bipush (-3), 2, ((-3), 0), [])]
def qX11_holds_53 : List mO := [(.ireturn, 1, (0, 0), [])]
def pX11_holds : List (Nat × List mO) := [(0, qX11_holds_0), (6, qX11_holds_6), (17, qX11_holds_17), (20, qX11_holds_20), (22, qX11_holds_22), (28, qX11_holds_28), (36, qX11_holds_36), (51, qX11_holds_51), (53, qX11_holds_53)]
def qX11_off_0 : List mO := [(.aload_n 0, 1, (0, 0), []),
  (.iload_n 1, 1, (0, 0), []),
  (.iload_n 2, 1, (0, 0), []),
  (.invokevirtual 191, 3, (0, 0), [[2, 3165, 0], [11, 118, 25, 3167]])]
def qX11_off_6 : List mO := [(.ifCond .eq 14, 3, (0, 0), [[20]]),
  (.aload_n 0, 1, (0, 0), []),
  (.getfield 10, 3, (0, 0), [[0, 2091, 0, 1], [11]]),
  (.iload_n 3, 1, (0, 0), []),
  (.invokevirtual 137, 3, (0, 0), [[1, 2160, 0], [9, 68, 2162, 2161]])]
def qX11_off_17 : List mO := [(.ifCond .ne 5, 3, (0, 0), [[22]])]
def qX11_off_20 : List mO := [(.iconst (-1), 1, ((-1), 0), []),
  (.ireturn, 1, (0, 0), [])]
def qX11_off_22 : List mO := [(.aload_n 0, 1, (0, 0), []),
  (.iload_n 1, 1, (0, 0), []),
  (.iload_n 2, 1, (0, 0), []),
  (.invokevirtual 218, 3, (0, 0), [[2, 3239, 0], [11, 120, 32, 4001]])]
def qX11_off_28 : List mO := [(.aload_n 0, 1, (0, 0), []),
  (.getfield 35, 3, (0, 0), [[4, 2095, 0, 1], [11]]),
  (.iload_n 3, 1, (0, 0), []),
  (.invokevirtual 198, 3, (0, 0), [[1, 3212, 0], [0, 10, 3206, 3205]])]
def qX11_off_36 : List mO := [(.ifCond .eq 18, 3, (0, 0), [[54]]),
  (.aload_n 0, 1, (0, 0), []),
  (.getfield 35, 3, (0, 0), [[4, 2095, 0, 1], [11]]),
  (.iload_n 3, 1, (0, 0), []),
  (.invokevirtual 222, 3, (0, 0), [[1, 4015, 0], [0, 12, 4017, 4016]])]
def qX11_off_47 : List mO := [(.sipush 10000, 3, (10000, 0), []),
  (.iadd, 1, (0, 0), []),
  (.goto 5, 3, (0, 0), [[56]])]
def qX11_off_54 : List mO := [(.bipush (-3), 2, ((-3), 0), [])]
def qX11_off_56 : List mO := [(.ireturn, 1, (0, 0), [])]
def pX11_off : List (Nat × List mO) := [(0, qX11_off_0), (6, qX11_off_6), (17, qX11_off_17), (20, qX11_off_20), (22, qX11_off_22), (28, qX11_off_28), (36, qX11_off_36), (47, qX11_off_47), (54, qX11_off_54), (56, qX11_off_56)]
def qX11_worst_0 : List mO := [(.aload_n 0, 1, (0, 0), []),
  (.iload_n 1, 1, (0, 0), []),
  (.iload_n 2, 1, (0, 0), []),
  (.invokevirtual 191, 3, (0, 0), [[2, 3165, 0], [11, 118, 25, 3167]])]
def qX11_worst_6 : List mO := [(.ifCond .ne 5, 3, (0, 0), [[11]]),
  (.iconst (-1), 1, ((-1), 0), []),
  (.ireturn, 1, (0, 0), [])]
def qX11_worst_11 : List mO := [(.aload_n 0, 1, (0, 0), []),
  (.iload_n 1, 1, (0, 0), []),
  (.iload_n 2, 1, (0, 0), []),
  (.invokevirtual 218, 3, (0, 0), [[2, 3239, 0], [11, 120, 32, 4001]])]
def qX11_worst_17 : List mO := [(.iload_n 1, 1, (0, 0), []),
  (.istore_n 3, 1, (0, 0), []),
  (.iconst (-1), 1, ((-1), 0), []),
  (.istore 4, 2, (0, 0), []),
  (.iconst 0, 1, (0, 0), []),
  (.istore 5, 2, (0, 0), [])]
def qX11_worst_25 : List mO := [(.iload 5, 2, (0, 0), []),
  (.aload_n 0, 1, (0, 0), []),
  (.getfield 10, 3, (0, 0), [[0, 2091, 0, 1], [11]]),
  (.getfield 116, 3, (0, 0), [[0, 1074, 0, 0], [9]]),
  (.if_icmp .ge 49, 3, (0, 0), [[83]]),
  (.aload_n 0, 1, (0, 0), []),
  (.getfield 35, 3, (0, 0), [[4, 2095, 0, 1], [11]]),
  (.iload 5, 2, (0, 0), []),
  (.invokevirtual 198, 3, (0, 0), [[1, 3212, 0], [0, 10, 3206, 3205]])]
def qX11_worst_46 : List mO := [(.ifCond .eq 31, 3, (0, 0), [[77]]),
  (.aload_n 0, 1, (0, 0), []),
  (.getfield 35, 3, (0, 0), [[4, 2095, 0, 1], [11]]),
  (.iload 5, 2, (0, 0), []),
  (.invokevirtual 226, 3, (0, 0), [[1, 4023, 0], [0, 13, 4025, 4024]])]
def qX11_worst_58 : List mO := [(.iload 4, 2, (0, 0), []),
  (.if_icmp .le 17, 3, (0, 0), [[77]]),
  (.iload 5, 2, (0, 0), []),
  (.istore_n 3, 1, (0, 0), []),
  (.aload_n 0, 1, (0, 0), []),
  (.getfield 35, 3, (0, 0), [[4, 2095, 0, 1], [11]]),
  (.iload 5, 2, (0, 0), []),
  (.invokevirtual 226, 3, (0, 0), [[1, 4023, 0], [0, 13, 4025, 4024]])]
def qX11_worst_75 : List mO := [(.istore 4, 2, (0, 0), [])]
def qX11_worst_77 : List mO := [(.iinc 5 1, 3, (1, 0), []),
  (.goto (-55), 3, (0, 0), [[25]])]
def qX11_worst_83 : List mO := [(.iload_n 3, 1, (0, 0), []),
  (.ireturn, 1, (0, 0), [])]
def pX11_worst : List (Nat × List mO) := [(0, qX11_worst_0), (6, qX11_worst_6), (11, qX11_worst_11), (17, qX11_worst_17), (25, qX11_worst_25), (46, qX11_worst_46), (58, qX11_worst_58), (75, qX11_worst_75), (77, qX11_worst_77), (83, qX11_worst_83)]
def qX11_within_0 : List mO := [(.aload_n 0, 1, (0, 0), []),
  (.iload_n 1, 1, (0, 0), []),
  (.iload_n 2, 1, (0, 0), []),
  (.invokevirtual 191, 3, (0, 0), [[2, 3165, 0], [11, 118, 25, 3167]])]
def qX11_within_6 : List mO := [(.ifCond .eq 10, 3, (0, 0), [[16]]),
  (.iload_n 3, 1, (0, 0), []),
  (.invokestatic 229, 3, (0, 0), [[1, 117, 4035, 4036, 0]])]
def qX11_within_13 : List mO := [(.ifCond .ne 5, 3, (0, 0), [[18]])]
def qX11_within_16 : List mO := [(.iconst (-1), 1, ((-1), 0), []),
  (.ireturn, 1, (0, 0), [])]
def qX11_within_18 : List mO := [(.aload_n 0, 1, (0, 0), []),
  (.iload_n 1, 1, (0, 0), []),
  (.iload_n 2, 1, (0, 0), []),
  (.invokevirtual 218, 3, (0, 0), [[2, 3239, 0], [11, 120, 32, 4001]])]
def qX11_within_24 : List mO := [(.iconst 0, 1, (0, 0), []),
  (.istore 4, 2, (0, 0), []),
  (.iconst 0, 1, (0, 0), []),
  (.istore 5, 2, (0, 0), [])]
def qX11_within_30 : List mO := [(.iload 5, 2, (0, 0), []),
  (.aload_n 0, 1, (0, 0), []),
  (.getfield 10, 3, (0, 0), [[0, 2091, 0, 1], [11]]),
  (.getfield 116, 3, (0, 0), [[0, 1074, 0, 0], [9]]),
  (.if_icmp .ge 37, 3, (0, 0), [[76]]),
  (.aload_n 0, 1, (0, 0), []),
  (.getfield 35, 3, (0, 0), [[4, 2095, 0, 1], [11]]),
  (.iload 5, 2, (0, 0), []),
  (.invokevirtual 198, 3, (0, 0), [[1, 3212, 0], [0, 10, 3206, 3205]])]
def qX11_within_51 : List mO := [(.ifCond .eq 19, 3, (0, 0), [[70]]),
  (.aload_n 0, 1, (0, 0), []),
  (.getfield 35, 3, (0, 0), [[4, 2095, 0, 1], [11]]),
  (.iload 5, 2, (0, 0), []),
  (.invokevirtual 226, 3, (0, 0), [[1, 4023, 0], [0, 13, 4025, 4024]])]
def qX11_within_63 : List mO := [(.iload_n 3, 1, (0, 0), []),
  (.if_icmp .gt 6, 3, (0, 0), [[70]]),
  (.iinc 4 1, 3, (1, 0), [])]
def qX11_within_70 : List mO := [(.iinc 5 1, 3, (1, 0), []),
  (.goto (-43), 3, (0, 0), [[30]])]
def qX11_within_76 : List mO := [(.iload 4, 2, (0, 0), []),
  (.ireturn, 1, (0, 0), [])]
def pX11_within : List (Nat × List mO) := [(0, qX11_within_0), (6, qX11_within_6), (13, qX11_within_13), (16, qX11_within_16), (18, qX11_within_18), (24, qX11_within_24), (30, qX11_within_30), (51, qX11_within_51), (63, qX11_within_63), (70, qX11_within_70), (76, qX11_within_76)]
def qX11_bestAdd_0 : List mO := [(.aload_n 0, 1, (0, 0), []),
  (.getfield 10, 3, (0, 0), [[0, 2091, 0, 1], [11]]),
  (.iload_n 1, 1, (0, 0), []),
  (.invokevirtual 137, 3, (0, 0), [[1, 2160, 0], [9, 68, 2162, 2161]])]
def qX11_bestAdd_8 : List mO := [(.ifCond .eq 17, 3, (0, 0), [[25]]),
  (.aload_n 0, 1, (0, 0), []),
  (.iload_n 2, 1, (0, 0), []),
  (.iload_n 3, 1, (0, 0), []),
  (.invokevirtual 191, 3, (0, 0), [[2, 3165, 0], [11, 118, 25, 3167]])]
def qX11_bestAdd_17 : List mO := [(.ifCond .eq 8, 3, (0, 0), [[25]]),
  (.iload_n 1, 1, (0, 0), []),
  (.iload_n 2, 1, (0, 0), []),
  (.if_icmp .ne 5, 3, (0, 0), [[27]])]
def qX11_bestAdd_25 : List mO := [(.iconst (-1), 1, ((-1), 0), []),
  (.ireturn, 1, (0, 0), [])]
def qX11_bestAdd_27 : List mO := [(.aload_n 0, 1, (0, 0), []),
  (.getfield 10, 3, (0, 0), [[0, 2091, 0, 1], [11]]),
  (.getfield 122, 3, (0, 0), [[2, 1079, 0, 1], [9]]),
  (.iload_n 1, 1, (0, 0), []),
  (.iaload, 1, (0, 0), []),
  (.istore 4, 2, (0, 0), []),
  (.bipush (-3), 2, ((-3), 0), []),
  (.istore 5, 2, (0, 0), []),
  (.iconst 0, 1, (0, 0), []),
  (.istore 6, 2, (0, 0), []),
  (.aload_n 0, 1, (0, 0), []),
  (.iload_n 1, 1, (0, 0), []),
  (.iload_n 2, 1, (0, 0), []),
  (.iload_n 3, 1, (0, 0), []),
  (.invokevirtual 232, 3, (0, 0), [[3, 4042, 0], [11, 124, 33, 4044]])]
def qX11_bestAdd_52 : List mO := [(.ifCond .eq 59, 3, (0, 0), [[111]]),
  (.iconst 0, 1, (0, 0), []),
  (.istore 7, 2, (0, 0), [])]
def qX11_bestAdd_58 : List mO := [(.iload 7, 2, (0, 0), []),
  (.bipush 99, 2, (99, 0), []),
  (.if_icmp .gt 49, 3, (0, 0), [[111]]),
  (.aload_n 0, 1, (0, 0), []),
  (.getfield 10, 3, (0, 0), [[0, 2091, 0, 1], [11]]),
  (.getfield 122, 3, (0, 0), [[2, 1079, 0, 1], [9]]),
  (.iload_n 1, 1, (0, 0), []),
  (.iload 7, 2, (0, 0), []),
  (.iastore, 1, (0, 0), []),
  (.aload_n 0, 1, (0, 0), []),
  (.iload_n 1, 1, (0, 0), []),
  (.invokevirtual 236, 3, (0, 0), [[1, 4046, 0], [11, 125, 34, 4048]])]
def qX11_bestAdd_81 : List mO := [(.istore 8, 2, (0, 0), []),
  (.iload 5, 2, (0, 0), []),
  (.bipush (-3), 2, ((-3), 0), []),
  (.if_icmp .eq 10, 3, (0, 0), [[97]]),
  (.iload 8, 2, (0, 0), []),
  (.iload 6, 2, (0, 0), []),
  (.if_icmp .ge 11, 3, (0, 0), [[105]])]
def qX11_bestAdd_97 : List mO := [(.iload 7, 2, (0, 0), []),
  (.istore 5, 2, (0, 0), []),
  (.iload 8, 2, (0, 0), []),
  (.istore 6, 2, (0, 0), [])]
def qX11_bestAdd_105 : List mO := [(.iinc 7 1, 3, (1, 0), []),
  (.goto (-50), 3, (0, 0), [[58]])]
def qX11_bestAdd_111 : List mO := [(.aload_n 0, 1, (0, 0), []),
  (.getfield 10, 3, (0, 0), [[0, 2091, 0, 1], [11]]),
  (.getfield 122, 3, (0, 0), [[2, 1079, 0, 1], [9]]),
  (.iload_n 1, 1, (0, 0), []),
  (.iload 4, 2, (0, 0), []),
  (.iastore, 1, (0, 0), []),
  (.iload 5, 2, (0, 0), []),
  (.ireturn, 1, (0, 0), [])]
def pX11_bestAdd : List (Nat × List mO) := [(0, qX11_bestAdd_0), (8, qX11_bestAdd_8), (17, qX11_bestAdd_17), (25, qX11_bestAdd_25), (27, qX11_bestAdd_27), (52, qX11_bestAdd_52), (58, qX11_bestAdd_58), (81, qX11_bestAdd_81), (97, qX11_bestAdd_97), (105, qX11_bestAdd_105), (111, qX11_bestAdd_111)]
def qX11_clocks_0 : List mO := [(.aload_n 0, 1, (0, 0), []),
  (.iload_n 1, 1, (0, 0), []),
  (.invokevirtual 239, 3, (0, 0), [[1, 4058, 0], [11, 119, 35, 4060]])]
def qX11_clocks_5 : List mO := [(.ifCond .eq 10, 3, (0, 0), [[15]]),
  (.iload_n 2, 1, (0, 0), []),
  (.invokestatic 242, 3, (0, 0), [[1, 115, 3169, 3170, 0]])]
def qX11_clocks_12 : List mO := [(.ifCond .ne 5, 3, (0, 0), [[17]])]
def qX11_clocks_15 : List mO := [(.iconst (-1), 1, ((-1), 0), []),
  (.ireturn, 1, (0, 0), [])]
def qX11_clocks_17 : List mO := [(.aload_n 0, 1, (0, 0), []),
  (.getfield 35, 3, (0, 0), [[4, 2095, 0, 1], [11]]),
  (.aload_n 0, 1, (0, 0), []),
  (.getfield 10, 3, (0, 0), [[0, 2091, 0, 1], [11]]),
  (.getfield 140, 3, (0, 0), [[7, 1091, 0, 0], [9]]),
  (.invokevirtual 245, 3, (0, 0), [[1, 3176, 0], [0, 1, 3178, 3177]])]
def qX11_clocks_31 : List mO := [(.aload_n 0, 1, (0, 0), []),
  (.getfield 35, 3, (0, 0), [[4, 2095, 0, 1], [11]]),
  (.iload_n 1, 1, (0, 0), []),
  (.iload_n 2, 1, (0, 0), []),
  (.invokevirtual 249, 3, (0, 0), [[2, 4062, 0], [0, 4, 4064, 4063]])]
def qX11_clocks_40 : List mO := [(.istore_n 3, 1, (0, 0), []),
  (.iload_n 3, 1, (0, 0), []),
  (.ifCond .ge 8, 3, (0, 0), [[50]]),
  (.bipush (-3), 2, ((-3), 0), []),
  (.goto 4, 3, (0, 0), [[51]])]
def qX11_clocks_50 : List mO := [(.iload_n 3, 1, (0, 0), [])]
def qX11_clocks_51 : List mO := [(.ireturn, 1, (0, 0), [])]
def pX11_clocks : List (Nat × List mO) := [(0, qX11_clocks_0), (5, qX11_clocks_5), (12, qX11_clocks_12), (15, qX11_clocks_15), (17, qX11_clocks_17), (31, qX11_clocks_31), (40, qX11_clocks_40), (50, qX11_clocks_50), (51, qX11_clocks_51)]
def qX11_fewest_0 : List mO := [(.iload_n 1, 1, (0, 0), []),
  (.invokestatic 229, 3, (0, 0), [[1, 117, 4035, 4036, 0]])]
def qX11_fewest_4 : List mO := [(.ifCond .eq 10, 3, (0, 0), [[14]]),
  (.iload_n 2, 1, (0, 0), []),
  (.invokestatic 242, 3, (0, 0), [[1, 115, 3169, 3170, 0]])]
def qX11_fewest_11 : List mO := [(.ifCond .ne 5, 3, (0, 0), [[16]])]
def qX11_fewest_14 : List mO := [(.iconst (-1), 1, ((-1), 0), []),
  (.ireturn, 1, (0, 0), [])]
def qX11_fewest_16 : List mO := [(.aload_n 0, 1, (0, 0), []),
  (.getfield 35, 3, (0, 0), [[4, 2095, 0, 1], [11]]),
  (.aload_n 0, 1, (0, 0), []),
  (.getfield 10, 3, (0, 0), [[0, 2091, 0, 1], [11]]),
  (.getfield 140, 3, (0, 0), [[7, 1091, 0, 0], [9]]),
  (.invokevirtual 245, 3, (0, 0), [[1, 3176, 0], [0, 1, 3178, 3177]])]
def qX11_fewest_30 : List mO := [(.bipush (-3), 2, ((-3), 0), []),
  (.istore_n 3, 1, (0, 0), []),
  (.bipush 10, 2, (10, 0), []),
  (.istore 4, 2, (0, 0), []),
  (.iconst 1, 1, (1, 0), []),
  (.istore 5, 2, (0, 0), [])]
def qX11_fewest_40 : List mO := [(.aload_n 0, 1, (0, 0), []),
  (.iload 5, 2, (0, 0), []),
  (.invokevirtual 239, 3, (0, 0), [[1, 4058, 0], [11, 119, 35, 4060]])]
def qX11_fewest_46 : List mO := [(.ifCond .eq 60, 3, (0, 0), [[106]]),
  (.iload 5, 2, (0, 0), []),
  (.sipush 512, 3, (512, 0), []),
  (.if_icmp .ge 52, 3, (0, 0), [[106]]),
  (.aload_n 0, 1, (0, 0), []),
  (.getfield 35, 3, (0, 0), [[4, 2095, 0, 1], [11]]),
  (.iload 5, 2, (0, 0), []),
  (.iload_n 2, 1, (0, 0), []),
  (.invokevirtual 249, 3, (0, 0), [[2, 4062, 0], [0, 4, 4064, 4063]])]
def qX11_fewest_67 : List mO := [(.istore 6, 2, (0, 0), []),
  (.iload 6, 2, (0, 0), []),
  (.ifCond .lt 29, 3, (0, 0), [[100]]),
  (.iload 6, 2, (0, 0), []),
  (.iload_n 1, 1, (0, 0), []),
  (.if_icmp .gt 23, 3, (0, 0), [[100]]),
  (.iload 5, 2, (0, 0), []),
  (.invokestatic 252, 3, (0, 0), [[1, 266, 4072, 4073, 0]])]
def qX11_fewest_85 : List mO := [(.iload 4, 2, (0, 0), []),
  (.if_icmp .ge 13, 3, (0, 0), [[100]]),
  (.iload 5, 2, (0, 0), []),
  (.istore_n 3, 1, (0, 0), []),
  (.iload 5, 2, (0, 0), []),
  (.invokestatic 252, 3, (0, 0), [[1, 266, 4072, 4073, 0]])]
def qX11_fewest_98 : List mO := [(.istore 4, 2, (0, 0), [])]
def qX11_fewest_100 : List mO := [(.iinc 5 1, 3, (1, 0), []),
  (.goto (-63), 3, (0, 0), [[40]])]
def qX11_fewest_106 : List mO := [(.iload_n 3, 1, (0, 0), []),
  (.ireturn, 1, (0, 0), [])]
def pX11_fewest : List (Nat × List mO) := [(0, qX11_fewest_0), (4, qX11_fewest_4), (11, qX11_fewest_11), (14, qX11_fewest_14), (16, qX11_fewest_16), (30, qX11_fewest_30), (40, qX11_fewest_40), (46, qX11_fewest_46), (67, qX11_fewest_67), (85, qX11_fewest_85), (98, qX11_fewest_98), (100, qX11_fewest_100), (106, qX11_fewest_106)]
def qX11_crossed_0 : List mO := [(.iload_n 1, 1, (0, 0), []),
  (.invokestatic 242, 3, (0, 0), [[1, 115, 3169, 3170, 0]])]
def qX11_crossed_4 : List mO := [(.ifCond .eq 10, 3, (0, 0), [[14]]),
  (.iload_n 2, 1, (0, 0), []),
  (.invokestatic 242, 3, (0, 0), [[1, 115, 3169, 3170, 0]])]
def qX11_crossed_11 : List mO := [(.ifCond .ne 5, 3, (0, 0), [[16]])]
def qX11_crossed_14 : List mO := [(.iconst (-1), 1, ((-1), 0), []),
  (.ireturn, 1, (0, 0), [])]
def qX11_crossed_16 : List mO := [(.aload_n 0, 1, (0, 0), []),
  (.getfield 10, 3, (0, 0), [[0, 2091, 0, 1], [11]]),
  (.getfield 116, 3, (0, 0), [[0, 1074, 0, 0], [9]]),
  (.ifCond .ne 6, 3, (0, 0), [[29]]),
  (.bipush (-3), 2, ((-3), 0), []),
  (.ireturn, 1, (0, 0), [])]
def qX11_crossed_29 : List mO := [(.aload_n 0, 1, (0, 0), []),
  (.iconst 0, 1, (0, 0), []),
  (.iload_n 1, 1, (0, 0), []),
  (.invokevirtual 218, 3, (0, 0), [[2, 3239, 0], [11, 120, 32, 4001]])]
def qX11_crossed_35 : List mO := [(.aload_n 0, 1, (0, 0), []),
  (.getfield 39, 3, (0, 0), [[5, 2096, 0, 1], [11]]),
  (.aload_n 0, 1, (0, 0), []),
  (.getfield 10, 3, (0, 0), [[0, 2091, 0, 1], [11]]),
  (.getfield 140, 3, (0, 0), [[7, 1091, 0, 0], [9]]),
  (.invokevirtual 245, 3, (0, 0), [[1, 3176, 0], [0, 1, 3178, 3177]])]
def qX11_crossed_49 : List mO := [(.aload_n 0, 1, (0, 0), []),
  (.getfield 39, 3, (0, 0), [[5, 2096, 0, 1], [11]]),
  (.aload_n 0, 1, (0, 0), []),
  (.getfield 10, 3, (0, 0), [[0, 2091, 0, 1], [11]]),
  (.getfield 116, 3, (0, 0), [[0, 1074, 0, 0], [9]]),
  (.iconst 1, 1, (1, 0), []),
  (.isub, 1, (0, 0), []),
  (.iload_n 2, 1, (0, 0), []),
  (.invokevirtual 257, 3, (0, 0), [[2, 4003, 0], [0, 2, 4005, 4004]])]
def qX11_crossed_66 : List mO := [(.iconst 0, 1, (0, 0), []),
  (.istore_n 3, 1, (0, 0), [])]
def qX11_crossed_68 : List mO := [(.iload_n 3, 1, (0, 0), []),
  (.aload_n 0, 1, (0, 0), []),
  (.getfield 10, 3, (0, 0), [[0, 2091, 0, 1], [11]]),
  (.getfield 116, 3, (0, 0), [[0, 1074, 0, 0], [9]]),
  (.if_icmp .ge 54, 3, (0, 0), [[130]]),
  (.aload_n 0, 1, (0, 0), []),
  (.getfield 35, 3, (0, 0), [[4, 2095, 0, 1], [11]]),
  (.iload_n 3, 1, (0, 0), []),
  (.invokevirtual 198, 3, (0, 0), [[1, 3212, 0], [0, 10, 3206, 3205]])]
def qX11_crossed_87 : List mO := [(.ifCond .eq 37, 3, (0, 0), [[124]]),
  (.aload_n 0, 1, (0, 0), []),
  (.getfield 39, 3, (0, 0), [[5, 2096, 0, 1], [11]]),
  (.iload_n 3, 1, (0, 0), []),
  (.invokevirtual 198, 3, (0, 0), [[1, 3212, 0], [0, 10, 3206, 3205]])]
def qX11_crossed_98 : List mO := [(.ifCond .eq 26, 3, (0, 0), [[124]]),
  (.aload_n 0, 1, (0, 0), []),
  (.getfield 39, 3, (0, 0), [[5, 2096, 0, 1], [11]]),
  (.getfield 202, 3, (0, 0), [[6, 1203, 0, 1], [0]]),
  (.iload_n 3, 1, (0, 0), []),
  (.iaload, 1, (0, 0), []),
  (.aload_n 0, 1, (0, 0), []),
  (.getfield 35, 3, (0, 0), [[4, 2095, 0, 1], [11]]),
  (.getfield 202, 3, (0, 0), [[6, 1203, 0, 1], [0]]),
  (.iload_n 3, 1, (0, 0), []),
  (.iaload, 1, (0, 0), []),
  (.if_icmp .gt 5, 3, (0, 0), [[124]]),
  (.iload_n 3, 1, (0, 0), []),
  (.ireturn, 1, (0, 0), [])]
def qX11_crossed_124 : List mO := [(.iinc 3 1, 3, (1, 0), []),
  (.goto (-59), 3, (0, 0), [[68]])]
def qX11_crossed_130 : List mO := [(.bipush (-3), 2, ((-3), 0), []),
  (.ireturn, 1, (0, 0), [])]
def pX11_crossed : List (Nat × List mO) := [(0, qX11_crossed_0), (4, qX11_crossed_4), (11, qX11_crossed_11), (14, qX11_crossed_14), (16, qX11_crossed_16), (29, qX11_crossed_29), (35, qX11_crossed_35), (49, qX11_crossed_49), (66, qX11_crossed_66), (68, qX11_crossed_68), (87, qX11_crossed_87), (98, qX11_crossed_98), (124, qX11_crossed_124), (130, qX11_crossed_130)]
def qX11_noon_0 : List mO := [(.aload_n 0, 1, (0, 0), []),
  (.getfield 10, 3, (0, 0), [[0, 2091, 0, 1], [11]]),
  (.iload_n 1, 1, (0, 0), []),
  (.invokevirtual 137, 3, (0, 0), [[1, 2160, 0], [9, 68, 2162, 2161]])]
def qX11_noon_8 : List mO := [(.ifCond .eq 10, 3, (0, 0), [[18]]),
  (.iload_n 2, 1, (0, 0), []),
  (.invokestatic 242, 3, (0, 0), [[1, 115, 3169, 3170, 0]])]
def qX11_noon_15 : List mO := [(.ifCond .ne 5, 3, (0, 0), [[20]])]
def qX11_noon_18 : List mO := [(.iconst (-1), 1, ((-1), 0), []),
  (.ireturn, 1, (0, 0), [])]
def qX11_noon_20 : List mO := [(.aload_n 0, 1, (0, 0), []),
  (.iconst 0, 1, (0, 0), []),
  (.iload_n 2, 1, (0, 0), []),
  (.invokevirtual 218, 3, (0, 0), [[2, 3239, 0], [11, 120, 32, 4001]])]
def qX11_noon_26 : List mO := [(.aload_n 0, 1, (0, 0), []),
  (.getfield 35, 3, (0, 0), [[4, 2095, 0, 1], [11]]),
  (.iload_n 1, 1, (0, 0), []),
  (.invokevirtual 198, 3, (0, 0), [[1, 3212, 0], [0, 10, 3206, 3205]])]
def qX11_noon_34 : List mO := [(.ifCond .eq 18, 3, (0, 0), [[52]]),
  (.aload_n 0, 1, (0, 0), []),
  (.getfield 35, 3, (0, 0), [[4, 2095, 0, 1], [11]]),
  (.iload_n 1, 1, (0, 0), []),
  (.invokevirtual 260, 3, (0, 0), [[1, 4086, 0], [0, 15, 4088, 4087]])]
def qX11_noon_45 : List mO := [(.sipush 10000, 3, (10000, 0), []),
  (.iadd, 1, (0, 0), []),
  (.goto 5, 3, (0, 0), [[54]])]
def qX11_noon_52 : List mO := [(.bipush (-3), 2, ((-3), 0), [])]
def qX11_noon_54 : List mO := [(.ireturn, 1, (0, 0), [])]
def pX11_noon : List (Nat × List mO) := [(0, qX11_noon_0), (8, qX11_noon_8), (15, qX11_noon_15), (18, qX11_noon_18), (20, qX11_noon_20), (26, qX11_noon_26), (34, qX11_noon_34), (45, qX11_noon_45), (52, qX11_noon_52), (54, qX11_noon_54)]
def qX11_firstNoon_0 : List mO := [(.iload_n 1, 1, (0, 0), []),
  (.invokestatic 242, 3, (0, 0), [[1, 115, 3169, 3170, 0]])]
def qX11_firstNoon_4 : List mO := [(.ifCond .ne 5, 3, (0, 0), [[9]]),
  (.iconst (-1), 1, ((-1), 0), []),
  (.ireturn, 1, (0, 0), [])]
def qX11_firstNoon_9 : List mO := [(.aload_n 0, 1, (0, 0), []),
  (.getfield 10, 3, (0, 0), [[0, 2091, 0, 1], [11]]),
  (.getfield 116, 3, (0, 0), [[0, 1074, 0, 0], [9]]),
  (.ifCond .ne 6, 3, (0, 0), [[22]]),
  (.bipush (-3), 2, ((-3), 0), []),
  (.ireturn, 1, (0, 0), [])]
def qX11_firstNoon_22 : List mO := [(.aload_n 0, 1, (0, 0), []),
  (.iconst 0, 1, (0, 0), []),
  (.iload_n 1, 1, (0, 0), []),
  (.invokevirtual 218, 3, (0, 0), [[2, 3239, 0], [11, 120, 32, 4001]])]
def qX11_firstNoon_28 : List mO := [(.iconst 0, 1, (0, 0), []),
  (.istore_n 2, 1, (0, 0), []),
  (.iconst 1, 1, (1, 0), []),
  (.istore_n 3, 1, (0, 0), [])]
def qX11_firstNoon_32 : List mO := [(.iload_n 3, 1, (0, 0), []),
  (.aload_n 0, 1, (0, 0), []),
  (.getfield 10, 3, (0, 0), [[0, 2091, 0, 1], [11]]),
  (.getfield 116, 3, (0, 0), [[0, 1074, 0, 0], [9]]),
  (.if_icmp .ge 41, 3, (0, 0), [[81]]),
  (.aload_n 0, 1, (0, 0), []),
  (.getfield 35, 3, (0, 0), [[4, 2095, 0, 1], [11]]),
  (.iload_n 3, 1, (0, 0), []),
  (.invokevirtual 198, 3, (0, 0), [[1, 3212, 0], [0, 10, 3206, 3205]])]
def qX11_firstNoon_51 : List mO := [(.ifCond .eq 24, 3, (0, 0), [[75]]),
  (.aload_n 0, 1, (0, 0), []),
  (.getfield 35, 3, (0, 0), [[4, 2095, 0, 1], [11]]),
  (.iload_n 3, 1, (0, 0), []),
  (.invokevirtual 260, 3, (0, 0), [[1, 4086, 0], [0, 15, 4088, 4087]])]
def qX11_firstNoon_62 : List mO := [(.aload_n 0, 1, (0, 0), []),
  (.getfield 35, 3, (0, 0), [[4, 2095, 0, 1], [11]]),
  (.iload_n 2, 1, (0, 0), []),
  (.invokevirtual 260, 3, (0, 0), [[1, 4086, 0], [0, 15, 4088, 4087]])]
def qX11_firstNoon_70 : List mO := [(.if_icmp .ge 5, 3, (0, 0), [[75]]),
  (.iload_n 3, 1, (0, 0), []),
  (.istore_n 2, 1, (0, 0), [])]
def qX11_firstNoon_75 : List mO := [(.iinc 3 1, 3, (1, 0), []),
  (.goto (-46), 3, (0, 0), [[32]])]
def qX11_firstNoon_81 : List mO := [(.iload_n 2, 1, (0, 0), []),
  (.ireturn, 1, (0, 0), [])]
def pX11_firstNoon : List (Nat × List mO) := [(0, qX11_firstNoon_0), (4, qX11_firstNoon_4), (9, qX11_firstNoon_9), (22, qX11_firstNoon_22), (28, qX11_firstNoon_28), (32, qX11_firstNoon_32), (51, qX11_firstNoon_51), (62, qX11_firstNoon_62), (70, qX11_firstNoon_70), (75, qX11_firstNoon_75), (81, qX11_firstNoon_81)]
def qX11_waits_0 : List mO := [(.aload_n 0, 1, (0, 0), []),
  (.getfield 10, 3, (0, 0), [[0, 2091, 0, 1], [11]]),
  (.iload_n 1, 1, (0, 0), []),
  (.invokevirtual 137, 3, (0, 0), [[1, 2160, 0], [9, 68, 2162, 2161]])]
def qX11_waits_8 : List mO := [(.ifCond .eq 26, 3, (0, 0), [[34]]),
  (.aload_n 0, 1, (0, 0), []),
  (.getfield 10, 3, (0, 0), [[0, 2091, 0, 1], [11]]),
  (.iload_n 2, 1, (0, 0), []),
  (.invokevirtual 137, 3, (0, 0), [[1, 2160, 0], [9, 68, 2162, 2161]])]
def qX11_waits_19 : List mO := [(.ifCond .eq 15, 3, (0, 0), [[34]]),
  (.iload_n 1, 1, (0, 0), []),
  (.iload_n 2, 1, (0, 0), []),
  (.if_icmp .eq 10, 3, (0, 0), [[34]]),
  (.iload_n 3, 1, (0, 0), []),
  (.invokestatic 242, 3, (0, 0), [[1, 115, 3169, 3170, 0]])]
def qX11_waits_31 : List mO := [(.ifCond .ne 5, 3, (0, 0), [[36]])]
def qX11_waits_34 : List mO := [(.iconst (-1), 1, ((-1), 0), []),
  (.ireturn, 1, (0, 0), [])]
def qX11_waits_36 : List mO := [(.aload_n 0, 1, (0, 0), []),
  (.iconst 0, 1, (0, 0), []),
  (.iload_n 3, 1, (0, 0), []),
  (.invokevirtual 218, 3, (0, 0), [[2, 3239, 0], [11, 120, 32, 4001]])]
def qX11_waits_42 : List mO := [(.aload_n 0, 1, (0, 0), []),
  (.getfield 35, 3, (0, 0), [[4, 2095, 0, 1], [11]]),
  (.iload_n 1, 1, (0, 0), []),
  (.invokevirtual 198, 3, (0, 0), [[1, 3212, 0], [0, 10, 3206, 3205]])]
def qX11_waits_50 : List mO := [(.ifCond .eq 14, 3, (0, 0), [[64]]),
  (.aload_n 0, 1, (0, 0), []),
  (.getfield 35, 3, (0, 0), [[4, 2095, 0, 1], [11]]),
  (.iload_n 2, 1, (0, 0), []),
  (.invokevirtual 198, 3, (0, 0), [[1, 3212, 0], [0, 10, 3206, 3205]])]
def qX11_waits_61 : List mO := [(.ifCond .ne 6, 3, (0, 0), [[67]])]
def qX11_waits_64 : List mO := [(.bipush (-3), 2, ((-3), 0), []),
  (.ireturn, 1, (0, 0), [])]
def qX11_waits_67 : List mO := [(.iconst 0, 1, (0, 0), []),
  (.istore 4, 2, (0, 0), []),
  (.iload_n 1, 1, (0, 0), []),
  (.iload_n 2, 1, (0, 0), []),
  (.invokestatic 263, 3, (0, 0), [[2, 996, 4098, 4099, 1020, 4100]]),
  (.iconst 1, 1, (1, 0), []),
  (.iadd, 1, (0, 0), []),
  (.istore 5, 2, (0, 0), [])]
def qX11_waits_79 : List mO := [(.iload 5, 2, (0, 0), []),
  (.iload_n 1, 1, (0, 0), []),
  (.iload_n 2, 1, (0, 0), []),
  (.invokestatic 268, 3, (0, 0), [[2, 995, 4051, 4052, 1020, 4053]]),
  (.if_icmp .gt 24, 3, (0, 0), [[110]]),
  (.iload 4, 2, (0, 0), []),
  (.aload_n 0, 1, (0, 0), []),
  (.getfield 10, 3, (0, 0), [[0, 2091, 0, 1], [11]]),
  (.getfield 128, 3, (0, 0), [[4, 1084, 0, 1], [9]]),
  (.iload 5, 2, (0, 0), []),
  (.iaload, 1, (0, 0), []),
  (.iadd, 1, (0, 0), []),
  (.istore 4, 2, (0, 0), []),
  (.iinc 5 1, 3, (1, 0), []),
  (.goto (-28), 3, (0, 0), [[79]])]
def qX11_waits_110 : List mO := [(.aload_n 0, 1, (0, 0), []),
  (.getfield 35, 3, (0, 0), [[4, 2095, 0, 1], [11]]),
  (.iload_n 2, 1, (0, 0), []),
  (.invokevirtual 260, 3, (0, 0), [[1, 4086, 0], [0, 15, 4088, 4087]])]
def qX11_waits_118 : List mO := [(.aload_n 0, 1, (0, 0), []),
  (.getfield 35, 3, (0, 0), [[4, 2095, 0, 1], [11]]),
  (.iload_n 1, 1, (0, 0), []),
  (.invokevirtual 260, 3, (0, 0), [[1, 4086, 0], [0, 15, 4088, 4087]])]
def qX11_waits_126 : List mO := [(.bipush 20, 2, (20, 0), []),
  (.iload 4, 2, (0, 0), []),
  (.imul, 1, (0, 0), []),
  (.iadd, 1, (0, 0), []),
  (.isub, 1, (0, 0), []),
  (.sipush 10000, 3, (10000, 0), []),
  (.iadd, 1, (0, 0), []),
  (.ireturn, 1, (0, 0), [])]
def pX11_waits : List (Nat × List mO) := [(0, qX11_waits_0), (8, qX11_waits_8), (19, qX11_waits_19), (31, qX11_waits_31), (34, qX11_waits_34), (36, qX11_waits_36), (42, qX11_waits_42), (50, qX11_waits_50), (61, qX11_waits_61), (64, qX11_waits_64), (67, qX11_waits_67), (79, qX11_waits_79), (110, qX11_waits_110), (118, qX11_waits_118), (126, qX11_waits_126)]
def qX11_mender_0 : List mO := [(.aload_n 0, 1, (0, 0), []),
  (.iload_n 1, 1, (0, 0), []),
  (.iload_n 2, 1, (0, 0), []),
  (.invokevirtual 191, 3, (0, 0), [[2, 3165, 0], [11, 118, 25, 3167]])]
def qX11_mender_6 : List mO := [(.ifCond .ne 5, 3, (0, 0), [[11]]),
  (.iconst (-1), 1, ((-1), 0), []),
  (.ireturn, 1, (0, 0), [])]
def qX11_mender_11 : List mO := [(.aload_n 0, 1, (0, 0), []),
  (.iload_n 1, 1, (0, 0), []),
  (.iload_n 2, 1, (0, 0), []),
  (.invokevirtual 218, 3, (0, 0), [[2, 3239, 0], [11, 120, 32, 4001]])]
def qX11_mender_17 : List mO := [(.aload_n 0, 1, (0, 0), []),
  (.getfield 35, 3, (0, 0), [[4, 2095, 0, 1], [11]]),
  (.invokevirtual 203, 3, (0, 0), [[0, 3213, 0], [0, 11, 3215, 3214]])]
def qX11_mender_24 : List mO := [(.istore_n 3, 1, (0, 0), []),
  (.aload_n 0, 1, (0, 0), []),
  (.getfield 35, 3, (0, 0), [[4, 2095, 0, 1], [11]]),
  (.invokevirtual 271, 3, (0, 0), [[0, 4105, 0], [0, 14, 4107, 4106]])]
def qX11_mender_32 : List mO := [(.istore 4, 2, (0, 0), []),
  (.bipush (-3), 2, ((-3), 0), []),
  (.istore 5, 2, (0, 0), []),
  (.iconst 0, 1, (0, 0), []),
  (.istore 6, 2, (0, 0), [])]
def qX11_mender_41 : List mO := [(.iload 6, 2, (0, 0), []),
  (.aload_n 0, 1, (0, 0), []),
  (.getfield 10, 3, (0, 0), [[0, 2091, 0, 1], [11]]),
  (.getfield 116, 3, (0, 0), [[0, 1074, 0, 0], [9]]),
  (.if_icmp .ge 86, 3, (0, 0), [[136]]),
  (.aload_n 0, 1, (0, 0), []),
  (.getfield 10, 3, (0, 0), [[0, 2091, 0, 1], [11]]),
  (.getfield 119, 3, (0, 0), [[1, 1076, 0, 1], [9]]),
  (.iload 6, 2, (0, 0), []),
  (.iaload, 1, (0, 0), []),
  (.istore 7, 2, (0, 0), []),
  (.aload_n 0, 1, (0, 0), []),
  (.getfield 10, 3, (0, 0), [[0, 2091, 0, 1], [11]]),
  (.getfield 119, 3, (0, 0), [[1, 1076, 0, 1], [9]]),
  (.iload 6, 2, (0, 0), []),
  (.iconst 4, 1, (4, 0), []),
  (.iastore, 1, (0, 0), []),
  (.aload_n 0, 1, (0, 0), []),
  (.iload_n 1, 1, (0, 0), []),
  (.iload_n 2, 1, (0, 0), []),
  (.invokevirtual 218, 3, (0, 0), [[2, 3239, 0], [11, 120, 32, 4001]])]
def qX11_mender_82 : List mO := [(.aload_n 0, 1, (0, 0), []),
  (.getfield 10, 3, (0, 0), [[0, 2091, 0, 1], [11]]),
  (.getfield 119, 3, (0, 0), [[1, 1076, 0, 1], [9]]),
  (.iload 6, 2, (0, 0), []),
  (.iload 7, 2, (0, 0), []),
  (.iastore, 1, (0, 0), []),
  (.aload_n 0, 1, (0, 0), []),
  (.getfield 35, 3, (0, 0), [[4, 2095, 0, 1], [11]]),
  (.invokevirtual 203, 3, (0, 0), [[0, 3213, 0], [0, 11, 3215, 3214]])]
def qX11_mender_101 : List mO := [(.iload_n 3, 1, (0, 0), []),
  (.if_icmp .lt 28, 3, (0, 0), [[130]]),
  (.aload_n 0, 1, (0, 0), []),
  (.getfield 35, 3, (0, 0), [[4, 2095, 0, 1], [11]]),
  (.invokevirtual 271, 3, (0, 0), [[0, 4105, 0], [0, 14, 4107, 4106]])]
def qX11_mender_112 : List mO := [(.iload 4, 2, (0, 0), []),
  (.if_icmp .ge 16, 3, (0, 0), [[130]]),
  (.iload 6, 2, (0, 0), []),
  (.istore 5, 2, (0, 0), []),
  (.aload_n 0, 1, (0, 0), []),
  (.getfield 35, 3, (0, 0), [[4, 2095, 0, 1], [11]]),
  (.invokevirtual 271, 3, (0, 0), [[0, 4105, 0], [0, 14, 4107, 4106]])]
def qX11_mender_128 : List mO := [(.istore 4, 2, (0, 0), [])]
def qX11_mender_130 : List mO := [(.iinc 6 1, 3, (1, 0), []),
  (.goto (-92), 3, (0, 0), [[41]])]
def qX11_mender_136 : List mO := [(.iload 5, 2, (0, 0), []),
  (.ireturn, 1, (0, 0), [])]
def pX11_mender : List (Nat × List mO) := [(0, qX11_mender_0), (6, qX11_mender_6), (11, qX11_mender_11), (17, qX11_mender_17), (24, qX11_mender_24), (32, qX11_mender_32), (41, qX11_mender_41), (82, qX11_mender_82), (101, qX11_mender_101), (112, qX11_mender_112), (128, qX11_mender_128), (130, qX11_mender_130), (136, qX11_mender_136)]
def qX11_bestDay_0 : List mO := [(.aload_n 0, 1, (0, 0), []),
  (.getfield 10, 3, (0, 0), [[0, 2091, 0, 1], [11]]),
  (.iload_n 1, 1, (0, 0), []),
  (.invokevirtual 137, 3, (0, 0), [[1, 2160, 0], [9, 68, 2162, 2161]])]
def qX11_bestDay_8 : List mO := [(.ifCond .eq 12, 3, (0, 0), [[20]]),
  (.aload_n 0, 1, (0, 0), []),
  (.iload_n 2, 1, (0, 0), []),
  (.iload_n 3, 1, (0, 0), []),
  (.invokevirtual 191, 3, (0, 0), [[2, 3165, 0], [11, 118, 25, 3167]])]
def qX11_bestDay_17 : List mO := [(.ifCond .ne 5, 3, (0, 0), [[22]])]
def qX11_bestDay_20 : List mO := [(.iconst (-1), 1, ((-1), 0), []),
  (.ireturn, 1, (0, 0), [])]
def qX11_bestDay_22 : List mO := [(.bipush (-3), 2, ((-3), 0), []),
  (.istore 4, 2, (0, 0), []),
  (.iconst 0, 1, (0, 0), []),
  (.istore 5, 2, (0, 0), []),
  (.iconst 0, 1, (0, 0), []),
  (.istore 6, 2, (0, 0), [])]
def qX11_bestDay_32 : List mO := [(.iload 6, 2, (0, 0), []),
  (.bipush 7, 2, (7, 0), []),
  (.if_icmp .ge 72, 3, (0, 0), [[108]]),
  (.aload_n 0, 1, (0, 0), []),
  (.getfield 35, 3, (0, 0), [[4, 2095, 0, 1], [11]]),
  (.iload 6, 2, (0, 0), []),
  (.invokevirtual 245, 3, (0, 0), [[1, 3176, 0], [0, 1, 3178, 3177]])]
def qX11_bestDay_48 : List mO := [(.aload_n 0, 1, (0, 0), []),
  (.getfield 35, 3, (0, 0), [[4, 2095, 0, 1], [11]]),
  (.iload_n 2, 1, (0, 0), []),
  (.iload_n 3, 1, (0, 0), []),
  (.invokevirtual 257, 3, (0, 0), [[2, 4003, 0], [0, 2, 4005, 4004]])]
def qX11_bestDay_57 : List mO := [(.aload_n 0, 1, (0, 0), []),
  (.getfield 35, 3, (0, 0), [[4, 2095, 0, 1], [11]]),
  (.iload_n 1, 1, (0, 0), []),
  (.invokevirtual 198, 3, (0, 0), [[1, 3212, 0], [0, 10, 3206, 3205]])]
def qX11_bestDay_65 : List mO := [(.ifCond .eq 37, 3, (0, 0), [[102]]),
  (.iload 4, 2, (0, 0), []),
  (.bipush (-3), 2, ((-3), 0), []),
  (.if_icmp .eq 16, 3, (0, 0), [[88]]),
  (.aload_n 0, 1, (0, 0), []),
  (.getfield 35, 3, (0, 0), [[4, 2095, 0, 1], [11]]),
  (.iload_n 1, 1, (0, 0), []),
  (.invokevirtual 226, 3, (0, 0), [[1, 4023, 0], [0, 13, 4025, 4024]])]
def qX11_bestDay_83 : List mO := [(.iload 5, 2, (0, 0), []),
  (.if_icmp .ge 17, 3, (0, 0), [[102]])]
def qX11_bestDay_88 : List mO := [(.iload 6, 2, (0, 0), []),
  (.istore 4, 2, (0, 0), []),
  (.aload_n 0, 1, (0, 0), []),
  (.getfield 35, 3, (0, 0), [[4, 2095, 0, 1], [11]]),
  (.iload_n 1, 1, (0, 0), []),
  (.invokevirtual 226, 3, (0, 0), [[1, 4023, 0], [0, 13, 4025, 4024]])]
def qX11_bestDay_100 : List mO := [(.istore 5, 2, (0, 0), [])]
def qX11_bestDay_102 : List mO := [(.iinc 6 1, 3, (1, 0), []),
  (.goto (-73), 3, (0, 0), [[32]])]
def qX11_bestDay_108 : List mO := [(.iload 4, 2, (0, 0), []),
  (.ireturn, 1, (0, 0), [])]
def pX11_bestDay : List (Nat × List mO) := [(0, qX11_bestDay_0), (8, qX11_bestDay_8), (17, qX11_bestDay_17), (20, qX11_bestDay_20), (22, qX11_bestDay_22), (32, qX11_bestDay_32), (48, qX11_bestDay_48), (57, qX11_bestDay_57), (65, qX11_bestDay_65), (83, qX11_bestDay_83), (88, qX11_bestDay_88), (100, qX11_bestDay_100), (102, qX11_bestDay_102), (108, qX11_bestDay_108)]
def qX11_latest_0 : List mO := [(.aload_n 0, 1, (0, 0), []),
  (.getfield 10, 3, (0, 0), [[0, 2091, 0, 1], [11]]),
  (.iload_n 1, 1, (0, 0), []),
  (.invokevirtual 137, 3, (0, 0), [[1, 2160, 0], [9, 68, 2162, 2161]])]
def qX11_latest_8 : List mO := [(.ifCond .eq 21, 3, (0, 0), [[29]]),
  (.aload_n 0, 1, (0, 0), []),
  (.getfield 10, 3, (0, 0), [[0, 2091, 0, 1], [11]]),
  (.iload_n 2, 1, (0, 0), []),
  (.invokevirtual 137, 3, (0, 0), [[1, 2160, 0], [9, 68, 2162, 2161]])]
def qX11_latest_19 : List mO := [(.ifCond .eq 10, 3, (0, 0), [[29]]),
  (.iload_n 3, 1, (0, 0), []),
  (.invokestatic 206, 3, (0, 0), [[1, 116, 3221, 3222, 0]])]
def qX11_latest_26 : List mO := [(.ifCond .ne 5, 3, (0, 0), [[31]])]
def qX11_latest_29 : List mO := [(.iconst (-1), 1, ((-1), 0), []),
  (.ireturn, 1, (0, 0), [])]
def qX11_latest_31 : List mO := [(.aload_n 0, 1, (0, 0), []),
  (.getfield 35, 3, (0, 0), [[4, 2095, 0, 1], [11]]),
  (.aload_n 0, 1, (0, 0), []),
  (.getfield 10, 3, (0, 0), [[0, 2091, 0, 1], [11]]),
  (.getfield 140, 3, (0, 0), [[7, 1091, 0, 0], [9]]),
  (.invokevirtual 245, 3, (0, 0), [[1, 3176, 0], [0, 1, 3178, 3177]])]
def qX11_latest_45 : List mO := [(.sipush 1439, 3, (1439, 0), []),
  (.iload_n 3, 1, (0, 0), []),
  (.invokestatic 263, 3, (0, 0), [[2, 996, 4098, 4099, 1020, 4100]]),
  (.istore 4, 2, (0, 0), [])]
def qX11_latest_54 : List mO := [(.iload 4, 2, (0, 0), []),
  (.ifCond .lt 46, 3, (0, 0), [[102]]),
  (.aload_n 0, 1, (0, 0), []),
  (.getfield 35, 3, (0, 0), [[4, 2095, 0, 1], [11]]),
  (.iload_n 1, 1, (0, 0), []),
  (.iload 4, 2, (0, 0), []),
  (.invokevirtual 257, 3, (0, 0), [[2, 4003, 0], [0, 2, 4005, 4004]])]
def qX11_latest_69 : List mO := [(.aload_n 0, 1, (0, 0), []),
  (.getfield 35, 3, (0, 0), [[4, 2095, 0, 1], [11]]),
  (.iload_n 2, 1, (0, 0), []),
  (.invokevirtual 198, 3, (0, 0), [[1, 3212, 0], [0, 10, 3206, 3205]])]
def qX11_latest_77 : List mO := [(.ifCond .eq 19, 3, (0, 0), [[96]]),
  (.aload_n 0, 1, (0, 0), []),
  (.getfield 35, 3, (0, 0), [[4, 2095, 0, 1], [11]]),
  (.getfield 202, 3, (0, 0), [[6, 1203, 0, 1], [0]]),
  (.iload_n 2, 1, (0, 0), []),
  (.iaload, 1, (0, 0), []),
  (.iload_n 3, 1, (0, 0), []),
  (.if_icmp .gt 6, 3, (0, 0), [[96]]),
  (.iload 4, 2, (0, 0), []),
  (.ireturn, 1, (0, 0), [])]
def qX11_latest_96 : List mO := [(.iinc 4 (-1), 3, ((-1), 0), []),
  (.goto (-45), 3, (0, 0), [[54]])]
def qX11_latest_102 : List mO := [(.bipush (-3), 2, ((-3), 0), []),
  (.ireturn, 1, (0, 0), [])]
def pX11_latest : List (Nat × List mO) := [(0, qX11_latest_0), (8, qX11_latest_8), (19, qX11_latest_19), (26, qX11_latest_26), (29, qX11_latest_29), (31, qX11_latest_31), (45, qX11_latest_45), (54, qX11_latest_54), (69, qX11_latest_69), (77, qX11_latest_77), (96, qX11_latest_96), (102, qX11_latest_102)]
def qX11_seed_0 : List mO := [(.aload_n 0, 1, (0, 0), []),
  (.getfield 10, 3, (0, 0), [[0, 2091, 0, 1], [11]]),
  (.getfield 274, 3, (0, 0), [[9, 1095, 0, 0], [9]]),
  (.istore_n 2, 1, (0, 0), []),
  (.aload_n 0, 1, (0, 0), []),
  (.getfield 10, 3, (0, 0), [[0, 2091, 0, 1], [11]]),
  (.iload_n 1, 1, (0, 0), []),
  (.putfield 274, 3, (0, 0), [[9, 1095, 0, 0], [9]]),
  (.iload_n 2, 1, (0, 0), []),
  (.ireturn, 1, (0, 0), [])]
def pX11_seed : List (Nat × List mO) := [(0, qX11_seed_0)]
def qX11_draw_0 : List mO := [(.iload_n 1, 1, (0, 0), []),
  (.invokestatic 160, 3, (0, 0), [[1, 89, 2206, 2207, 0]])]
def qX11_draw_4 : List mO := [(.ifCond .ne 5, 3, (0, 0), [[9]]),
  (.iconst (-1), 1, ((-1), 0), []),
  (.ireturn, 1, (0, 0), [])]
def qX11_draw_9 : List mO := [(.aload_n 0, 1, (0, 0), []),
  (.getfield 10, 3, (0, 0), [[0, 2091, 0, 1], [11]]),
  (.aload_n 0, 1, (0, 0), []),
  (.getfield 10, 3, (0, 0), [[0, 2091, 0, 1], [11]]),
  (.getfield 274, 3, (0, 0), [[9, 1095, 0, 0], [9]]),
  (.invokestatic 277, 3, (0, 0), [[1, 122, 4125, 4126, 0]])]
def qX11_draw_23 : List mO := [(.putfield 274, 3, (0, 0), [[9, 1095, 0, 0], [9]]),
  (.aload_n 0, 1, (0, 0), []),
  (.getfield 10, 3, (0, 0), [[0, 2091, 0, 1], [11]]),
  (.getfield 163, 3, (0, 0), [[8, 1093, 0, 1], [9]]),
  (.iload_n 1, 1, (0, 0), []),
  (.aload_n 0, 1, (0, 0), []),
  (.getfield 10, 3, (0, 0), [[0, 2091, 0, 1], [11]]),
  (.getfield 274, 3, (0, 0), [[9, 1095, 0, 0], [9]]),
  (.invokestatic 280, 3, (0, 0), [[1, 123, 4129, 4130, 0]])]
def qX11_draw_44 : List mO := [(.iastore, 1, (0, 0), []),
  (.aload_n 0, 1, (0, 0), []),
  (.getfield 10, 3, (0, 0), [[0, 2091, 0, 1], [11]]),
  (.getfield 163, 3, (0, 0), [[8, 1093, 0, 1], [9]]),
  (.iload_n 1, 1, (0, 0), []),
  (.iaload, 1, (0, 0), []),
  (.bipush 100, 2, (100, 0), []),
  (.iadd, 1, (0, 0), []),
  (.ireturn, 1, (0, 0), [])]
def pX11_draw : List (Nat × List mO) := [(0, qX11_draw_0), (4, qX11_draw_4), (9, qX11_draw_9), (23, qX11_draw_23), (44, qX11_draw_44)]
def qX11_often_0 : List mO := [(.aload_n 0, 1, (0, 0), []),
  (.getfield 10, 3, (0, 0), [[0, 2091, 0, 1], [11]]),
  (.iload_n 1, 1, (0, 0), []),
  (.invokevirtual 137, 3, (0, 0), [[1, 2160, 0], [9, 68, 2162, 2161]])]
def qX11_often_8 : List mO := [(.ifCond .eq 30, 3, (0, 0), [[38]]),
  (.iload_n 2, 1, (0, 0), []),
  (.invokestatic 229, 3, (0, 0), [[1, 117, 4035, 4036, 0]])]
def qX11_often_15 : List mO := [(.ifCond .eq 23, 3, (0, 0), [[38]]),
  (.iload_n 3, 1, (0, 0), []),
  (.invokestatic 242, 3, (0, 0), [[1, 115, 3169, 3170, 0]])]
def qX11_often_22 : List mO := [(.ifCond .eq 16, 3, (0, 0), [[38]]),
  (.iload 4, 2, (0, 0), []),
  (.iconst 1, 1, (1, 0), []),
  (.if_icmp .lt 10, 3, (0, 0), [[38]]),
  (.iload 4, 2, (0, 0), []),
  (.bipush 60, 2, (60, 0), []),
  (.if_icmp .le 5, 3, (0, 0), [[40]])]
def qX11_often_38 : List mO := [(.iconst (-1), 1, ((-1), 0), []),
  (.ireturn, 1, (0, 0), [])]
def qX11_often_40 : List mO := [(.aload_n 0, 1, (0, 0), []),
  (.getfield 10, 3, (0, 0), [[0, 2091, 0, 1], [11]]),
  (.getfield 163, 3, (0, 0), [[8, 1093, 0, 1], [9]]),
  (.aload_n 0, 1, (0, 0), []),
  (.getfield 10, 3, (0, 0), [[0, 2091, 0, 1], [11]]),
  (.getfield 140, 3, (0, 0), [[7, 1091, 0, 0], [9]]),
  (.iaload, 1, (0, 0), []),
  (.istore 5, 2, (0, 0), []),
  (.aload_n 0, 1, (0, 0), []),
  (.getfield 10, 3, (0, 0), [[0, 2091, 0, 1], [11]]),
  (.getfield 274, 3, (0, 0), [[9, 1095, 0, 0], [9]]),
  (.istore 6, 2, (0, 0), []),
  (.iconst 0, 1, (0, 0), []),
  (.istore 7, 2, (0, 0), []),
  (.iconst 0, 1, (0, 0), []),
  (.istore 8, 2, (0, 0), [])]
def qX11_often_72 : List mO := [(.iload 8, 2, (0, 0), []),
  (.iload 4, 2, (0, 0), []),
  (.if_icmp .ge 68, 3, (0, 0), [[144]]),
  (.iload 6, 2, (0, 0), []),
  (.invokestatic 277, 3, (0, 0), [[1, 122, 4125, 4126, 0]])]
def qX11_often_84 : List mO := [(.istore 6, 2, (0, 0), []),
  (.aload_n 0, 1, (0, 0), []),
  (.getfield 10, 3, (0, 0), [[0, 2091, 0, 1], [11]]),
  (.getfield 163, 3, (0, 0), [[8, 1093, 0, 1], [9]]),
  (.aload_n 0, 1, (0, 0), []),
  (.getfield 10, 3, (0, 0), [[0, 2091, 0, 1], [11]]),
  (.getfield 140, 3, (0, 0), [[7, 1091, 0, 0], [9]]),
  (.iload 6, 2, (0, 0), []),
  (.invokestatic 280, 3, (0, 0), [[1, 123, 4129, 4130, 0]])]
def qX11_often_105 : List mO := [(.iastore, 1, (0, 0), []),
  (.aload_n 0, 1, (0, 0), []),
  (.iconst 0, 1, (0, 0), []),
  (.iload_n 3, 1, (0, 0), []),
  (.invokevirtual 218, 3, (0, 0), [[2, 3239, 0], [11, 120, 32, 4001]])]
def qX11_often_112 : List mO := [(.aload_n 0, 1, (0, 0), []),
  (.getfield 35, 3, (0, 0), [[4, 2095, 0, 1], [11]]),
  (.iload_n 1, 1, (0, 0), []),
  (.invokevirtual 198, 3, (0, 0), [[1, 3212, 0], [0, 10, 3206, 3205]])]
def qX11_often_120 : List mO := [(.ifCond .eq 18, 3, (0, 0), [[138]]),
  (.aload_n 0, 1, (0, 0), []),
  (.getfield 35, 3, (0, 0), [[4, 2095, 0, 1], [11]]),
  (.iload_n 1, 1, (0, 0), []),
  (.invokevirtual 226, 3, (0, 0), [[1, 4023, 0], [0, 13, 4025, 4024]])]
def qX11_often_131 : List mO := [(.iload_n 2, 1, (0, 0), []),
  (.if_icmp .gt 6, 3, (0, 0), [[138]]),
  (.iinc 7 1, 3, (1, 0), [])]
def qX11_often_138 : List mO := [(.iinc 8 1, 3, (1, 0), []),
  (.goto (-69), 3, (0, 0), [[72]])]
def qX11_often_144 : List mO := [(.aload_n 0, 1, (0, 0), []),
  (.getfield 10, 3, (0, 0), [[0, 2091, 0, 1], [11]]),
  (.getfield 163, 3, (0, 0), [[8, 1093, 0, 1], [9]]),
  (.aload_n 0, 1, (0, 0), []),
  (.getfield 10, 3, (0, 0), [[0, 2091, 0, 1], [11]]),
  (.getfield 140, 3, (0, 0), [[7, 1091, 0, 0], [9]]),
  (.iload 5, 2, (0, 0), []),
  (.iastore, 1, (0, 0), []),
  (.iload 7, 2, (0, 0), []),
  (.ireturn, 1, (0, 0), [])]
def pX11_often : List (Nat × List mO) := [(0, qX11_often_0), (8, qX11_often_8), (15, qX11_often_15), (22, qX11_often_22), (38, qX11_often_38), (40, qX11_often_40), (72, qX11_often_72), (84, qX11_often_84), (105, qX11_often_105), (112, qX11_often_112), (120, qX11_often_120), (131, qX11_often_131), (138, qX11_often_138), (144, qX11_often_144)]
def qX11_lost_0 : List mO := [(.aload_n 0, 1, (0, 0), []),
  (.getfield 10, 3, (0, 0), [[0, 2091, 0, 1], [11]]),
  (.iload_n 1, 1, (0, 0), []),
  (.invokevirtual 137, 3, (0, 0), [[1, 2160, 0], [9, 68, 2162, 2161]])]
def qX11_lost_8 : List mO := [(.ifCond .eq 10, 3, (0, 0), [[18]]),
  (.iload_n 2, 1, (0, 0), []),
  (.invokestatic 242, 3, (0, 0), [[1, 115, 3169, 3170, 0]])]
def qX11_lost_15 : List mO := [(.ifCond .ne 5, 3, (0, 0), [[20]])]
def qX11_lost_18 : List mO := [(.iconst (-1), 1, ((-1), 0), []),
  (.ireturn, 1, (0, 0), [])]
def qX11_lost_20 : List mO := [(.aload_n 0, 1, (0, 0), []),
  (.iconst 0, 1, (0, 0), []),
  (.iload_n 2, 1, (0, 0), []),
  (.invokevirtual 218, 3, (0, 0), [[2, 3239, 0], [11, 120, 32, 4001]])]
def qX11_lost_26 : List mO := [(.iconst 0, 1, (0, 0), []),
  (.istore_n 3, 1, (0, 0), []),
  (.iload_n 1, 1, (0, 0), []),
  (.iconst 1, 1, (1, 0), []),
  (.iadd, 1, (0, 0), []),
  (.istore 4, 2, (0, 0), [])]
def qX11_lost_33 : List mO := [(.iload 4, 2, (0, 0), []),
  (.aload_n 0, 1, (0, 0), []),
  (.getfield 10, 3, (0, 0), [[0, 2091, 0, 1], [11]]),
  (.getfield 116, 3, (0, 0), [[0, 1074, 0, 0], [9]]),
  (.if_icmp .ge 24, 3, (0, 0), [[66]]),
  (.aload_n 0, 1, (0, 0), []),
  (.getfield 35, 3, (0, 0), [[4, 2095, 0, 1], [11]]),
  (.iload 4, 2, (0, 0), []),
  (.invokevirtual 198, 3, (0, 0), [[1, 3212, 0], [0, 10, 3206, 3205]])]
def qX11_lost_54 : List mO := [(.ifCond .eq 6, 3, (0, 0), [[60]]),
  (.iinc 3 1, 3, (1, 0), [])]
def qX11_lost_60 : List mO := [(.iinc 4 1, 3, (1, 0), []),
  (.goto (-30), 3, (0, 0), [[33]])]
def qX11_lost_66 : List mO := [(.iload_n 3, 1, (0, 0), []),
  (.ireturn, 1, (0, 0), [])]
def pX11_lost : List (Nat × List mO) := [(0, qX11_lost_0), (8, qX11_lost_8), (15, qX11_lost_15), (18, qX11_lost_18), (20, qX11_lost_20), (26, qX11_lost_26), (33, qX11_lost_33), (54, qX11_lost_54), (60, qX11_lost_60), (66, qX11_lost_66)]
def qX11_isT_0 : List mO := [(.iload_n 0, 1, (0, 0), []),
  (.ifCond .lt 14, 3, (0, 0), [[15]]),
  (.iload_n 0, 1, (0, 0), []),
  (.sipush 1439, 3, (1439, 0), []),
  (.if_icmp .gt 7, 3, (0, 0), [[15]]),
  (.iconst 1, 1, (1, 0), []),
  (.goto 4, 3, (0, 0), [[16]])]
def qX11_isT_15 : List mO := [(.iconst 0, 1, (0, 0), [])]
def qX11_isT_16 : List mO := [(.ireturn, 1, (0, 0), [[1]])]
def pX11_isT : List (Nat × List mO) := [(0, qX11_isT_0), (15, qX11_isT_15), (16, qX11_isT_16)]
def qX11_isMinute_0 : List mO := [(.iload_n 0, 1, (0, 0), []),
  (.ifCond .lt 14, 3, (0, 0), [[15]]),
  (.iload_n 0, 1, (0, 0), []),
  (.sipush 9999, 3, (9999, 0), []),
  (.if_icmp .gt 7, 3, (0, 0), [[15]]),
  (.iconst 1, 1, (1, 0), []),
  (.goto 4, 3, (0, 0), [[16]])]
def qX11_isMinute_15 : List mO := [(.iconst 0, 1, (0, 0), [])]
def qX11_isMinute_16 : List mO := [(.ireturn, 1, (0, 0), [[1]])]
def pX11_isMinute : List (Nat × List mO) := [(0, qX11_isMinute_0), (15, qX11_isMinute_15), (16, qX11_isMinute_16)]
def qX11_isBound_0 : List mO := [(.iload_n 0, 1, (0, 0), []),
  (.ifCond .lt 14, 3, (0, 0), [[15]]),
  (.iload_n 0, 1, (0, 0), []),
  (.sipush 999, 3, (999, 0), []),
  (.if_icmp .gt 7, 3, (0, 0), [[15]]),
  (.iconst 1, 1, (1, 0), []),
  (.goto 4, 3, (0, 0), [[16]])]
def qX11_isBound_15 : List mO := [(.iconst 0, 1, (0, 0), [])]
def qX11_isBound_16 : List mO := [(.ireturn, 1, (0, 0), [[1]])]
def pX11_isBound : List (Nat × List mO) := [(0, qX11_isBound_0), (15, qX11_isBound_15), (16, qX11_isBound_16)]
def qX11_isCry_0 : List mO := [(.aload_n 0, 1, (0, 0), []),
  (.getfield 10, 3, (0, 0), [[0, 2091, 0, 1], [11]]),
  (.iload_n 1, 1, (0, 0), []),
  (.invokevirtual 137, 3, (0, 0), [[1, 2160, 0], [9, 68, 2162, 2161]])]
def qX11_isCry_8 : List mO := [(.ifCond .eq 14, 3, (0, 0), [[22]]),
  (.iload_n 2, 1, (0, 0), []),
  (.invokestatic 242, 3, (0, 0), [[1, 115, 3169, 3170, 0]])]
def qX11_isCry_15 : List mO := [(.ifCond .eq 7, 3, (0, 0), [[22]]),
  (.iconst 1, 1, (1, 0), []),
  (.goto 4, 3, (0, 0), [[23]])]
def qX11_isCry_22 : List mO := [(.iconst 0, 1, (0, 0), [])]
def qX11_isCry_23 : List mO := [(.ireturn, 1, (0, 0), [[1]])]
def pX11_isCry : List (Nat × List mO) := [(0, qX11_isCry_0), (8, qX11_isCry_8), (15, qX11_isCry_15), (22, qX11_isCry_22), (23, qX11_isCry_23)]
def qX11_isSet_0 : List mO := [(.iload_n 1, 1, (0, 0), []),
  (.ifCond .lt 20, 3, (0, 0), [[21]]),
  (.iload_n 1, 1, (0, 0), []),
  (.iconst 1, 1, (1, 0), []),
  (.aload_n 0, 1, (0, 0), []),
  (.getfield 10, 3, (0, 0), [[0, 2091, 0, 1], [11]]),
  (.getfield 116, 3, (0, 0), [[0, 1074, 0, 0], [9]]),
  (.ishl, 1, (0, 0), []),
  (.if_icmp .ge 7, 3, (0, 0), [[21]]),
  (.iconst 1, 1, (1, 0), []),
  (.goto 4, 3, (0, 0), [[22]])]
def qX11_isSet_21 : List mO := [(.iconst 0, 1, (0, 0), [])]
def qX11_isSet_22 : List mO := [(.ireturn, 1, (0, 0), [[1]])]
def pX11_isSet : List (Nat × List mO) := [(0, qX11_isSet_0), (21, qX11_isSet_21), (22, qX11_isSet_22)]
def qX11_cryBothWays_0 : List mO := [(.aload_n 0, 1, (0, 0), []),
  (.getfield 35, 3, (0, 0), [[4, 2095, 0, 1], [11]]),
  (.aload_n 0, 1, (0, 0), []),
  (.getfield 10, 3, (0, 0), [[0, 2091, 0, 1], [11]]),
  (.getfield 140, 3, (0, 0), [[7, 1091, 0, 0], [9]]),
  (.invokevirtual 245, 3, (0, 0), [[1, 3176, 0], [0, 1, 3178, 3177]])]
def qX11_cryBothWays_14 : List mO := [(.aload_n 0, 1, (0, 0), []),
  (.getfield 35, 3, (0, 0), [[4, 2095, 0, 1], [11]]),
  (.iload_n 1, 1, (0, 0), []),
  (.iload_n 2, 1, (0, 0), []),
  (.invokevirtual 257, 3, (0, 0), [[2, 4003, 0], [0, 2, 4005, 4004]])]
def qX11_cryBothWays_23 : List mO := [(.return_, 1, (0, 0), [])]
def pX11_cryBothWays : List (Nat × List mO) := [(0, qX11_cryBothWays_0), (14, qX11_cryBothWays_14), (23, qX11_cryBothWays_23)]
def qX11_cryOneWay_0 : List mO := [(.aload_n 0, 1, (0, 0), []),
  (.getfield 35, 3, (0, 0), [[4, 2095, 0, 1], [11]]),
  (.aload_n 0, 1, (0, 0), []),
  (.getfield 10, 3, (0, 0), [[0, 2091, 0, 1], [11]]),
  (.getfield 140, 3, (0, 0), [[7, 1091, 0, 0], [9]]),
  (.invokevirtual 245, 3, (0, 0), [[1, 3176, 0], [0, 1, 3178, 3177]])]
def qX11_cryOneWay_14 : List mO := [(.aload_n 0, 1, (0, 0), []),
  (.getfield 35, 3, (0, 0), [[4, 2095, 0, 1], [11]]),
  (.iload_n 1, 1, (0, 0), []),
  (.iload_n 2, 1, (0, 0), []),
  (.iload_n 3, 1, (0, 0), []),
  (.invokevirtual 283, 3, (0, 0), [[3, 3184, 0], [0, 3, 3186, 3185]])]
def qX11_cryOneWay_24 : List mO := [(.return_, 1, (0, 0), [])]
def pX11_cryOneWay : List (Nat × List mO) := [(0, qX11_cryOneWay_0), (14, qX11_cryOneWay_14), (24, qX11_cryOneWay_24)]
def qX11_drawnAfter_0 : List mO := [(.iload_n 0, 1, (0, 0), []),
  (.ldc_w 286, 3, (1103515245, 0), [[0, 4128]]),
  (.imul, 1, (0, 0), []),
  (.sipush 12345, 3, (12345, 0), []),
  (.iadd, 1, (0, 0), []),
  (.ireturn, 1, (0, 0), [])]
def pX11_drawnAfter : List (Nat × List mO) := [(0, qX11_drawnAfter_0)]
def qX11_windDrawn_0 : List mO := [(.iload_n 0, 1, (0, 0), []),
  (.bipush 16, 2, (16, 0), []),
  (.iushr, 1, (0, 0), []),
  (.bipush 7, 2, (7, 0), []),
  (.irem, 1, (0, 0), []),
  (.iconst 3, 1, (3, 0), []),
  (.isub, 1, (0, 0), []),
  (.ireturn, 1, (0, 0), [])]
def pX11_windDrawn : List (Nat × List mO) := [(0, qX11_windDrawn_0)]
def qX11_takeUnaddedOffs_0 : List mO := [(.iconst 0, 1, (0, 0), []),
  (.istore 4, 2, (0, 0), []),
  (.iconst 0, 1, (0, 0), []),
  (.istore 5, 2, (0, 0), [])]
def qX11_takeUnaddedOffs_6 : List mO := [(.iload 5, 2, (0, 0), []),
  (.bipush 7, 2, (7, 0), []),
  (.if_icmp .ge 89, 3, (0, 0), [[99]]),
  (.aload_n 0, 1, (0, 0), []),
  (.getfield 35, 3, (0, 0), [[4, 2095, 0, 1], [11]]),
  (.iload 5, 2, (0, 0), []),
  (.invokevirtual 245, 3, (0, 0), [[1, 3176, 0], [0, 1, 3178, 3177]])]
def qX11_takeUnaddedOffs_22 : List mO := [(.aload_n 0, 1, (0, 0), []),
  (.getfield 35, 3, (0, 0), [[4, 2095, 0, 1], [11]]),
  (.iload_n 2, 1, (0, 0), []),
  (.iload_n 3, 1, (0, 0), []),
  (.invokevirtual 257, 3, (0, 0), [[2, 4003, 0], [0, 2, 4005, 4004]])]
def qX11_takeUnaddedOffs_31 : List mO := [(.aload_n 0, 1, (0, 0), []),
  (.getfield 42, 3, (0, 0), [[6, 2097, 0, 1], [11]]),
  (.iload 5, 2, (0, 0), []),
  (.aload_n 0, 1, (0, 0), []),
  (.getfield 35, 3, (0, 0), [[4, 2095, 0, 1], [11]]),
  (.iload_n 1, 1, (0, 0), []),
  (.invokevirtual 198, 3, (0, 0), [[1, 3212, 0], [0, 10, 3206, 3205]])]
def qX11_takeUnaddedOffs_45 : List mO := [(.bastore, 1, (0, 0), []),
  (.aload_n 0, 1, (0, 0), []),
  (.getfield 46, 3, (0, 0), [[7, 2098, 0, 1], [11]]),
  (.iload 5, 2, (0, 0), []),
  (.aload_n 0, 1, (0, 0), []),
  (.getfield 35, 3, (0, 0), [[4, 2095, 0, 1], [11]]),
  (.iload_n 1, 1, (0, 0), []),
  (.invokevirtual 222, 3, (0, 0), [[1, 4015, 0], [0, 12, 4017, 4016]])]
def qX11_takeUnaddedOffs_60 : List mO := [(.aload_n 0, 1, (0, 0), []),
  (.getfield 35, 3, (0, 0), [[4, 2095, 0, 1], [11]]),
  (.getfield 287, 3, (0, 0), [[1, 1197, 0, 1], [0]]),
  (.iload_n 1, 1, (0, 0), []),
  (.iaload, 1, (0, 0), []),
  (.isub, 1, (0, 0), []),
  (.iastore, 1, (0, 0), []),
  (.iload 4, 2, (0, 0), []),
  (.ifCond .ne 13, 3, (0, 0), [[86]]),
  (.aload_n 0, 1, (0, 0), []),
  (.getfield 42, 3, (0, 0), [[6, 2097, 0, 1], [11]]),
  (.iload 5, 2, (0, 0), []),
  (.baload, 1, (0, 0), []),
  (.ifCond .eq 7, 3, (0, 0), [[90]])]
def qX11_takeUnaddedOffs_86 : List mO := [(.iconst 1, 1, (1, 0), []),
  (.goto 4, 3, (0, 0), [[91]])]
def qX11_takeUnaddedOffs_90 : List mO := [(.iconst 0, 1, (0, 0), [])]
def qX11_takeUnaddedOffs_91 : List mO := [(.istore 4, 2, (0, 0), []),
  (.iinc 5 1, 3, (1, 0), []),
  (.goto (-90), 3, (0, 0), [[6]])]
def qX11_takeUnaddedOffs_99 : List mO := [(.iload 4, 2, (0, 0), []),
  (.ireturn, 1, (0, 0), [[1]])]
def pX11_takeUnaddedOffs : List (Nat × List mO) := [(0, qX11_takeUnaddedOffs_0), (6, qX11_takeUnaddedOffs_6), (22, qX11_takeUnaddedOffs_22), (31, qX11_takeUnaddedOffs_31), (45, qX11_takeUnaddedOffs_45), (60, qX11_takeUnaddedOffs_60), (86, qX11_takeUnaddedOffs_86), (90, qX11_takeUnaddedOffs_90), (91, qX11_takeUnaddedOffs_91), (99, qX11_takeUnaddedOffs_99)]
def qX11_farthestOverDays_0 : List mO := [(.iconst 0, 1, (0, 0), []),
  (.istore_n 2, 1, (0, 0), []),
  (.iconst 0, 1, (0, 0), []),
  (.istore_n 3, 1, (0, 0), [])]
def qX11_farthestOverDays_4 : List mO := [(.iload_n 3, 1, (0, 0), []),
  (.bipush 7, 2, (7, 0), []),
  (.if_icmp .ge 55, 3, (0, 0), [[62]]),
  (.aload_n 0, 1, (0, 0), []),
  (.getfield 42, 3, (0, 0), [[6, 2097, 0, 1], [11]]),
  (.iload_n 3, 1, (0, 0), []),
  (.baload, 1, (0, 0), []),
  (.ifCond .eq 40, 3, (0, 0), [[56]]),
  (.aload_n 0, 1, (0, 0), []),
  (.getfield 10, 3, (0, 0), [[0, 2091, 0, 1], [11]]),
  (.aload_n 0, 1, (0, 0), []),
  (.getfield 10, 3, (0, 0), [[0, 2091, 0, 1], [11]]),
  (.iload_n 1, 1, (0, 0), []),
  (.iload_n 3, 1, (0, 0), []),
  (.invokevirtual 143, 3, (0, 0), [[2, 2164, 0], [9, 71, 2166, 2165]])]
def qX11_farthestOverDays_32 : List mO := [(.iload_n 1, 1, (0, 0), []),
  (.iload_n 3, 1, (0, 0), []),
  (.invokevirtual 147, 3, (0, 0), [[3, 2182, 0], [9, 72, 2184, 2183]])]
def qX11_farthestOverDays_37 : List mO := [(.istore 4, 2, (0, 0), []),
  (.iload_n 2, 1, (0, 0), []),
  (.aload_n 0, 1, (0, 0), []),
  (.getfield 46, 3, (0, 0), [[7, 2098, 0, 1], [11]]),
  (.iload_n 3, 1, (0, 0), []),
  (.iaload, 1, (0, 0), []),
  (.iload 4, 2, (0, 0), []),
  (.iadd, 1, (0, 0), []),
  (.invokestatic 290, 3, (0, 0), [[1, 997, 4050, 4029, 1020, 4030]]),
  (.invokestatic 268, 3, (0, 0), [[2, 995, 4051, 4052, 1020, 4053]]),
  (.istore_n 2, 1, (0, 0), [])]
def qX11_farthestOverDays_56 : List mO := [(.iinc 3 1, 3, (1, 0), []),
  (.goto (-55), 3, (0, 0), [[4]])]
def qX11_farthestOverDays_62 : List mO := [(.iload_n 2, 1, (0, 0), []),
  (.ireturn, 1, (0, 0), [])]
def pX11_farthestOverDays : List (Nat × List mO) := [(0, qX11_farthestOverDays_0), (4, qX11_farthestOverDays_4), (32, qX11_farthestOverDays_32), (37, qX11_farthestOverDays_37), (56, qX11_farthestOverDays_56), (62, qX11_farthestOverDays_62)]
def qX11_report_0 : List mO := [(.aload_n 0, 1, (0, 0), []),
  (.getfield 10, 3, (0, 0), [[0, 2091, 0, 1], [11]]),
  (.iload_n 1, 1, (0, 0), []),
  (.invokevirtual 137, 3, (0, 0), [[1, 2160, 0], [9, 68, 2162, 2161]])]
def qX11_report_8 : List mO := [(.ifCond .eq 14, 3, (0, 0), [[22]]),
  (.iload_n 2, 1, (0, 0), []),
  (.ifCond .lt 10, 3, (0, 0), [[22]]),
  (.iload_n 2, 1, (0, 0), []),
  (.sipush 9999, 3, (9999, 0), []),
  (.if_icmp .le 5, 3, (0, 0), [[24]])]
def qX11_report_22 : List mO := [(.iconst (-1), 1, ((-1), 0), []),
  (.ireturn, 1, (0, 0), [])]
def qX11_report_24 : List mO := [(.aload_n 0, 1, (0, 0), []),
  (.getfield 10, 3, (0, 0), [[0, 2091, 0, 1], [11]]),
  (.getfield 293, 3, (0, 0), [[11, 1100, 0, 0], [9]]),
  (.bipush 6, 2, (6, 0), []),
  (.if_icmp .lt 6, 3, (0, 0), [[39]]),
  (.bipush (-2), 2, ((-2), 0), []),
  (.ireturn, 1, (0, 0), [])]
def qX11_report_39 : List mO := [(.aload_n 0, 1, (0, 0), []),
  (.getfield 10, 3, (0, 0), [[0, 2091, 0, 1], [11]]),
  (.dup, 1, (0, 0), []),
  (.getfield 293, 3, (0, 0), [[11, 1100, 0, 0], [9]]),
  (.dup_x1, 1, (0, 0), []),
  (.iconst 1, 1, (1, 0), []),
  (.iadd, 1, (0, 0), []),
  (.putfield 293, 3, (0, 0), [[11, 1100, 0, 0], [9]]),
  (.istore_n 3, 1, (0, 0), []),
  (.aload_n 0, 1, (0, 0), []),
  (.getfield 10, 3, (0, 0), [[0, 2091, 0, 1], [11]]),
  (.getfield 296, 3, (0, 0), [[12, 1102, 0, 1], [9]]),
  (.iload_n 3, 1, (0, 0), []),
  (.iload_n 1, 1, (0, 0), []),
  (.iastore, 1, (0, 0), []),
  (.aload_n 0, 1, (0, 0), []),
  (.getfield 10, 3, (0, 0), [[0, 2091, 0, 1], [11]]),
  (.getfield 299, 3, (0, 0), [[13, 1104, 0, 1], [9]]),
  (.iload_n 3, 1, (0, 0), []),
  (.iload_n 2, 1, (0, 0), []),
  (.iastore, 1, (0, 0), []),
  (.iload_n 3, 1, (0, 0), []),
  (.ireturn, 1, (0, 0), [])]
def pX11_report : List (Nat × List mO) := [(0, qX11_report_0), (8, qX11_report_8), (22, qX11_report_22), (24, qX11_report_24), (39, qX11_report_39)]
def qX11_forget_0 : List mO := [(.aload_n 0, 1, (0, 0), []),
  (.getfield 10, 3, (0, 0), [[0, 2091, 0, 1], [11]]),
  (.getfield 293, 3, (0, 0), [[11, 1100, 0, 0], [9]]),
  (.istore_n 1, 1, (0, 0), []),
  (.aload_n 0, 1, (0, 0), []),
  (.getfield 10, 3, (0, 0), [[0, 2091, 0, 1], [11]]),
  (.iconst 0, 1, (0, 0), []),
  (.putfield 293, 3, (0, 0), [[11, 1100, 0, 0], [9]]),
  (.iload_n 1, 1, (0, 0), []),
  (.ireturn, 1, (0, 0), [])]
def pX11_forget : List (Nat × List mO) := [(0, qX11_forget_0)]
def qX11_fits_0 : List mO := [(.aload_n 0, 1, (0, 0), []),
  (.getfield 10, 3, (0, 0), [[0, 2091, 0, 1], [11]]),
  (.iload_n 1, 1, (0, 0), []),
  (.invokevirtual 137, 3, (0, 0), [[1, 2160, 0], [9, 68, 2162, 2161]])]
def qX11_fits_8 : List mO := [(.ifCond .eq 12, 3, (0, 0), [[20]]),
  (.iload_n 2, 1, (0, 0), []),
  (.ifCond .lt 8, 3, (0, 0), [[20]]),
  (.iload_n 2, 1, (0, 0), []),
  (.iconst 2, 1, (2, 0), []),
  (.if_icmp .le 5, 3, (0, 0), [[22]])]
def qX11_fits_20 : List mO := [(.iconst (-1), 1, ((-1), 0), []),
  (.ireturn, 1, (0, 0), [])]
def qX11_fits_22 : List mO := [(.aload_n 0, 1, (0, 0), []),
  (.getfield 35, 3, (0, 0), [[4, 2095, 0, 1], [11]]),
  (.aload_n 0, 1, (0, 0), []),
  (.getfield 10, 3, (0, 0), [[0, 2091, 0, 1], [11]]),
  (.getfield 140, 3, (0, 0), [[7, 1091, 0, 0], [9]]),
  (.invokevirtual 245, 3, (0, 0), [[1, 3176, 0], [0, 1, 3178, 3177]])]
def qX11_fits_36 : List mO := [(.iconst 0, 1, (0, 0), []),
  (.istore_n 3, 1, (0, 0), []),
  (.bipush (-3), 2, ((-3), 0), []),
  (.istore 4, 2, (0, 0), []),
  (.bipush (-3), 2, ((-3), 0), []),
  (.istore 5, 2, (0, 0), []),
  (.iconst 0, 1, (0, 0), []),
  (.istore 6, 2, (0, 0), [])]
def qX11_fits_49 : List mO := [(.iload 6, 2, (0, 0), []),
  (.sipush 1439, 3, (1439, 0), []),
  (.if_icmp .gt 49, 3, (0, 0), [[103]]),
  (.aload_n 0, 1, (0, 0), []),
  (.getfield 35, 3, (0, 0), [[4, 2095, 0, 1], [11]]),
  (.iload_n 1, 1, (0, 0), []),
  (.iload 6, 2, (0, 0), []),
  (.invokevirtual 257, 3, (0, 0), [[2, 4003, 0], [0, 2, 4005, 4004]])]
def qX11_fits_67 : List mO := [(.aload_n 0, 1, (0, 0), []),
  (.invokevirtual 302, 3, (0, 0), [[0, 4152, 0], [11, 130, 36, 4154]])]
def qX11_fits_71 : List mO := [(.ifCond .ne 26, 3, (0, 0), [[97]]),
  (.iinc 3 1, 3, (1, 0), []),
  (.iload 4, 2, (0, 0), []),
  (.bipush (-3), 2, ((-3), 0), []),
  (.if_icmp .ne 8, 3, (0, 0), [[89]]),
  (.iload 6, 2, (0, 0), []),
  (.goto 5, 3, (0, 0), [[91]])]
def qX11_fits_89 : List mO := [(.iload 4, 2, (0, 0), [])]
def qX11_fits_91 : List mO := [(.istore 4, 2, (0, 0), []),
  (.iload 6, 2, (0, 0), []),
  (.istore 5, 2, (0, 0), [])]
def qX11_fits_97 : List mO := [(.iinc 6 1, 3, (1, 0), []),
  (.goto (-51), 3, (0, 0), [[49]])]
def qX11_fits_103 : List mO := [(.iload_n 2, 1, (0, 0), []),
  (.ifCond .ne 7, 3, (0, 0), [[111]]),
  (.iload_n 3, 1, (0, 0), []),
  (.goto 15, 3, (0, 0), [[123]])]
def qX11_fits_111 : List mO := [(.iload_n 2, 1, (0, 0), []),
  (.iconst 1, 1, (1, 0), []),
  (.if_icmp .ne 8, 3, (0, 0), [[121]]),
  (.iload 4, 2, (0, 0), []),
  (.goto 5, 3, (0, 0), [[123]])]
def qX11_fits_121 : List mO := [(.iload 5, 2, (0, 0), [])]
def qX11_fits_123 : List mO := [(.ireturn, 1, (0, 0), [])]
def pX11_fits : List (Nat × List mO) := [(0, qX11_fits_0), (8, qX11_fits_8), (20, qX11_fits_20), (22, qX11_fits_22), (36, qX11_fits_36), (49, qX11_fits_49), (67, qX11_fits_67), (71, qX11_fits_71), (89, qX11_fits_89), (91, qX11_fits_91), (97, qX11_fits_97), (103, qX11_fits_103), (111, qX11_fits_111), (121, qX11_fits_121), (123, qX11_fits_123)]
def qX11_liar_0 : List mO := [(.aload_n 0, 1, (0, 0), []),
  (.getfield 10, 3, (0, 0), [[0, 2091, 0, 1], [11]]),
  (.iload_n 1, 1, (0, 0), []),
  (.invokevirtual 137, 3, (0, 0), [[1, 2160, 0], [9, 68, 2162, 2161]])]
def qX11_liar_8 : List mO := [(.ifCond .ne 5, 3, (0, 0), [[13]]),
  (.iconst (-1), 1, ((-1), 0), []),
  (.ireturn, 1, (0, 0), [])]
def qX11_liar_13 : List mO := [(.aload_n 0, 1, (0, 0), []),
  (.getfield 35, 3, (0, 0), [[4, 2095, 0, 1], [11]]),
  (.aload_n 0, 1, (0, 0), []),
  (.getfield 10, 3, (0, 0), [[0, 2091, 0, 1], [11]]),
  (.getfield 140, 3, (0, 0), [[7, 1091, 0, 0], [9]]),
  (.invokevirtual 245, 3, (0, 0), [[1, 3176, 0], [0, 1, 3178, 3177]])]
def qX11_liar_27 : List mO := [(.iconst 0, 1, (0, 0), []),
  (.istore_n 2, 1, (0, 0), []),
  (.iconst 0, 1, (0, 0), []),
  (.istore_n 3, 1, (0, 0), [])]
def qX11_liar_31 : List mO := [(.iload_n 3, 1, (0, 0), []),
  (.sipush 1439, 3, (1439, 0), []),
  (.if_icmp .gt 46, 3, (0, 0), [[81]]),
  (.aload_n 0, 1, (0, 0), []),
  (.getfield 35, 3, (0, 0), [[4, 2095, 0, 1], [11]]),
  (.iload_n 1, 1, (0, 0), []),
  (.iload_n 3, 1, (0, 0), []),
  (.invokevirtual 257, 3, (0, 0), [[2, 4003, 0], [0, 2, 4005, 4004]])]
def qX11_liar_47 : List mO := [(.aload_n 0, 1, (0, 0), []),
  (.invokevirtual 302, 3, (0, 0), [[0, 4152, 0], [11, 130, 36, 4154]])]
def qX11_liar_51 : List mO := [(.istore 4, 2, (0, 0), []),
  (.iload 4, 2, (0, 0), []),
  (.ifCond .ne 6, 3, (0, 0), [[61]]),
  (.bipush (-3), 2, ((-3), 0), []),
  (.ireturn, 1, (0, 0), [])]
def qX11_liar_61 : List mO := [(.iload 4, 2, (0, 0), []),
  (.invokestatic 252, 3, (0, 0), [[1, 266, 4072, 4073, 0]])]
def qX11_liar_66 : List mO := [(.iconst 1, 1, (1, 0), []),
  (.if_icmp .ne 8, 3, (0, 0), [[75]]),
  (.iload_n 2, 1, (0, 0), []),
  (.iload 4, 2, (0, 0), []),
  (.ior, 1, (0, 0), []),
  (.istore_n 2, 1, (0, 0), [])]
def qX11_liar_75 : List mO := [(.iinc 3 1, 3, (1, 0), []),
  (.goto (-47), 3, (0, 0), [[31]])]
def qX11_liar_81 : List mO := [(.iconst 0, 1, (0, 0), []),
  (.istore_n 3, 1, (0, 0), [])]
def qX11_liar_83 : List mO := [(.iload_n 3, 1, (0, 0), []),
  (.aload_n 0, 1, (0, 0), []),
  (.getfield 10, 3, (0, 0), [[0, 2091, 0, 1], [11]]),
  (.getfield 293, 3, (0, 0), [[11, 1100, 0, 0], [9]]),
  (.if_icmp .ge 20, 3, (0, 0), [[111]]),
  (.iload_n 2, 1, (0, 0), []),
  (.iload_n 3, 1, (0, 0), []),
  (.iushr, 1, (0, 0), []),
  (.iconst 1, 1, (1, 0), []),
  (.iand, 1, (0, 0), []),
  (.iconst 1, 1, (1, 0), []),
  (.if_icmp .ne 5, 3, (0, 0), [[105]]),
  (.iload_n 3, 1, (0, 0), []),
  (.ireturn, 1, (0, 0), [])]
def qX11_liar_105 : List mO := [(.iinc 3 1, 3, (1, 0), []),
  (.goto (-25), 3, (0, 0), [[83]])]
def qX11_liar_111 : List mO := [(.bipush (-3), 2, ((-3), 0), []),
  (.ireturn, 1, (0, 0), [])]
def pX11_liar : List (Nat × List mO) := [(0, qX11_liar_0), (8, qX11_liar_8), (13, qX11_liar_13), (27, qX11_liar_27), (31, qX11_liar_31), (47, qX11_liar_47), (51, qX11_liar_51), (61, qX11_liar_61), (66, qX11_liar_66), (75, qX11_liar_75), (81, qX11_liar_81), (83, qX11_liar_83), (105, qX11_liar_105), (111, qX11_liar_111)]
def qX11_wrongReports_0 : List mO := [(.iconst 0, 1, (0, 0), []),
  (.istore_n 1, 1, (0, 0), []),
  (.iconst 0, 1, (0, 0), []),
  (.istore_n 2, 1, (0, 0), [])]
def qX11_wrongReports_4 : List mO := [(.iload_n 2, 1, (0, 0), []),
  (.aload_n 0, 1, (0, 0), []),
  (.getfield 10, 3, (0, 0), [[0, 2091, 0, 1], [11]]),
  (.getfield 293, 3, (0, 0), [[11, 1100, 0, 0], [9]]),
  (.if_icmp .ge 57, 3, (0, 0), [[69]]),
  (.aload_n 0, 1, (0, 0), []),
  (.getfield 10, 3, (0, 0), [[0, 2091, 0, 1], [11]]),
  (.getfield 296, 3, (0, 0), [[12, 1102, 0, 1], [9]]),
  (.iload_n 2, 1, (0, 0), []),
  (.iaload, 1, (0, 0), []),
  (.istore_n 3, 1, (0, 0), []),
  (.aload_n 0, 1, (0, 0), []),
  (.getfield 35, 3, (0, 0), [[4, 2095, 0, 1], [11]]),
  (.iload_n 3, 1, (0, 0), []),
  (.invokevirtual 198, 3, (0, 0), [[1, 3212, 0], [0, 10, 3206, 3205]])]
def qX11_wrongReports_33 : List mO := [(.ifCond .eq 24, 3, (0, 0), [[57]]),
  (.aload_n 0, 1, (0, 0), []),
  (.getfield 35, 3, (0, 0), [[4, 2095, 0, 1], [11]]),
  (.getfield 201, 3, (0, 0), [[7, 1205, 0, 1], [0]]),
  (.iload_n 3, 1, (0, 0), []),
  (.iaload, 1, (0, 0), []),
  (.aload_n 0, 1, (0, 0), []),
  (.getfield 10, 3, (0, 0), [[0, 2091, 0, 1], [11]]),
  (.getfield 299, 3, (0, 0), [[13, 1104, 0, 1], [9]]),
  (.iload_n 2, 1, (0, 0), []),
  (.iaload, 1, (0, 0), []),
  (.if_icmp .eq 9, 3, (0, 0), [[63]])]
def qX11_wrongReports_57 : List mO := [(.iload_n 1, 1, (0, 0), []),
  (.iconst 1, 1, (1, 0), []),
  (.iload_n 2, 1, (0, 0), []),
  (.ishl, 1, (0, 0), []),
  (.ior, 1, (0, 0), []),
  (.istore_n 1, 1, (0, 0), [])]
def qX11_wrongReports_63 : List mO := [(.iinc 2 1, 3, (1, 0), []),
  (.goto (-62), 3, (0, 0), [[4]])]
def qX11_wrongReports_69 : List mO := [(.iload_n 1, 1, (0, 0), []),
  (.ireturn, 1, (0, 0), [])]
def pX11_wrongReports : List (Nat × List mO) := [(0, qX11_wrongReports_0), (4, qX11_wrongReports_4), (33, qX11_wrongReports_33), (57, qX11_wrongReports_57), (63, qX11_wrongReports_63), (69, qX11_wrongReports_69)]
def qX11_prove_0 : List mO := [(.aload_n 0, 1, (0, 0), []),
  (.iload_n 1, 1, (0, 0), []),
  (.iload_n 2, 1, (0, 0), []),
  (.invokevirtual 191, 3, (0, 0), [[2, 3165, 0], [11, 118, 25, 3167]])]
def qX11_prove_6 : List mO := [(.ifCond .ne 5, 3, (0, 0), [[11]]),
  (.iconst (-1), 1, ((-1), 0), []),
  (.ireturn, 1, (0, 0), [])]
def qX11_prove_11 : List mO := [(.aload_n 0, 1, (0, 0), []),
  (.iload_n 1, 1, (0, 0), []),
  (.iload_n 2, 1, (0, 0), []),
  (.iload_n 3, 1, (0, 0), []),
  (.invokevirtual 194, 3, (0, 0), [[3, 3172, 0], [11, 121, 26, 3174]])]
def qX11_prove_18 : List mO := [(.aload_n 0, 1, (0, 0), []),
  (.aload_n 0, 1, (0, 0), []),
  (.getfield 35, 3, (0, 0), [[4, 2095, 0, 1], [11]]),
  (.invokevirtual 203, 3, (0, 0), [[0, 3213, 0], [0, 11, 3215, 3214]])]
def qX11_prove_26 : List mO := [(.putfield 50, 3, (0, 0), [[8, 2099, 0, 0], [11]]),
  (.iconst 0, 1, (0, 0), []),
  (.istore 4, 2, (0, 0), [])]
def qX11_prove_32 : List mO := [(.iload 4, 2, (0, 0), []),
  (.aload_n 0, 1, (0, 0), []),
  (.getfield 50, 3, (0, 0), [[8, 2099, 0, 0], [11]]),
  (.if_icmp .ge 87, 3, (0, 0), [[125]]),
  (.iload_n 3, 1, (0, 0), []),
  (.ifCond .eq 10, 3, (0, 0), [[52]]),
  (.iload_n 1, 1, (0, 0), []),
  (.iload 4, 2, (0, 0), []),
  (.iadd, 1, (0, 0), []),
  (.goto 7, 3, (0, 0), [[56]])]
def qX11_prove_52 : List mO := [(.iload_n 1, 1, (0, 0), []),
  (.iload 4, 2, (0, 0), []),
  (.isub, 1, (0, 0), [])]
def qX11_prove_56 : List mO := [(.istore 5, 2, (0, 0), []),
  (.aload_n 0, 1, (0, 0), []),
  (.getfield 10, 3, (0, 0), [[0, 2091, 0, 1], [11]]),
  (.iload 5, 2, (0, 0), []),
  (.invokevirtual 137, 3, (0, 0), [[1, 2160, 0], [9, 68, 2162, 2161]])]
def qX11_prove_67 : List mO := [(.ifCond .eq 52, 3, (0, 0), [[119]]),
  (.aload_n 0, 1, (0, 0), []),
  (.getfield 56, 3, (0, 0), [[9, 2100, 0, 1], [11]]),
  (.iload 4, 2, (0, 0), []),
  (.aaload, 1, (0, 0), [])]
def qX11_prove_77 : List mO := [(.iconst 0, 1, (0, 0), []),
  (.iload 5, 2, (0, 0), []),
  (.iastore, 1, (0, 0), []),
  (.aload_n 0, 1, (0, 0), []),
  (.getfield 56, 3, (0, 0), [[9, 2100, 0, 1], [11]]),
  (.iload 4, 2, (0, 0), []),
  (.aaload, 1, (0, 0), [])]
def qX11_prove_88 : List mO := [(.iconst 1, 1, (1, 0), []),
  (.aload_n 0, 1, (0, 0), []),
  (.getfield 35, 3, (0, 0), [[4, 2095, 0, 1], [11]]),
  (.getfield 202, 3, (0, 0), [[6, 1203, 0, 1], [0]]),
  (.iload 5, 2, (0, 0), []),
  (.iaload, 1, (0, 0), []),
  (.iastore, 1, (0, 0), []),
  (.aload_n 0, 1, (0, 0), []),
  (.getfield 56, 3, (0, 0), [[9, 2100, 0, 1], [11]]),
  (.iload 4, 2, (0, 0), []),
  (.aaload, 1, (0, 0), [])]
def qX11_prove_107 : List mO := [(.iconst 2, 1, (2, 0), []),
  (.aload_n 0, 1, (0, 0), []),
  (.getfield 35, 3, (0, 0), [[4, 2095, 0, 1], [11]]),
  (.getfield 201, 3, (0, 0), [[7, 1205, 0, 1], [0]]),
  (.iload 5, 2, (0, 0), []),
  (.iaload, 1, (0, 0), []),
  (.iastore, 1, (0, 0), [])]
def qX11_prove_119 : List mO := [(.iinc 4 1, 3, (1, 0), []),
  (.goto (-90), 3, (0, 0), [[32]])]
def qX11_prove_125 : List mO := [(.aload_n 0, 1, (0, 0), []),
  (.getfield 50, 3, (0, 0), [[8, 2099, 0, 0], [11]]),
  (.ireturn, 1, (0, 0), [])]
def pX11_prove : List (Nat × List mO) := [(0, qX11_prove_0), (6, qX11_prove_6), (11, qX11_prove_11), (18, qX11_prove_18), (26, qX11_prove_26), (32, qX11_prove_32), (52, qX11_prove_52), (56, qX11_prove_56), (67, qX11_prove_67), (77, qX11_prove_77), (88, qX11_prove_88), (107, qX11_prove_107), (119, qX11_prove_119), (125, qX11_prove_125)]
def qX11_row_0 : List mO := [(.aload_n 0, 1, (0, 0), []),
  (.iload_n 1, 1, (0, 0), []),
  (.iload_n 2, 1, (0, 0), []),
  (.invokevirtual 305, 3, (0, 0), [[2, 4168, 0], [11, 135, 37, 4170]])]
def qX11_row_6 : List mO := [(.ifCond .eq 14, 3, (0, 0), [[20]]),
  (.aload_n 0, 1, (0, 0), []),
  (.getfield 56, 3, (0, 0), [[9, 2100, 0, 1], [11]]),
  (.iload_n 1, 1, (0, 0), []),
  (.aaload, 1, (0, 0), [])]
def qX11_row_15 : List mO := [(.iload_n 2, 1, (0, 0), []),
  (.iaload, 1, (0, 0), []),
  (.goto 5, 3, (0, 0), [[22]])]
def qX11_row_20 : List mO := [(.bipush (-9), 2, ((-9), 0), [])]
def qX11_row_22 : List mO := [(.ireturn, 1, (0, 0), [])]
def pX11_row : List (Nat × List mO) := [(0, qX11_row_0), (6, qX11_row_6), (15, qX11_row_15), (20, qX11_row_20), (22, qX11_row_22)]
def qX11_alterRow_0 : List mO := [(.aload_n 0, 1, (0, 0), []),
  (.iload_n 1, 1, (0, 0), []),
  (.iload_n 2, 1, (0, 0), []),
  (.invokevirtual 305, 3, (0, 0), [[2, 4168, 0], [11, 135, 37, 4170]])]
def qX11_alterRow_6 : List mO := [(.ifCond .ne 6, 3, (0, 0), [[12]]),
  (.bipush (-9), 2, ((-9), 0), []),
  (.ireturn, 1, (0, 0), [])]
def qX11_alterRow_12 : List mO := [(.aload_n 0, 1, (0, 0), []),
  (.getfield 56, 3, (0, 0), [[9, 2100, 0, 1], [11]]),
  (.iload_n 1, 1, (0, 0), []),
  (.aaload, 1, (0, 0), [])]
def qX11_alterRow_18 : List mO := [(.iload_n 2, 1, (0, 0), []),
  (.iaload, 1, (0, 0), []),
  (.istore 4, 2, (0, 0), []),
  (.aload_n 0, 1, (0, 0), []),
  (.getfield 56, 3, (0, 0), [[9, 2100, 0, 1], [11]]),
  (.iload_n 1, 1, (0, 0), []),
  (.aaload, 1, (0, 0), [])]
def qX11_alterRow_28 : List mO := [(.iload_n 2, 1, (0, 0), []),
  (.iload_n 3, 1, (0, 0), []),
  (.iastore, 1, (0, 0), []),
  (.iload 4, 2, (0, 0), []),
  (.ireturn, 1, (0, 0), [])]
def pX11_alterRow : List (Nat × List mO) := [(0, qX11_alterRow_0), (6, qX11_alterRow_6), (12, qX11_alterRow_12), (18, qX11_alterRow_18), (28, qX11_alterRow_28)]
def qX11_judge_0 : List mO := [(.aload_n 0, 1, (0, 0), []),
  (.getfield 50, 3, (0, 0), [[8, 2099, 0, 0], [11]]),
  (.ifCond .ne 5, 3, (0, 0), [[9]]),
  (.iconst 0, 1, (0, 0), []),
  (.ireturn, 1, (0, 0), [])]
def qX11_judge_9 : List mO := [(.aload_n 0, 1, (0, 0), []),
  (.getfield 56, 3, (0, 0), [[9, 2100, 0, 1], [11]]),
  (.iconst 0, 1, (0, 0), []),
  (.aaload, 1, (0, 0), [])]
def qX11_judge_15 : List mO := [(.iconst 0, 1, (0, 0), []),
  (.iaload, 1, (0, 0), []),
  (.istore_n 2, 1, (0, 0), []),
  (.aload_n 0, 1, (0, 0), []),
  (.getfield 56, 3, (0, 0), [[9, 2100, 0, 1], [11]]),
  (.iconst 0, 1, (0, 0), []),
  (.aaload, 1, (0, 0), [])]
def qX11_judge_24 : List mO := [(.iconst 1, 1, (1, 0), []),
  (.iaload, 1, (0, 0), []),
  (.istore_n 3, 1, (0, 0), []),
  (.aload_n 0, 1, (0, 0), []),
  (.iload_n 2, 1, (0, 0), []),
  (.iload_n 3, 1, (0, 0), []),
  (.invokevirtual 191, 3, (0, 0), [[2, 3165, 0], [11, 118, 25, 3167]])]
def qX11_judge_33 : List mO := [(.ifCond .eq 15, 3, (0, 0), [[48]]),
  (.aload_n 0, 1, (0, 0), []),
  (.getfield 56, 3, (0, 0), [[9, 2100, 0, 1], [11]]),
  (.iconst 0, 1, (0, 0), []),
  (.aaload, 1, (0, 0), [])]
def qX11_judge_42 : List mO := [(.iconst 2, 1, (2, 0), []),
  (.iaload, 1, (0, 0), []),
  (.iload_n 3, 1, (0, 0), []),
  (.if_icmp .eq 5, 3, (0, 0), [[50]])]
def qX11_judge_48 : List mO := [(.iconst 1, 1, (1, 0), []),
  (.ireturn, 1, (0, 0), [])]
def qX11_judge_50 : List mO := [(.aload_n 0, 1, (0, 0), []),
  (.iload_n 2, 1, (0, 0), []),
  (.iload_n 3, 1, (0, 0), []),
  (.iload_n 1, 1, (0, 0), []),
  (.invokevirtual 194, 3, (0, 0), [[3, 3172, 0], [11, 121, 26, 3174]])]
def qX11_judge_57 : List mO := [(.iconst 1, 1, (1, 0), []),
  (.istore 4, 2, (0, 0), [])]
def qX11_judge_60 : List mO := [(.iload 4, 2, (0, 0), []),
  (.aload_n 0, 1, (0, 0), []),
  (.getfield 50, 3, (0, 0), [[8, 2099, 0, 0], [11]]),
  (.if_icmp .ge 66, 3, (0, 0), [[132]]),
  (.iload_n 1, 1, (0, 0), []),
  (.ifCond .eq 10, 3, (0, 0), [[80]]),
  (.iload_n 2, 1, (0, 0), []),
  (.iload 4, 2, (0, 0), []),
  (.iadd, 1, (0, 0), []),
  (.goto 7, 3, (0, 0), [[84]])]
def qX11_judge_80 : List mO := [(.iload_n 2, 1, (0, 0), []),
  (.iload 4, 2, (0, 0), []),
  (.isub, 1, (0, 0), [])]
def qX11_judge_84 : List mO := [(.istore 5, 2, (0, 0), []),
  (.aload_n 0, 1, (0, 0), []),
  (.getfield 10, 3, (0, 0), [[0, 2091, 0, 1], [11]]),
  (.iload 5, 2, (0, 0), []),
  (.invokevirtual 137, 3, (0, 0), [[1, 2160, 0], [9, 68, 2162, 2161]])]
def qX11_judge_95 : List mO := [(.ifCond .eq 26, 3, (0, 0), [[121]]),
  (.aload_n 0, 1, (0, 0), []),
  (.getfield 35, 3, (0, 0), [[4, 2095, 0, 1], [11]]),
  (.iload 5, 2, (0, 0), []),
  (.invokevirtual 198, 3, (0, 0), [[1, 3212, 0], [0, 10, 3206, 3205]])]
def qX11_judge_107 : List mO := [(.ifCond .eq 14, 3, (0, 0), [[121]]),
  (.aload_n 0, 1, (0, 0), []),
  (.iload 4, 2, (0, 0), []),
  (.iload 5, 2, (0, 0), []),
  (.invokevirtual 308, 3, (0, 0), [[2, 4180, 0], [11, 136, 38, 4182]])]
def qX11_judge_118 : List mO := [(.ifCond .ne 8, 3, (0, 0), [[126]])]
def qX11_judge_121 : List mO := [(.iload 4, 2, (0, 0), []),
  (.iconst 1, 1, (1, 0), []),
  (.iadd, 1, (0, 0), []),
  (.ireturn, 1, (0, 0), [])]
def qX11_judge_126 : List mO := [(.iinc 4 1, 3, (1, 0), []),
  (.goto (-69), 3, (0, 0), [[60]])]
def qX11_judge_132 : List mO := [(.iconst 0, 1, (0, 0), []),
  (.ireturn, 1, (0, 0), [])]
def pX11_judge : List (Nat × List mO) := [(0, qX11_judge_0), (9, qX11_judge_9), (15, qX11_judge_15), (24, qX11_judge_24), (33, qX11_judge_33), (42, qX11_judge_42), (48, qX11_judge_48), (50, qX11_judge_50), (57, qX11_judge_57), (60, qX11_judge_60), (80, qX11_judge_80), (84, qX11_judge_84), (95, qX11_judge_95), (107, qX11_judge_107), (118, qX11_judge_118), (121, qX11_judge_121), (126, qX11_judge_126), (132, qX11_judge_132)]
def qX11_isInRows_0 : List mO := [(.iload_n 1, 1, (0, 0), []),
  (.ifCond .lt 24, 3, (0, 0), [[25]]),
  (.iload_n 1, 1, (0, 0), []),
  (.aload_n 0, 1, (0, 0), []),
  (.getfield 50, 3, (0, 0), [[8, 2099, 0, 0], [11]]),
  (.if_icmp .ge 16, 3, (0, 0), [[25]]),
  (.iload_n 2, 1, (0, 0), []),
  (.ifCond .lt 12, 3, (0, 0), [[25]]),
  (.iload_n 2, 1, (0, 0), []),
  (.iconst 2, 1, (2, 0), []),
  (.if_icmp .gt 7, 3, (0, 0), [[25]]),
  (.iconst 1, 1, (1, 0), []),
  (.goto 4, 3, (0, 0), [[26]])]
def qX11_isInRows_25 : List mO := [(.iconst 0, 1, (0, 0), [])]
def qX11_isInRows_26 : List mO := [(.ireturn, 1, (0, 0), [[1]])]
def pX11_isInRows : List (Nat × List mO) := [(0, qX11_isInRows_0), (25, qX11_isInRows_25), (26, qX11_isInRows_26)]
def qX11_isRowOfAsked_0 : List mO := [(.aload_n 0, 1, (0, 0), []),
  (.getfield 56, 3, (0, 0), [[9, 2100, 0, 1], [11]]),
  (.iload_n 1, 1, (0, 0), []),
  (.aaload, 1, (0, 0), [])]
def qX11_isRowOfAsked_6 : List mO := [(.iconst 0, 1, (0, 0), []),
  (.iaload, 1, (0, 0), []),
  (.iload_n 2, 1, (0, 0), []),
  (.if_icmp .ne 47, 3, (0, 0), [[56]]),
  (.aload_n 0, 1, (0, 0), []),
  (.getfield 56, 3, (0, 0), [[9, 2100, 0, 1], [11]]),
  (.iload_n 1, 1, (0, 0), []),
  (.aaload, 1, (0, 0), [])]
def qX11_isRowOfAsked_18 : List mO := [(.iconst 1, 1, (1, 0), []),
  (.iaload, 1, (0, 0), []),
  (.aload_n 0, 1, (0, 0), []),
  (.getfield 35, 3, (0, 0), [[4, 2095, 0, 1], [11]]),
  (.getfield 202, 3, (0, 0), [[6, 1203, 0, 1], [0]]),
  (.iload_n 2, 1, (0, 0), []),
  (.iaload, 1, (0, 0), []),
  (.if_icmp .ne 27, 3, (0, 0), [[56]]),
  (.aload_n 0, 1, (0, 0), []),
  (.getfield 56, 3, (0, 0), [[9, 2100, 0, 1], [11]]),
  (.iload_n 1, 1, (0, 0), []),
  (.aaload, 1, (0, 0), [])]
def qX11_isRowOfAsked_38 : List mO := [(.iconst 2, 1, (2, 0), []),
  (.iaload, 1, (0, 0), []),
  (.aload_n 0, 1, (0, 0), []),
  (.getfield 35, 3, (0, 0), [[4, 2095, 0, 1], [11]]),
  (.getfield 201, 3, (0, 0), [[7, 1205, 0, 1], [0]]),
  (.iload_n 2, 1, (0, 0), []),
  (.iaload, 1, (0, 0), []),
  (.if_icmp .ne 7, 3, (0, 0), [[56]]),
  (.iconst 1, 1, (1, 0), []),
  (.goto 4, 3, (0, 0), [[57]])]
def qX11_isRowOfAsked_56 : List mO := [(.iconst 0, 1, (0, 0), [])]
def qX11_isRowOfAsked_57 : List mO := [(.ireturn, 1, (0, 0), [[1]])]
def pX11_isRowOfAsked : List (Nat × List mO) := [(0, qX11_isRowOfAsked_0), (6, qX11_isRowOfAsked_6), (18, qX11_isRowOfAsked_18), (38, qX11_isRowOfAsked_38), (56, qX11_isRowOfAsked_56), (57, qX11_isRowOfAsked_57)]
def qX11_sheet_0 : List mO := [(.iload_n 1, 1, (0, 0), []),
  (.invokestatic 311, 3, (0, 0), [[1, 146, 4188, 4189, 0]])]
def qX11_sheet_4 : List mO := [(.ifCond .eq 15, 3, (0, 0), [[19]]),
  (.iload_n 2, 1, (0, 0), []),
  (.iconst (-1), 1, ((-1), 0), []),
  (.if_icmp .eq 12, 3, (0, 0), [[21]]),
  (.iload_n 2, 1, (0, 0), []),
  (.invokestatic 314, 3, (0, 0), [[1, 147, 4191, 4192, 0]])]
def qX11_sheet_16 : List mO := [(.ifCond .ne 5, 3, (0, 0), [[21]])]
def qX11_sheet_19 : List mO := [(.iconst (-1), 1, ((-1), 0), []),
  (.ireturn, 1, (0, 0), [])]
def qX11_sheet_21 : List mO := [(.iload_n 2, 1, (0, 0), []),
  (.iconst (-1), 1, ((-1), 0), []),
  (.if_icmp .ne 12, 3, (0, 0), [[35]]),
  (.aload_n 0, 1, (0, 0), []),
  (.getfield 59, 3, (0, 0), [[10, 2101, 0, 1], [11]]),
  (.iload_n 1, 1, (0, 0), []),
  (.iconst (-1), 1, ((-1), 0), []),
  (.iastore, 1, (0, 0), []),
  (.iconst 1, 1, (1, 0), []),
  (.ireturn, 1, (0, 0), [])]
def qX11_sheet_35 : List mO := [(.iload_n 3, 1, (0, 0), []),
  (.bipush 40, 2, (40, 0), []),
  (.if_icmp .le 5, 3, (0, 0), [[43]]),
  (.iconst (-1), 1, ((-1), 0), []),
  (.ireturn, 1, (0, 0), [])]
def qX11_sheet_43 : List mO := [(.iload_n 3, 1, (0, 0), []),
  (.ifCond .ge 6, 3, (0, 0), [[50]]),
  (.bipush (-14), 2, ((-14), 0), []),
  (.ireturn, 1, (0, 0), [])]
def qX11_sheet_50 : List mO := [(.aload_n 0, 1, (0, 0), []),
  (.getfield 59, 3, (0, 0), [[10, 2101, 0, 1], [11]]),
  (.iload_n 1, 1, (0, 0), []),
  (.iload_n 2, 1, (0, 0), []),
  (.iastore, 1, (0, 0), []),
  (.aload_n 0, 1, (0, 0), []),
  (.getfield 62, 3, (0, 0), [[11, 2102, 0, 1], [11]]),
  (.iload_n 1, 1, (0, 0), []),
  (.iload_n 3, 1, (0, 0), []),
  (.iastore, 1, (0, 0), []),
  (.aload_n 0, 1, (0, 0), []),
  (.getfield 65, 3, (0, 0), [[12, 2103, 0, 1], [11]]),
  (.iload_n 1, 1, (0, 0), []),
  (.aaload, 1, (0, 0), [])]
def qX11_sheet_70 : List mO := [(.iconst 0, 1, (0, 0), []),
  (.invokestatic 212, 3, (0, 0), [[2, 267, 3232, 3233, 0]])]
def qX11_sheet_74 : List mO := [(.iconst 1, 1, (1, 0), []),
  (.ireturn, 1, (0, 0), [])]
def pX11_sheet : List (Nat × List mO) := [(0, qX11_sheet_0), (4, qX11_sheet_4), (16, qX11_sheet_16), (19, qX11_sheet_19), (21, qX11_sheet_21), (35, qX11_sheet_35), (43, qX11_sheet_43), (50, qX11_sheet_50), (70, qX11_sheet_70), (74, qX11_sheet_74)]
def qX11_write_0 : List mO := [(.iload_n 1, 1, (0, 0), []),
  (.invokestatic 311, 3, (0, 0), [[1, 146, 4188, 4189, 0]])]
def qX11_write_4 : List mO := [(.ifCond .ne 5, 3, (0, 0), [[9]]),
  (.iconst (-1), 1, ((-1), 0), []),
  (.ireturn, 1, (0, 0), [])]
def qX11_write_9 : List mO := [(.aload_n 0, 1, (0, 0), []),
  (.getfield 59, 3, (0, 0), [[10, 2101, 0, 1], [11]]),
  (.iload_n 1, 1, (0, 0), []),
  (.iaload, 1, (0, 0), []),
  (.iconst (-1), 1, ((-1), 0), []),
  (.if_icmp .ne 6, 3, (0, 0), [[22]]),
  (.bipush (-11), 2, ((-11), 0), []),
  (.ireturn, 1, (0, 0), [])]
def qX11_write_22 : List mO := [(.aload_n 0, 1, (0, 0), []),
  (.iload_n 1, 1, (0, 0), []),
  (.iload_n 2, 1, (0, 0), []),
  (.invokevirtual 317, 3, (0, 0), [[2, 4198, 0], [11, 148, 39, 4200]])]
def qX11_write_28 : List mO := [(.ifCond .ne 6, 3, (0, 0), [[34]]),
  (.bipush (-12), 2, ((-12), 0), []),
  (.ireturn, 1, (0, 0), [])]
def qX11_write_34 : List mO := [(.aload_n 0, 1, (0, 0), []),
  (.getfield 65, 3, (0, 0), [[12, 2103, 0, 1], [11]]),
  (.iload_n 1, 1, (0, 0), []),
  (.aaload, 1, (0, 0), [])]
def qX11_write_40 : List mO := [(.iload_n 2, 1, (0, 0), []),
  (.aload_n 0, 1, (0, 0), []),
  (.getfield 59, 3, (0, 0), [[10, 2101, 0, 1], [11]]),
  (.iload_n 1, 1, (0, 0), []),
  (.iaload, 1, (0, 0), []),
  (.iload_n 3, 1, (0, 0), []),
  (.invokestatic 320, 3, (0, 0), [[2, 149, 4202, 4203, 0]])]
def qX11_write_51 : List mO := [(.iastore, 1, (0, 0), []),
  (.iconst 1, 1, (1, 0), []),
  (.ireturn, 1, (0, 0), [])]
def pX11_write : List (Nat × List mO) := [(0, qX11_write_0), (4, qX11_write_4), (9, qX11_write_9), (22, qX11_write_22), (28, qX11_write_28), (34, qX11_write_34), (40, qX11_write_40), (51, qX11_write_51)]
def qX11_item_0 : List mO := [(.iload_n 1, 1, (0, 0), []),
  (.invokestatic 311, 3, (0, 0), [[1, 146, 4188, 4189, 0]])]
def qX11_item_4 : List mO := [(.ifCond .eq 10, 3, (0, 0), [[14]]),
  (.iload_n 2, 1, (0, 0), []),
  (.invokestatic 314, 3, (0, 0), [[1, 147, 4191, 4192, 0]])]
def qX11_item_11 : List mO := [(.ifCond .ne 5, 3, (0, 0), [[16]])]
def qX11_item_14 : List mO := [(.iconst (-1), 1, ((-1), 0), []),
  (.ireturn, 1, (0, 0), [])]
def qX11_item_16 : List mO := [(.aload_n 0, 1, (0, 0), []),
  (.getfield 59, 3, (0, 0), [[10, 2101, 0, 1], [11]]),
  (.iload_n 1, 1, (0, 0), []),
  (.iaload, 1, (0, 0), []),
  (.iconst (-1), 1, ((-1), 0), []),
  (.if_icmp .ne 6, 3, (0, 0), [[29]]),
  (.bipush (-11), 2, ((-11), 0), []),
  (.ireturn, 1, (0, 0), [])]
def qX11_item_29 : List mO := [(.aload_n 0, 1, (0, 0), []),
  (.getfield 59, 3, (0, 0), [[10, 2101, 0, 1], [11]]),
  (.iload_n 1, 1, (0, 0), []),
  (.iaload, 1, (0, 0), []),
  (.iload_n 2, 1, (0, 0), []),
  (.if_icmp .eq 6, 3, (0, 0), [[42]]),
  (.bipush (-13), 2, ((-13), 0), []),
  (.ireturn, 1, (0, 0), [])]
def qX11_item_42 : List mO := [(.aload_n 0, 1, (0, 0), []),
  (.iload_n 1, 1, (0, 0), []),
  (.iload_n 3, 1, (0, 0), []),
  (.invokevirtual 317, 3, (0, 0), [[2, 4198, 0], [11, 148, 39, 4200]])]
def qX11_item_48 : List mO := [(.ifCond .eq 14, 3, (0, 0), [[62]]),
  (.aload_n 0, 1, (0, 0), []),
  (.getfield 65, 3, (0, 0), [[12, 2103, 0, 1], [11]]),
  (.iload_n 1, 1, (0, 0), []),
  (.aaload, 1, (0, 0), [])]
def qX11_item_57 : List mO := [(.iload_n 3, 1, (0, 0), []),
  (.iaload, 1, (0, 0), []),
  (.goto 5, 3, (0, 0), [[64]])]
def qX11_item_62 : List mO := [(.bipush (-12), 2, ((-12), 0), [])]
def qX11_item_64 : List mO := [(.ireturn, 1, (0, 0), [])]
def pX11_item : List (Nat × List mO) := [(0, qX11_item_0), (4, qX11_item_4), (11, qX11_item_11), (14, qX11_item_14), (16, qX11_item_16), (29, qX11_item_29), (42, qX11_item_42), (48, qX11_item_48), (57, qX11_item_57), (62, qX11_item_62), (64, qX11_item_64)]
def qX11_adds_0 : List mO := [(.iload_n 1, 1, (0, 0), []),
  (.invokestatic 311, 3, (0, 0), [[1, 146, 4188, 4189, 0]])]
def qX11_adds_4 : List mO := [(.ifCond .eq 13, 3, (0, 0), [[17]]),
  (.iload_n 3, 1, (0, 0), []),
  (.ifCond .lt 9, 3, (0, 0), [[17]]),
  (.iload_n 3, 1, (0, 0), []),
  (.bipush 9, 2, (9, 0), []),
  (.if_icmp .le 5, 3, (0, 0), [[19]])]
def qX11_adds_17 : List mO := [(.iconst (-1), 1, ((-1), 0), []),
  (.ireturn, 1, (0, 0), [])]
def qX11_adds_19 : List mO := [(.aload_n 0, 1, (0, 0), []),
  (.getfield 59, 3, (0, 0), [[10, 2101, 0, 1], [11]]),
  (.iload_n 1, 1, (0, 0), []),
  (.iaload, 1, (0, 0), []),
  (.iconst (-1), 1, ((-1), 0), []),
  (.if_icmp .ne 6, 3, (0, 0), [[32]]),
  (.bipush (-11), 2, ((-11), 0), []),
  (.ireturn, 1, (0, 0), [])]
def qX11_adds_32 : List mO := [(.aload_n 0, 1, (0, 0), []),
  (.getfield 59, 3, (0, 0), [[10, 2101, 0, 1], [11]]),
  (.iload_n 1, 1, (0, 0), []),
  (.iaload, 1, (0, 0), []),
  (.ifCond .eq 6, 3, (0, 0), [[44]]),
  (.bipush (-13), 2, ((-13), 0), []),
  (.ireturn, 1, (0, 0), [])]
def qX11_adds_44 : List mO := [(.iconst 0, 1, (0, 0), []),
  (.istore 4, 2, (0, 0), []),
  (.iconst 0, 1, (0, 0), []),
  (.istore 5, 2, (0, 0), [])]
def qX11_adds_50 : List mO := [(.iload 5, 2, (0, 0), []),
  (.iload_n 3, 1, (0, 0), []),
  (.if_icmp .ge 49, 3, (0, 0), [[102]]),
  (.aload_n 0, 1, (0, 0), []),
  (.iload_n 1, 1, (0, 0), []),
  (.iload_n 2, 1, (0, 0), []),
  (.iload 5, 2, (0, 0), []),
  (.iadd, 1, (0, 0), []),
  (.invokevirtual 317, 3, (0, 0), [[2, 4198, 0], [11, 148, 39, 4200]])]
def qX11_adds_65 : List mO := [(.ifCond .ne 6, 3, (0, 0), [[71]]),
  (.bipush (-12), 2, ((-12), 0), []),
  (.ireturn, 1, (0, 0), [])]
def qX11_adds_71 : List mO := [(.aload_n 0, 1, (0, 0), []),
  (.iload 5, 2, (0, 0), []),
  (.iconst 1, 1, (1, 0), []),
  (.aload_n 0, 1, (0, 0), []),
  (.getfield 65, 3, (0, 0), [[12, 2103, 0, 1], [11]]),
  (.iload_n 1, 1, (0, 0), []),
  (.aaload, 1, (0, 0), [])]
def qX11_adds_81 : List mO := [(.iload_n 2, 1, (0, 0), []),
  (.iload 5, 2, (0, 0), []),
  (.iadd, 1, (0, 0), []),
  (.iaload, 1, (0, 0), []),
  (.invokevirtual 323, 3, (0, 0), [[3, 4213, 0], [11, 82, 2196, 2195]])]
def qX11_adds_89 : List mO := [(.iconst (-1), 1, ((-1), 0), []),
  (.if_icmp .eq 6, 3, (0, 0), [[96]]),
  (.iinc 4 1, 3, (1, 0), [])]
def qX11_adds_96 : List mO := [(.iinc 5 1, 3, (1, 0), []),
  (.goto (-49), 3, (0, 0), [[50]])]
def qX11_adds_102 : List mO := [(.iload 4, 2, (0, 0), []),
  (.ireturn, 1, (0, 0), [])]
def pX11_adds : List (Nat × List mO) := [(0, qX11_adds_0), (4, qX11_adds_4), (17, qX11_adds_17), (19, qX11_adds_19), (32, qX11_adds_32), (44, qX11_adds_44), (50, qX11_adds_50), (65, qX11_adds_65), (71, qX11_adds_71), (81, qX11_adds_81), (89, qX11_adds_89), (96, qX11_adds_96), (102, qX11_adds_102)]
def qX11_shelf_0 : List mO := [(.iload_n 1, 1, (0, 0), []),
  (.invokestatic 326, 3, (0, 0), [[1, 150, 4218, 4219, 0]])]
def qX11_shelf_4 : List mO := [(.ifCond .ne 5, 3, (0, 0), [[9]]),
  (.iconst (-1), 1, ((-1), 0), []),
  (.ireturn, 1, (0, 0), [])]
def qX11_shelf_9 : List mO := [(.iload_n 2, 1, (0, 0), []),
  (.tableswitch 120 0 2 #[26, 55, 111], 26, (0, 0), [[130], [0, 36], [1, 65], [2, 121]])]
def qX11_shelf_36 : List mO := [(.aload_n 0, 1, (0, 0), []),
  (.getfield 10, 3, (0, 0), [[0, 2091, 0, 1], [11]]),
  (.iload_n 3, 1, (0, 0), []),
  (.invokevirtual 137, 3, (0, 0), [[1, 2160, 0], [9, 68, 2162, 2161]])]
def qX11_shelf_44 : List mO := [(.ifCond .ne 5, 3, (0, 0), [[49]]),
  (.iconst (-1), 1, ((-1), 0), []),
  (.ireturn, 1, (0, 0), [])]
def qX11_shelf_49 : List mO := [(.aload_n 0, 1, (0, 0), []),
  (.getfield 68, 3, (0, 0), [[13, 2104, 0, 1], [11]]),
  (.iload_n 1, 1, (0, 0), []),
  (.iconst 0, 1, (0, 0), []),
  (.iastore, 1, (0, 0), []),
  (.aload_n 0, 1, (0, 0), []),
  (.getfield 71, 3, (0, 0), [[14, 2105, 0, 1], [11]]),
  (.iload_n 1, 1, (0, 0), []),
  (.iload_n 3, 1, (0, 0), []),
  (.iastore, 1, (0, 0), []),
  (.iconst 1, 1, (1, 0), []),
  (.ireturn, 1, (0, 0), [])]
def qX11_shelf_65 : List mO := [(.iload_n 3, 1, (0, 0), []),
  (.invokestatic 311, 3, (0, 0), [[1, 146, 4188, 4189, 0]])]
def qX11_shelf_69 : List mO := [(.ifCond .ne 5, 3, (0, 0), [[74]]),
  (.iconst (-1), 1, ((-1), 0), []),
  (.ireturn, 1, (0, 0), [])]
def qX11_shelf_74 : List mO := [(.aload_n 0, 1, (0, 0), []),
  (.getfield 68, 3, (0, 0), [[13, 2104, 0, 1], [11]]),
  (.iload_n 1, 1, (0, 0), []),
  (.aload_n 0, 1, (0, 0), []),
  (.getfield 59, 3, (0, 0), [[10, 2101, 0, 1], [11]]),
  (.iload_n 3, 1, (0, 0), []),
  (.iaload, 1, (0, 0), []),
  (.iconst (-1), 1, ((-1), 0), []),
  (.if_icmp .ne 7, 3, (0, 0), [[93]]),
  (.iconst 2, 1, (2, 0), []),
  (.goto 4, 3, (0, 0), [[94]])]
def qX11_shelf_93 : List mO := [(.iconst 1, 1, (1, 0), [])]
def qX11_shelf_94 : List mO := [(.iastore, 1, (0, 0), []),
  (.aload_n 0, 1, (0, 0), []),
  (.getfield 71, 3, (0, 0), [[14, 2105, 0, 1], [11]]),
  (.iload_n 1, 1, (0, 0), []),
  (.aload_n 0, 1, (0, 0), []),
  (.getfield 59, 3, (0, 0), [[10, 2101, 0, 1], [11]]),
  (.iload_n 3, 1, (0, 0), []),
  (.iaload, 1, (0, 0), []),
  (.iastore, 1, (0, 0), []),
  (.aload_n 0, 1, (0, 0), []),
  (.getfield 74, 3, (0, 0), [[15, 2106, 0, 1], [11]]),
  (.iload_n 1, 1, (0, 0), []),
  (.aload_n 0, 1, (0, 0), []),
  (.getfield 62, 3, (0, 0), [[11, 2102, 0, 1], [11]]),
  (.iload_n 3, 1, (0, 0), []),
  (.iaload, 1, (0, 0), []),
  (.iastore, 1, (0, 0), []),
  (.iconst 1, 1, (1, 0), []),
  (.ireturn, 1, (0, 0), [])]
def qX11_shelf_121 : List mO := [(.aload_n 0, 1, (0, 0), []),
  (.getfield 68, 3, (0, 0), [[13, 2104, 0, 1], [11]]),
  (.iload_n 1, 1, (0, 0), []),
  (.iconst 2, 1, (2, 0), []),
  (.iastore, 1, (0, 0), []),
  (.iconst 1, 1, (1, 0), []),
  (.ireturn, 1, (0, 0), [])]
def qX11_shelf_130 : List mO := [(.iconst (-1), 1, ((-1), 0), []),
  (.ireturn, 1, (0, 0), [])]
def pX11_shelf : List (Nat × List mO) := [(0, qX11_shelf_0), (4, qX11_shelf_4), (9, qX11_shelf_9), (36, qX11_shelf_36), (44, qX11_shelf_44), (49, qX11_shelf_49), (65, qX11_shelf_65), (69, qX11_shelf_69), (74, qX11_shelf_74), (93, qX11_shelf_93), (94, qX11_shelf_94), (121, qX11_shelf_121), (130, qX11_shelf_130)]
def qX11_taken_0 : List mO := [(.iload_n 2, 1, (0, 0), []),
  (.ifCond .lt 12, 3, (0, 0), [[13]]),
  (.iload_n 2, 1, (0, 0), []),
  (.iconst 5, 1, (5, 0), []),
  (.if_icmp .gt 7, 3, (0, 0), [[13]]),
  (.iconst 1, 1, (1, 0), []),
  (.goto 4, 3, (0, 0), [[14]])]
def qX11_taken_13 : List mO := [(.iconst 0, 1, (0, 0), [])]
def qX11_taken_14 : List mO := [(.istore_n 3, 1, (0, 0), []),
  (.iload_n 1, 1, (0, 0), []),
  (.invokestatic 326, 3, (0, 0), [[1, 150, 4218, 4219, 0]])]
def qX11_taken_19 : List mO := [(.ifCond .eq 17, 3, (0, 0), [[36]]),
  (.iload_n 3, 1, (0, 0), []),
  (.ifCond .ne 15, 3, (0, 0), [[38]]),
  (.iload_n 2, 1, (0, 0), []),
  (.bipush 10, 2, (10, 0), []),
  (.isub, 1, (0, 0), []),
  (.invokestatic 314, 3, (0, 0), [[1, 147, 4191, 4192, 0]])]
def qX11_taken_33 : List mO := [(.ifCond .ne 5, 3, (0, 0), [[38]])]
def qX11_taken_36 : List mO := [(.iconst (-1), 1, ((-1), 0), []),
  (.ireturn, 1, (0, 0), [])]
def qX11_taken_38 : List mO := [(.aload_n 0, 1, (0, 0), []),
  (.getfield 71, 3, (0, 0), [[14, 2105, 0, 1], [11]]),
  (.iload_n 1, 1, (0, 0), []),
  (.iaload, 1, (0, 0), []),
  (.istore 4, 2, (0, 0), []),
  (.aload_n 0, 1, (0, 0), []),
  (.iload_n 1, 1, (0, 0), []),
  (.invokevirtual 329, 3, (0, 0), [[1, 4225, 0], [11, 151, 40, 4227]])]
def qX11_taken_51 : List mO := [(.ifCond .eq 32, 3, (0, 0), [[83]]),
  (.iload_n 3, 1, (0, 0), []),
  (.ifCond .eq 25, 3, (0, 0), [[80]]),
  (.aload_n 0, 1, (0, 0), []),
  (.getfield 10, 3, (0, 0), [[0, 2091, 0, 1], [11]]),
  (.getfield 119, 3, (0, 0), [[1, 1076, 0, 1], [9]]),
  (.iload 4, 2, (0, 0), []),
  (.iaload, 1, (0, 0), []),
  (.iload_n 2, 1, (0, 0), []),
  (.invokestatic 332, 3, (0, 0), [[2, 90, 4229, 2173, 0]])]
def qX11_taken_72 : List mO := [(.ifCond .eq 8, 3, (0, 0), [[80]]),
  (.iload 4, 2, (0, 0), []),
  (.goto 5, 3, (0, 0), [[82]])]
def qX11_taken_80 : List mO := [(.bipush (-13), 2, ((-13), 0), [])]
def qX11_taken_82 : List mO := [(.ireturn, 1, (0, 0), [])]
def qX11_taken_83 : List mO := [(.aload_n 0, 1, (0, 0), []),
  (.getfield 68, 3, (0, 0), [[13, 2104, 0, 1], [11]]),
  (.iload_n 1, 1, (0, 0), []),
  (.iaload, 1, (0, 0), []),
  (.iconst 1, 1, (1, 0), []),
  (.if_icmp .ne 24, 3, (0, 0), [[114]]),
  (.iload 4, 2, (0, 0), []),
  (.iload_n 2, 1, (0, 0), []),
  (.bipush 10, 2, (10, 0), []),
  (.isub, 1, (0, 0), []),
  (.if_icmp .ne 12, 3, (0, 0), [[111]]),
  (.aload_n 0, 1, (0, 0), []),
  (.getfield 74, 3, (0, 0), [[15, 2106, 0, 1], [11]]),
  (.iload_n 1, 1, (0, 0), []),
  (.iaload, 1, (0, 0), []),
  (.goto 5, 3, (0, 0), [[113]])]
def qX11_taken_111 : List mO := [(.bipush (-13), 2, ((-13), 0), [])]
def qX11_taken_113 : List mO := [(.ireturn, 1, (0, 0), [])]
def qX11_taken_114 : List mO := [(.bipush (-11), 2, ((-11), 0), []),
  (.ireturn, 1, (0, 0), [])]
def pX11_taken : List (Nat × List mO) := [(0, qX11_taken_0), (13, qX11_taken_13), (14, qX11_taken_14), (19, qX11_taken_19), (33, qX11_taken_33), (36, qX11_taken_36), (38, qX11_taken_38), (51, qX11_taken_51), (72, qX11_taken_72), (80, qX11_taken_80), (82, qX11_taken_82), (83, qX11_taken_83), (111, qX11_taken_111), (113, qX11_taken_113), (114, qX11_taken_114)]
def qX11_act_0 : List mO := [(.aload_n 0, 1, (0, 0), []),
  (.getfield 80, 3, (0, 0), [[16, 2107, 0, 1], [11]]),
  (.invokevirtual 335, 3, (0, 0), [[0, 4234, 0], [8, 65, 4236, 4235]])]
def qX11_act_7 : List mO := [(.iload_n 1, 1, (0, 0), []),
  (.invokestatic 326, 3, (0, 0), [[1, 150, 4218, 4219, 0]])]
def qX11_act_11 : List mO := [(.ifCond .eq 20, 3, (0, 0), [[31]]),
  (.iload_n 2, 1, (0, 0), []),
  (.ifCond .lt 16, 3, (0, 0), [[31]]),
  (.iload_n 2, 1, (0, 0), []),
  (.iconst 3, 1, (3, 0), []),
  (.if_icmp .gt 11, 3, (0, 0), [[31]]),
  (.aload_n 0, 1, (0, 0), []),
  (.iload_n 1, 1, (0, 0), []),
  (.invokevirtual 329, 3, (0, 0), [[1, 4225, 0], [11, 151, 40, 4227]])]
def qX11_act_28 : List mO := [(.ifCond .ne 5, 3, (0, 0), [[33]])]
def qX11_act_31 : List mO := [(.iconst 0, 1, (0, 0), []),
  (.ireturn, 1, (0, 0), [])]
def qX11_act_33 : List mO := [(.aload_n 0, 1, (0, 0), []),
  (.getfield 71, 3, (0, 0), [[14, 2105, 0, 1], [11]]),
  (.iload_n 1, 1, (0, 0), []),
  (.iaload, 1, (0, 0), []),
  (.istore 4, 2, (0, 0), []),
  (.aload_n 0, 1, (0, 0), []),
  (.getfield 104, 3, (0, 0), [[17, 2108, 0, 1], [11]]),
  (.aload_n 0, 1, (0, 0), []),
  (.getfield 10, 3, (0, 0), [[0, 2091, 0, 1], [11]]),
  (.getfield 119, 3, (0, 0), [[1, 1076, 0, 1], [9]]),
  (.iload 4, 2, (0, 0), []),
  (.iaload, 1, (0, 0), []),
  (.aaload, 1, (0, 0), [])]
def qX11_act_56 : List mO := [(.astore 5, 2, (0, 0), []),
  (.aload 5, 2, (0, 0), []),
  (.iload 4, 2, (0, 0), []),
  (.putfield 338, 3, (0, 0), [[1, 2027, 0, 0], [1, 2, 3, 4, 7, 10]]),
  (.aload 5, 2, (0, 0), []),
  (.aload_n 0, 1, (0, 0), []),
  (.getfield 10, 3, (0, 0), [[0, 2091, 0, 1], [11]]),
  (.getfield 125, 3, (0, 0), [[3, 1081, 0, 1], [9]]),
  (.iload 4, 2, (0, 0), []),
  (.iaload, 1, (0, 0), []),
  (.putfield 341, 3, (0, 0), [[2, 2033, 0, 0], [1, 2, 3, 4, 7, 10]]),
  (.iload_n 2, 1, (0, 0), []),
  (.tableswitch 60 0 2 #[27, 38, 49], 27, (0, 0), [[141], [0, 108], [1, 119], [2, 130]])]
def qX11_act_108 : List mO := [(.aload 5, 2, (0, 0), []),
  (.iload_n 3, 1, (0, 0), []),
  (.invokevirtual 344, 3, (0, 0), [[1, 4238, 1, 5001, 4239, 5020], [1, 17, 5002, 5003], [2, 75, 5012, 4239], [3, 22, 5013, 5014], [4, 75, 5018, 4239], [7, 75, 5019, 4239], [10, 75, 5000, 4239]])]
def qX11_act_114 : List mO := [(.istore 6, 2, (0, 0), []),
  (.goto 33, 3, (0, 0), [[149]])]
def qX11_act_119 : List mO := [(.aload 5, 2, (0, 0), []),
  (.iload_n 3, 1, (0, 0), []),
  (.invokevirtual 347, 3, (0, 0), [[1, 5022, 1, 5025, 5023, 5041], [1, 24, 5026, 5027], [2, 76, 5031, 5023], [3, 76, 5032, 5023], [4, 24, 5033, 5027], [7, 62, 5034, 5035], [10, 76, 5024, 5023]])]
def qX11_act_125 : List mO := [(.istore 6, 2, (0, 0), []),
  (.goto 22, 3, (0, 0), [[149]])]
def qX11_act_130 : List mO := [(.aload 5, 2, (0, 0), []),
  (.iload_n 3, 1, (0, 0), []),
  (.invokevirtual 350, 3, (0, 0), [[1, 5043, 1, 5046, 5044, 5062], [1, 77, 5047, 5044], [2, 20, 5048, 5049], [3, 77, 5053, 5044], [4, 77, 5054, 5044], [7, 63, 5055, 5056], [10, 77, 5045, 5044]])]
def qX11_act_136 : List mO := [(.istore 6, 2, (0, 0), []),
  (.goto 11, 3, (0, 0), [[149]])]
def qX11_act_141 : List mO := [(.aload 5, 2, (0, 0), []),
  (.iload_n 3, 1, (0, 0), []),
  (.invokevirtual 353, 3, (0, 0), [[1, 5063, 1, 5066, 5064, 5081], [1, 18, 5067, 5068], [2, 78, 5077, 5064], [3, 78, 5078, 5064], [4, 78, 5079, 5064], [7, 78, 5080, 5064], [10, 78, 5065, 5064]])]
def qX11_act_147 : List mO := [(.istore 6, 2, (0, 0), [])]
def qX11_act_149 : List mO := [(.aload_n 0, 1, (0, 0), []),
  (.getfield 80, 3, (0, 0), [[16, 2107, 0, 1], [11]]),
  (.getfield 356, 3, (0, 0), [[2, 1238, 0, 0], [8]]),
  (.ifCond .eq 8, 3, (0, 0), [[164]]),
  (.bipush (-15), 2, ((-15), 0), []),
  (.goto 5, 3, (0, 0), [[166]])]
def qX11_act_164 : List mO := [(.iload 6, 2, (0, 0), [])]
def qX11_act_166 : List mO := [(.ireturn, 1, (0, 0), [])]
def pX11_act : List (Nat × List mO) := [(0, qX11_act_0), (7, qX11_act_7), (11, qX11_act_11), (28, qX11_act_28), (31, qX11_act_31), (33, qX11_act_33), (56, qX11_act_56), (108, qX11_act_108), (114, qX11_act_114), (119, qX11_act_119), (125, qX11_act_125), (130, qX11_act_130), (136, qX11_act_136), (141, qX11_act_141), (147, qX11_act_147), (149, qX11_act_149), (164, qX11_act_164), (166, qX11_act_166)]
def qX11_trace_0 : List mO := [(.iload_n 1, 1, (0, 0), []),
  (.ifCond .lt 26, 3, (0, 0), [[27]]),
  (.iload_n 1, 1, (0, 0), []),
  (.aload_n 0, 1, (0, 0), []),
  (.getfield 80, 3, (0, 0), [[16, 2107, 0, 1], [11]]),
  (.getfield 359, 3, (0, 0), [[0, 1233, 0, 0], [8]]),
  (.if_icmp .ge 15, 3, (0, 0), [[27]]),
  (.aload_n 0, 1, (0, 0), []),
  (.getfield 80, 3, (0, 0), [[16, 2107, 0, 1], [11]]),
  (.getfield 360, 3, (0, 0), [[1, 1235, 0, 1], [8]]),
  (.iload_n 1, 1, (0, 0), []),
  (.iaload, 1, (0, 0), []),
  (.goto 5, 3, (0, 0), [[29]])]
def qX11_trace_27 : List mO := [(.bipush (-3), 2, ((-3), 0), [])]
def qX11_trace_29 : List mO := [(.ireturn, 1, (0, 0), [])]
def pX11_trace : List (Nat × List mO) := [(0, qX11_trace_0), (27, qX11_trace_27), (29, qX11_trace_29)]
def qX11_many_0 : List mO := [(.iload_n 1, 1, (0, 0), []),
  (.tableswitch 99 0 6 #[43, 51, 62, 70, 75, 83, 91], 43, (0, 0), [[100], [0, 44], [1, 52], [2, 63], [3, 71], [4, 76], [5, 84], [6, 92]])]
def qX11_many_44 : List mO := [(.aload_n 0, 1, (0, 0), []),
  (.getfield 10, 3, (0, 0), [[0, 2091, 0, 1], [11]]),
  (.getfield 116, 3, (0, 0), [[0, 1074, 0, 0], [9]]),
  (.ireturn, 1, (0, 0), [])]
def qX11_many_52 : List mO := [(.aload_n 0, 1, (0, 0), []),
  (.getfield 10, 3, (0, 0), [[0, 2091, 0, 1], [11]]),
  (.getfield 151, 3, (0, 0), [[10, 1098, 0, 1], [9]]),
  (.getfield 188, 3, (0, 0), [[0, 1044, 0, 0], [5]]),
  (.ireturn, 1, (0, 0), [])]
def qX11_many_63 : List mO := [(.aload_n 0, 1, (0, 0), []),
  (.getfield 10, 3, (0, 0), [[0, 2091, 0, 1], [11]]),
  (.getfield 293, 3, (0, 0), [[11, 1100, 0, 0], [9]]),
  (.ireturn, 1, (0, 0), [])]
def qX11_many_71 : List mO := [(.aload_n 0, 1, (0, 0), []),
  (.getfield 50, 3, (0, 0), [[8, 2099, 0, 0], [11]]),
  (.ireturn, 1, (0, 0), [])]
def qX11_many_76 : List mO := [(.aload_n 0, 1, (0, 0), []),
  (.getfield 10, 3, (0, 0), [[0, 2091, 0, 1], [11]]),
  (.invokevirtual 209, 3, (0, 0), [[0, 3228, 0], [9, 69, 3230, 3229]])]
def qX11_many_83 : List mO := [(.ireturn, 1, (0, 0), [])]
def qX11_many_84 : List mO := [(.aload_n 0, 1, (0, 0), []),
  (.getfield 26, 3, (0, 0), [[3, 2094, 0, 1], [11]]),
  (.getfield 170, 3, (0, 0), [[0, 1146, 0, 0], [6]]),
  (.ireturn, 1, (0, 0), [])]
def qX11_many_92 : List mO := [(.aload_n 0, 1, (0, 0), []),
  (.getfield 80, 3, (0, 0), [[16, 2107, 0, 1], [11]]),
  (.getfield 359, 3, (0, 0), [[0, 1233, 0, 0], [8]]),
  (.ireturn, 1, (0, 0), [])]
def qX11_many_100 : List mO := [(.iconst (-1), 1, ((-1), 0), []),
  (.ireturn, 1, (0, 0), [])]
def pX11_many : List (Nat × List mO) := [(0, qX11_many_0), (44, qX11_many_44), (52, qX11_many_52), (63, qX11_many_63), (71, qX11_many_71), (76, qX11_many_76), (83, qX11_many_83), (84, qX11_many_84), (92, qX11_many_92), (100, qX11_many_100)]
def qX11_isSheet_0 : List mO := [(.iload_n 0, 1, (0, 0), []),
  (.ifCond .lt 12, 3, (0, 0), [[13]]),
  (.iload_n 0, 1, (0, 0), []),
  (.iconst 4, 1, (4, 0), []),
  (.if_icmp .ge 7, 3, (0, 0), [[13]]),
  (.iconst 1, 1, (1, 0), []),
  (.goto 4, 3, (0, 0), [[14]])]
def qX11_isSheet_13 : List mO := [(.iconst 0, 1, (0, 0), [])]
def qX11_isSheet_14 : List mO := [(.ireturn, 1, (0, 0), [[1]])]
def pX11_isSheet : List (Nat × List mO) := [(0, qX11_isSheet_0), (13, qX11_isSheet_13), (14, qX11_isSheet_14)]
def qX11_isSort_0 : List mO := [(.iload_n 0, 1, (0, 0), []),
  (.ifCond .lt 12, 3, (0, 0), [[13]]),
  (.iload_n 0, 1, (0, 0), []),
  (.iconst 4, 1, (4, 0), []),
  (.if_icmp .gt 7, 3, (0, 0), [[13]]),
  (.iconst 1, 1, (1, 0), []),
  (.goto 4, 3, (0, 0), [[14]])]
def qX11_isSort_13 : List mO := [(.iconst 0, 1, (0, 0), [])]
def qX11_isSort_14 : List mO := [(.ireturn, 1, (0, 0), [[1]])]
def pX11_isSort : List (Nat × List mO) := [(0, qX11_isSort_0), (13, qX11_isSort_13), (14, qX11_isSort_14)]
def qX11_isItem_0 : List mO := [(.iload_n 2, 1, (0, 0), []),
  (.ifCond .lt 17, 3, (0, 0), [[18]]),
  (.iload_n 2, 1, (0, 0), []),
  (.aload_n 0, 1, (0, 0), []),
  (.getfield 62, 3, (0, 0), [[11, 2102, 0, 1], [11]]),
  (.iload_n 1, 1, (0, 0), []),
  (.iaload, 1, (0, 0), []),
  (.if_icmp .ge 7, 3, (0, 0), [[18]]),
  (.iconst 1, 1, (1, 0), []),
  (.goto 4, 3, (0, 0), [[19]])]
def qX11_isItem_18 : List mO := [(.iconst 0, 1, (0, 0), [])]
def qX11_isItem_19 : List mO := [(.ireturn, 1, (0, 0), [[1]])]
def pX11_isItem : List (Nat × List mO) := [(0, qX11_isItem_0), (18, qX11_isItem_18), (19, qX11_isItem_19)]
def qX11_narrowed_0 : List mO := [(.iload_n 0, 1, (0, 0), []),
  (.tableswitch 51 0 4 #[35, 38, 51, 51, 41], 35, (0, 0), [[52], [0, 36], [1, 39], [2, 52], [3, 52], [4, 42]])]
def qX11_narrowed_36 : List mO := [(.iload_n 1, 1, (0, 0), []),
  (.i2b, 1, (0, 0), []),
  (.ireturn, 1, (0, 0), [])]
def qX11_narrowed_39 : List mO := [(.iload_n 1, 1, (0, 0), []),
  (.i2s, 1, (0, 0), []),
  (.ireturn, 1, (0, 0), [])]
def qX11_narrowed_42 : List mO := [(.iload_n 1, 1, (0, 0), []),
  (.ifCond .eq 7, 3, (0, 0), [[50]]),
  (.iconst 1, 1, (1, 0), []),
  (.goto 4, 3, (0, 0), [[51]])]
def qX11_narrowed_50 : List mO := [(.iconst 0, 1, (0, 0), [])]
def qX11_narrowed_51 : List mO := [(.ireturn, 1, (0, 0), [])]
def qX11_narrowed_52 : List mO := [(.iload_n 1, 1, (0, 0), []),
  (.ireturn, 1, (0, 0), [])]
def pX11_narrowed : List (Nat × List mO) := [(0, qX11_narrowed_0), (36, qX11_narrowed_36), (39, qX11_narrowed_39), (42, qX11_narrowed_42), (50, qX11_narrowed_50), (51, qX11_narrowed_51), (52, qX11_narrowed_52)]
def qX11_isShelf_0 : List mO := [(.iload_n 0, 1, (0, 0), []),
  (.ifCond .lt 12, 3, (0, 0), [[13]]),
  (.iload_n 0, 1, (0, 0), []),
  (.iconst 4, 1, (4, 0), []),
  (.if_icmp .ge 7, 3, (0, 0), [[13]]),
  (.iconst 1, 1, (1, 0), []),
  (.goto 4, 3, (0, 0), [[14]])]
def qX11_isShelf_13 : List mO := [(.iconst 0, 1, (0, 0), [])]
def qX11_isShelf_14 : List mO := [(.ireturn, 1, (0, 0), [[1]])]
def pX11_isShelf : List (Nat × List mO) := [(0, qX11_isShelf_0), (13, qX11_isShelf_13), (14, qX11_isShelf_14)]
def qX11_isTowerOnShelf_0 : List mO := [(.aload_n 0, 1, (0, 0), []),
  (.getfield 68, 3, (0, 0), [[13, 2104, 0, 1], [11]]),
  (.iload_n 1, 1, (0, 0), []),
  (.iaload, 1, (0, 0), []),
  (.ifCond .ne 23, 3, (0, 0), [[29]]),
  (.aload_n 0, 1, (0, 0), []),
  (.getfield 10, 3, (0, 0), [[0, 2091, 0, 1], [11]]),
  (.aload_n 0, 1, (0, 0), []),
  (.getfield 71, 3, (0, 0), [[14, 2105, 0, 1], [11]]),
  (.iload_n 1, 1, (0, 0), []),
  (.iaload, 1, (0, 0), []),
  (.invokevirtual 137, 3, (0, 0), [[1, 2160, 0], [9, 68, 2162, 2161]])]
def qX11_isTowerOnShelf_22 : List mO := [(.ifCond .eq 7, 3, (0, 0), [[29]]),
  (.iconst 1, 1, (1, 0), []),
  (.goto 4, 3, (0, 0), [[30]])]
def qX11_isTowerOnShelf_29 : List mO := [(.iconst 0, 1, (0, 0), [])]
def qX11_isTowerOnShelf_30 : List mO := [(.ireturn, 1, (0, 0), [[1]])]
def pX11_isTowerOnShelf : List (Nat × List mO) := [(0, qX11_isTowerOnShelf_0), (22, qX11_isTowerOnShelf_22), (29, qX11_isTowerOnShelf_29), (30, qX11_isTowerOnShelf_30)]
def qX11_keep_0 : List mO := [(.aload_n 0, 1, (0, 0), []),
  (.getfield 16, 3, (0, 0), [[1, 2092, 0, 1], [11]]),
  (.aload_n 0, 1, (0, 0), []),
  (.getfield 10, 3, (0, 0), [[0, 2091, 0, 1], [11]]),
  (.invokevirtual 363, 3, (0, 0), [[1, 5095, 0], [9, 73, 5097, 5096]])]
def qX11_keep_11 : List mO := [(.aload_n 0, 1, (0, 0), []),
  (.iconst 1, 1, (1, 0), []),
  (.putfield 19, 3, (0, 0), [[2, 2093, 0, 0], [11]]),
  (.iconst 1, 1, (1, 0), []),
  (.ireturn, 1, (0, 0), [])]
def pX11_keep : List (Nat × List mO) := [(0, qX11_keep_0), (11, qX11_keep_11)]
def qX11_again_0 : List mO := [(.aload_n 0, 1, (0, 0), []),
  (.getfield 19, 3, (0, 0), [[2, 2093, 0, 0], [11]]),
  (.ifCond .ne 6, 3, (0, 0), [[10]]),
  (.bipush (-3), 2, ((-3), 0), []),
  (.ireturn, 1, (0, 0), [])]
def qX11_again_10 : List mO := [(.aload_n 0, 1, (0, 0), []),
  (.getfield 10, 3, (0, 0), [[0, 2091, 0, 1], [11]]),
  (.aload_n 0, 1, (0, 0), []),
  (.getfield 16, 3, (0, 0), [[1, 2092, 0, 1], [11]]),
  (.invokevirtual 363, 3, (0, 0), [[1, 5095, 0], [9, 73, 5097, 5096]])]
def qX11_again_21 : List mO := [(.aload_n 0, 1, (0, 0), []),
  (.getfield 10, 3, (0, 0), [[0, 2091, 0, 1], [11]]),
  (.getfield 116, 3, (0, 0), [[0, 1074, 0, 0], [9]]),
  (.ireturn, 1, (0, 0), [])]
def pX11_again : List (Nat × List mO) := [(0, qX11_again_0), (10, qX11_again_10), (21, qX11_again_21)]
def qX12_init_0 : List mO := [(.aload_n 0, 1, (0, 0), []),
  (.invokespecial 1, 3, (0, 0), [[0, 999, 5110, 1028, 1029]]),
  (.aload_n 0, 1, (0, 0), []),
  (.sipush 310, 3, (310, 0), []),
  (.newarray .int, 2, (0, 0), [[1071]]),
  (.putfield 7, 3, (0, 0), [[0, 5111, 0, 1], [12]]),
  (.aload_n 0, 1, (0, 0), []),
  (.sipush 310, 3, (310, 0), []),
  (.newarray .int, 2, (0, 0), [[1071]]),
  (.putfield 13, 3, (0, 0), [[1, 5112, 0, 1], [12]]),
  (.aload_n 0, 1, (0, 0), []),
  (.sipush 310, 3, (310, 0), []),
  (.newarray .int, 2, (0, 0), [[1071]]),
  (.putfield 16, 3, (0, 0), [[2, 5113, 0, 1], [12]]),
  (.aload_n 0, 1, (0, 0), []),
  (.sipush 200, 3, (200, 0), []),
  (.newarray .int, 2, (0, 0), [[1071]]),
  (.putfield 19, 3, (0, 0), [[4, 5115, 0, 1], [12]]),
  (.aload_n 0, 1, (0, 0), []),
  (.bipush 9, 2, (9, 0), []),
  (.newarray .int, 2, (0, 0), [[1071]]),
  (.putfield 22, 3, (0, 0), [[7, 5118, 0, 1], [12]]),
  (.aload_n 0, 1, (0, 0), []),
  (.bipush 9, 2, (9, 0), []),
  (.newarray .int, 2, (0, 0), [[1071]]),
  (.putfield 25, 3, (0, 0), [[8, 5119, 0, 1], [12]]),
  (.aload_n 0, 1, (0, 0), []),
  (.bipush 9, 2, (9, 0), []),
  (.newarray .int, 2, (0, 0), [[1071]]),
  (.putfield 28, 3, (0, 0), [[9, 5120, 0, 1], [12]]),
  (.aload_n 0, 1, (0, 0), []),
  (.bipush 27, 2, (27, 0), []),
  (.newarray .int, 2, (0, 0), [[1071]]),
  (.putfield 31, 3, (0, 0), [[14, 5125, 0, 1], [12]]),
  (.aload_n 0, 1, (0, 0), []),
  (.sipush 200, 3, (200, 0), []),
  (.newarray .int, 2, (0, 0), [[1071]]),
  (.putfield 34, 3, (0, 0), [[16, 5127, 0, 1], [12]]),
  (.aload_n 0, 1, (0, 0), []),
  (.iconst 4, 1, (4, 0), []),
  (.newarray .int, 2, (0, 0), [[1071]]),
  (.putfield 37, 3, (0, 0), [[24, 5135, 0, 1], [12]]),
  (.aload_n 0, 1, (0, 0), []),
  (.iconst 4, 1, (4, 0), []),
  (.newarray .int, 2, (0, 0), [[1071]]),
  (.putfield 40, 3, (0, 0), [[25, 5136, 0, 1], [12]]),
  (.aload_n 0, 1, (0, 0), []),
  (.sipush 160, 3, (160, 0), []),
  (.newarray .int, 2, (0, 0), [[1071]]),
  (.putfield 43, 3, (0, 0), [[26, 5137, 0, 1], [12]]),
  (.aload_n 0, 1, (0, 0), []),
  (.iconst 4, 1, (4, 0), []),
  (.newarray .int, 2, (0, 0), [[1071]]),
  (.putfield 46, 3, (0, 0), [[27, 5138, 0, 1], [12]]),
  (.aload_n 0, 1, (0, 0), []),
  (.iconst 4, 1, (4, 0), []),
  (.newarray .int, 2, (0, 0), [[1071]]),
  (.putfield 49, 3, (0, 0), [[28, 5139, 0, 1], [12]]),
  (.aload_n 0, 1, (0, 0), []),
  (.iconst 4, 1, (4, 0), []),
  (.newarray .int, 2, (0, 0), [[1071]]),
  (.putfield 52, 3, (0, 0), [[29, 5140, 0, 1], [12]]),
  (.aload_n 0, 1, (0, 0), []),
  (.bipush 30, 2, (30, 0), []),
  (.newarray .int, 2, (0, 0), [[1071]]),
  (.putfield 55, 3, (0, 0), [[30, 5141, 0, 1], [12]]),
  (.aload_n 0, 1, (0, 0), []),
  (.getfield 7, 3, (0, 0), [[0, 5111, 0, 1], [12]]),
  (.iconst 3, 1, (3, 0), []),
  (.iconst 1, 1, (1, 0), []),
  (.iastore, 1, (0, 0), []),
  (.iconst 0, 1, (0, 0), []),
  (.istore_n 1, 1, (0, 0), [])]
def qX12_init_142 : List mO := [(.iload_n 1, 1, (0, 0), []),
  (.iconst 4, 1, (4, 0), []),
  (.if_icmp .ge 16, 3, (0, 0), [[160]]),
  (.aload_n 0, 1, (0, 0), []),
  (.getfield 37, 3, (0, 0), [[24, 5135, 0, 1], [12]]),
  (.iload_n 1, 1, (0, 0), []),
  (.iconst (-1), 1, ((-1), 0), []),
  (.iastore, 1, (0, 0), []),
  (.iinc 1 1, 3, (1, 0), []),
  (.goto (-15), 3, (0, 0), [[142]])]
def qX12_init_160 : List mO := [(.return_, 1, (0, 0), [])]
def pX12_init : List (Nat × List mO) := [(0, qX12_init_0), (142, qX12_init_142), (160, qX12_init_160)]
def qX12_in_0 : List mO := [(.lload_n 0, 1, (0, 0), []),
  (.lload_n 2, 1, (0, 0), []),
  (.lcmp, 1, (0, 0), []),
  (.ifCond .lt 14, 3, (0, 0), [[17]]),
  (.lload_n 0, 1, (0, 0), []),
  (.lload 4, 2, (0, 0), []),
  (.lcmp, 1, (0, 0), []),
  (.ifCond .gt 7, 3, (0, 0), [[17]]),
  (.iconst 1, 1, (1, 0), []),
  (.goto 4, 3, (0, 0), [[18]])]
def qX12_in_17 : List mO := [(.iconst 0, 1, (0, 0), [])]
def qX12_in_18 : List mO := [(.ireturn, 1, (0, 0), [[1]])]
def pX12_in : List (Nat × List mO) := [(0, qX12_in_0), (17, qX12_in_17), (18, qX12_in_18)]
def qX12_isTower_0 : List mO := [(.iload_n 1, 1, (0, 0), []),
  (.i2l, 1, (0, 0), []),
  (.lconst 0, 1, (0, 0), []),
  (.aload_n 0, 1, (0, 0), []),
  (.getfield 7, 3, (0, 0), [[0, 5111, 0, 1], [12]]),
  (.iconst 0, 1, (0, 0), []),
  (.iaload, 1, (0, 0), []),
  (.iconst 1, 1, (1, 0), []),
  (.isub, 1, (0, 0), []),
  (.i2l, 1, (0, 0), []),
  (.invokestatic 58, 3, (0, 0), [[3, 155, 5225, 5226, 0]])]
def qX12_isTower_15 : List mO := [(.ireturn, 1, (0, 0), [[1]])]
def pX12_isTower : List (Nat × List mO) := [(0, qX12_isTower_0), (15, qX12_isTower_15)]
def qX12_isDay_0 : List mO := [(.iload_n 0, 1, (0, 0), []),
  (.i2l, 1, (0, 0), []),
  (.lconst 0, 1, (0, 0), []),
  (.ldc2_w 62, 3, (0, 6), [[6043]]),
  (.invokestatic 58, 3, (0, 0), [[3, 155, 5225, 5226, 0]])]
def qX12_isDay_9 : List mO := [(.ireturn, 1, (0, 0), [[1]])]
def pX12_isDay : List (Nat × List mO) := [(0, qX12_isDay_0), (9, qX12_isDay_9)]
def qX12_isTime_0 : List mO := [(.iload_n 0, 1, (0, 0), []),
  (.i2l, 1, (0, 0), []),
  (.lconst 0, 1, (0, 0), []),
  (.ldc2_w 64, 3, (0, 1439), [[6061]]),
  (.invokestatic 58, 3, (0, 0), [[3, 155, 5225, 5226, 0]])]
def qX12_isTime_9 : List mO := [(.ireturn, 1, (0, 0), [[1]])]
def pX12_isTime : List (Nat × List mO) := [(0, qX12_isTime_0), (9, qX12_isTime_9)]
def qX12_has_0 : List mO := [(.iload_n 0, 1, (0, 0), []),
  (.iload_n 1, 1, (0, 0), []),
  (.ishr, 1, (0, 0), []),
  (.iconst 1, 1, (1, 0), []),
  (.iand, 1, (0, 0), []),
  (.iconst 1, 1, (1, 0), []),
  (.if_icmp .ne 7, 3, (0, 0), [[13]]),
  (.iconst 1, 1, (1, 0), []),
  (.goto 4, 3, (0, 0), [[14]])]
def qX12_has_13 : List mO := [(.iconst 0, 1, (0, 0), [])]
def qX12_has_14 : List mO := [(.ireturn, 1, (0, 0), [[1]])]
def pX12_has : List (Nat × List mO) := [(0, qX12_has_0), (13, qX12_has_13), (14, qX12_has_14)]
def qX12_size_0 : List mO := [(.iload_n 0, 1, (0, 0), []),
  (.ifCond .ge 9, 3, (0, 0), [[10]]),
  (.iconst 0, 1, (0, 0), []),
  (.iload_n 0, 1, (0, 0), []),
  (.isub, 1, (0, 0), []),
  (.goto 4, 3, (0, 0), [[11]])]
def qX12_size_10 : List mO := [(.iload_n 0, 1, (0, 0), [])]
def qX12_size_11 : List mO := [(.ireturn, 1, (0, 0), [])]
def pX12_size : List (Nat × List mO) := [(0, qX12_size_0), (10, qX12_size_10), (11, qX12_size_11)]
def qX12_puts_0 : List mO := [(.iconst 0, 1, (0, 0), []),
  (.istore_n 1, 1, (0, 0), [])]
def qX12_puts_2 : List mO := [(.iload_n 1, 1, (0, 0), []),
  (.sipush 310, 3, (310, 0), []),
  (.if_icmp .ge 21, 3, (0, 0), [[27]]),
  (.aload_n 0, 1, (0, 0), []),
  (.getfield 16, 3, (0, 0), [[2, 5113, 0, 1], [12]]),
  (.iload_n 1, 1, (0, 0), []),
  (.aload_n 0, 1, (0, 0), []),
  (.getfield 7, 3, (0, 0), [[0, 5111, 0, 1], [12]]),
  (.iload_n 1, 1, (0, 0), []),
  (.iaload, 1, (0, 0), []),
  (.iastore, 1, (0, 0), []),
  (.iinc 1 1, 3, (1, 0), []),
  (.goto (-22), 3, (0, 0), [[2]])]
def qX12_puts_27 : List mO := [(.return_, 1, (0, 0), [])]
def pX12_puts : List (Nat × List mO) := [(0, qX12_puts_0), (2, qX12_puts_2), (27, qX12_puts_27)]
def qX12_putsBack_0 : List mO := [(.iconst 0, 1, (0, 0), []),
  (.istore_n 1, 1, (0, 0), [])]
def qX12_putsBack_2 : List mO := [(.iload_n 1, 1, (0, 0), []),
  (.sipush 310, 3, (310, 0), []),
  (.if_icmp .ge 21, 3, (0, 0), [[27]]),
  (.aload_n 0, 1, (0, 0), []),
  (.getfield 7, 3, (0, 0), [[0, 5111, 0, 1], [12]]),
  (.iload_n 1, 1, (0, 0), []),
  (.aload_n 0, 1, (0, 0), []),
  (.getfield 16, 3, (0, 0), [[2, 5113, 0, 1], [12]]),
  (.iload_n 1, 1, (0, 0), []),
  (.iaload, 1, (0, 0), []),
  (.iastore, 1, (0, 0), []),
  (.iinc 1 1, 3, (1, 0), []),
  (.goto (-22), 3, (0, 0), [[2]])]
def qX12_putsBack_27 : List mO := [(.return_, 1, (0, 0), [])]
def pX12_putsBack : List (Nat × List mO) := [(0, qX12_putsBack_0), (2, qX12_putsBack_2), (27, qX12_putsBack_27)]
def qX12_at_0 : List mO := [(.bipush 12, 2, (12, 0), []),
  (.bipush 6, 2, (6, 0), []),
  (.iload_n 0, 1, (0, 0), []),
  (.imul, 1, (0, 0), []),
  (.iadd, 1, (0, 0), []),
  (.iload_n 1, 1, (0, 0), []),
  (.iadd, 1, (0, 0), []),
  (.ireturn, 1, (0, 0), [])]
def pX12_at : List (Nat × List mO) := [(0, qX12_at_0)]
def qX12_its_0 : List mO := [(.aload_n 0, 1, (0, 0), []),
  (.getfield 7, 3, (0, 0), [[0, 5111, 0, 1], [12]]),
  (.iload_n 1, 1, (0, 0), []),
  (.iload_n 2, 1, (0, 0), []),
  (.invokestatic 66, 3, (0, 0), [[2, 163, 5234, 5235, 0]])]
def qX12_its_9 : List mO := [(.iaload, 1, (0, 0), []),
  (.ireturn, 1, (0, 0), [])]
def pX12_its : List (Nat × List mO) := [(0, qX12_its_0), (9, qX12_its_9)]
def qX12_isPart_0 : List mO := [(.iload_n 0, 1, (0, 0), []),
  (.lookupswitch 47 #[(1, 27), (2, 37)], 27, (0, 0), [[48], [1, 28], [2, 38]])]
def qX12_isPart_28 : List mO := [(.iload_n 1, 1, (0, 0), []),
  (.i2l, 1, (0, 0), []),
  (.lconst 0, 1, (0, 0), []),
  (.ldc2_w 70, 3, (0, 99), [[5231]]),
  (.invokestatic 58, 3, (0, 0), [[3, 155, 5225, 5226, 0]])]
def qX12_isPart_37 : List mO := [(.ireturn, 1, (0, 0), [[1]])]
def qX12_isPart_38 : List mO := [(.iload_n 1, 1, (0, 0), []),
  (.i2l, 1, (0, 0), []),
  (.lconst 0, 1, (0, 0), []),
  (.ldc2_w 72, 3, (0, 9), [[5232]]),
  (.invokestatic 58, 3, (0, 0), [[3, 155, 5225, 5226, 0]])]
def qX12_isPart_47 : List mO := [(.ireturn, 1, (0, 0), [[1]])]
def qX12_isPart_48 : List mO := [(.iload_n 0, 1, (0, 0), []),
  (.iconst 3, 1, (3, 0), []),
  (.if_icmp .ne 19, 3, (0, 0), [[69]]),
  (.iload_n 1, 1, (0, 0), []),
  (.i2l, 1, (0, 0), []),
  (.lconst 1, 1, (0, 1), []),
  (.ldc2_w 74, 3, (0, 20), [[5233]]),
  (.invokestatic 58, 3, (0, 0), [[3, 155, 5225, 5226, 0]])]
def qX12_isPart_62 : List mO := [(.ifCond .eq 7, 3, (0, 0), [[69]]),
  (.iconst 1, 1, (1, 0), []),
  (.goto 4, 3, (0, 0), [[70]])]
def qX12_isPart_69 : List mO := [(.iconst 0, 1, (0, 0), [])]
def qX12_isPart_70 : List mO := [(.ireturn, 1, (0, 0), [[1]])]
def pX12_isPart : List (Nat × List mO) := [(0, qX12_isPart_0), (28, qX12_isPart_28), (37, qX12_isPart_37), (38, qX12_isPart_38), (47, qX12_isPart_47), (48, qX12_isPart_48), (62, qX12_isPart_62), (69, qX12_isPart_69), (70, qX12_isPart_70)]
def qX12_tower_0 : List mO := [(.iload_n 1, 1, (0, 0), []),
  (.i2l, 1, (0, 0), []),
  (.lconst 1, 1, (0, 1), []),
  (.ldc2_w 76, 3, (0, 5), [[5224]]),
  (.invokestatic 58, 3, (0, 0), [[3, 155, 5225, 5226, 0]])]
def qX12_tower_9 : List mO := [(.ifCond .eq 28, 3, (0, 0), [[37]]),
  (.iconst 1, 1, (1, 0), []),
  (.iload_n 2, 1, (0, 0), []),
  (.invokestatic 78, 3, (0, 0), [[2, 165, 5228, 5229, 0]])]
def qX12_tower_17 : List mO := [(.ifCond .eq 20, 3, (0, 0), [[37]]),
  (.iconst 2, 1, (2, 0), []),
  (.iload_n 3, 1, (0, 0), []),
  (.invokestatic 78, 3, (0, 0), [[2, 165, 5228, 5229, 0]])]
def qX12_tower_25 : List mO := [(.ifCond .eq 12, 3, (0, 0), [[37]]),
  (.iconst 3, 1, (3, 0), []),
  (.iload 4, 2, (0, 0), []),
  (.invokestatic 78, 3, (0, 0), [[2, 165, 5228, 5229, 0]])]
def qX12_tower_34 : List mO := [(.ifCond .ne 5, 3, (0, 0), [[39]])]
def qX12_tower_37 : List mO := [(.iconst (-1), 1, ((-1), 0), []),
  (.ireturn, 1, (0, 0), [])]
def qX12_tower_39 : List mO := [(.aload_n 0, 1, (0, 0), []),
  (.getfield 7, 3, (0, 0), [[0, 5111, 0, 1], [12]]),
  (.iconst 0, 1, (0, 0), []),
  (.iaload, 1, (0, 0), []),
  (.bipush 9, 2, (9, 0), []),
  (.if_icmp .ne 6, 3, (0, 0), [[53]]),
  (.bipush (-2), 2, ((-2), 0), []),
  (.ireturn, 1, (0, 0), [])]
def qX12_tower_53 : List mO := [(.aload_n 0, 1, (0, 0), []),
  (.getfield 7, 3, (0, 0), [[0, 5111, 0, 1], [12]]),
  (.iconst 0, 1, (0, 0), []),
  (.iaload, 1, (0, 0), []),
  (.istore 5, 2, (0, 0), []),
  (.aload_n 0, 1, (0, 0), []),
  (.getfield 7, 3, (0, 0), [[0, 5111, 0, 1], [12]]),
  (.iload 5, 2, (0, 0), []),
  (.iconst 0, 1, (0, 0), []),
  (.invokestatic 66, 3, (0, 0), [[2, 163, 5234, 5235, 0]])]
def qX12_tower_71 : List mO := [(.iload_n 1, 1, (0, 0), []),
  (.iastore, 1, (0, 0), []),
  (.aload_n 0, 1, (0, 0), []),
  (.getfield 7, 3, (0, 0), [[0, 5111, 0, 1], [12]]),
  (.iload 5, 2, (0, 0), []),
  (.iconst 1, 1, (1, 0), []),
  (.invokestatic 66, 3, (0, 0), [[2, 163, 5234, 5235, 0]])]
def qX12_tower_83 : List mO := [(.iload_n 2, 1, (0, 0), []),
  (.iastore, 1, (0, 0), []),
  (.aload_n 0, 1, (0, 0), []),
  (.getfield 7, 3, (0, 0), [[0, 5111, 0, 1], [12]]),
  (.iload 5, 2, (0, 0), []),
  (.iconst 2, 1, (2, 0), []),
  (.invokestatic 66, 3, (0, 0), [[2, 163, 5234, 5235, 0]])]
def qX12_tower_95 : List mO := [(.iload_n 3, 1, (0, 0), []),
  (.iastore, 1, (0, 0), []),
  (.aload_n 0, 1, (0, 0), []),
  (.getfield 7, 3, (0, 0), [[0, 5111, 0, 1], [12]]),
  (.iload 5, 2, (0, 0), []),
  (.iconst 3, 1, (3, 0), []),
  (.invokestatic 66, 3, (0, 0), [[2, 163, 5234, 5235, 0]])]
def qX12_tower_107 : List mO := [(.iload 4, 2, (0, 0), []),
  (.iastore, 1, (0, 0), []),
  (.aload_n 0, 1, (0, 0), []),
  (.getfield 7, 3, (0, 0), [[0, 5111, 0, 1], [12]]),
  (.iload 5, 2, (0, 0), []),
  (.iconst 5, 1, (5, 0), []),
  (.invokestatic 66, 3, (0, 0), [[2, 163, 5234, 5235, 0]])]
def qX12_tower_120 : List mO := [(.iconst (-1), 1, ((-1), 0), []),
  (.iastore, 1, (0, 0), []),
  (.aload_n 0, 1, (0, 0), []),
  (.getfield 7, 3, (0, 0), [[0, 5111, 0, 1], [12]]),
  (.iconst 0, 1, (0, 0), []),
  (.dup2, 1, (0, 0), []),
  (.iaload, 1, (0, 0), []),
  (.iconst 1, 1, (1, 0), []),
  (.iadd, 1, (0, 0), []),
  (.iastore, 1, (0, 0), []),
  (.iload 5, 2, (0, 0), []),
  (.ireturn, 1, (0, 0), [])]
def pX12_tower : List (Nat × List mO) := [(0, qX12_tower_0), (9, qX12_tower_9), (17, qX12_tower_17), (25, qX12_tower_25), (34, qX12_tower_34), (37, qX12_tower_37), (39, qX12_tower_39), (53, qX12_tower_53), (71, qX12_tower_71), (83, qX12_tower_83), (95, qX12_tower_95), (107, qX12_tower_107), (120, qX12_tower_120)]
def qX12_isUnder_0 : List mO := [(.iload_n 1, 1, (0, 0), []),
  (.ifCond .eq 28, 3, (0, 0), [[29]]),
  (.iload_n 0, 1, (0, 0), []),
  (.iload_n 1, 1, (0, 0), []),
  (.if_icmp .eq 23, 3, (0, 0), [[29]]),
  (.iload_n 1, 1, (0, 0), []),
  (.iconst 2, 1, (2, 0), []),
  (.if_icmp .ne 8, 3, (0, 0), [[19]]),
  (.iload_n 0, 1, (0, 0), []),
  (.iconst 3, 1, (3, 0), []),
  (.if_icmp .eq 13, 3, (0, 0), [[29]])]
def qX12_isUnder_19 : List mO := [(.iload_n 1, 1, (0, 0), []),
  (.iconst 4, 1, (4, 0), []),
  (.if_icmp .ne 12, 3, (0, 0), [[33]]),
  (.iload_n 0, 1, (0, 0), []),
  (.iconst 5, 1, (5, 0), []),
  (.if_icmp .ne 7, 3, (0, 0), [[33]])]
def qX12_isUnder_29 : List mO := [(.iconst 1, 1, (1, 0), []),
  (.goto 4, 3, (0, 0), [[34]])]
def qX12_isUnder_33 : List mO := [(.iconst 0, 1, (0, 0), [])]
def qX12_isUnder_34 : List mO := [(.ireturn, 1, (0, 0), [[1]])]
def pX12_isUnder : List (Nat × List mO) := [(0, qX12_isUnder_0), (19, qX12_isUnder_19), (29, qX12_isUnder_29), (33, qX12_isUnder_33), (34, qX12_isUnder_34)]
def qX12_fact_0 : List mO := [(.iload_n 1, 1, (0, 0), []),
  (.tableswitch 85 (-6) (-1) #[83, 76, 69, 62, 46, 39], 39, (0, 0), [[86], [4294967290, 84], [4294967291, 77], [4294967292, 70], [4294967293, 63], [4294967294, 47], [4294967295, 40]])]
def qX12_fact_40 : List mO := [(.aload_n 0, 1, (0, 0), []),
  (.getfield 7, 3, (0, 0), [[0, 5111, 0, 1], [12]]),
  (.iconst 2, 1, (2, 0), []),
  (.iaload, 1, (0, 0), []),
  (.ireturn, 1, (0, 0), [])]
def qX12_fact_47 : List mO := [(.aload_n 0, 1, (0, 0), []),
  (.getfield 7, 3, (0, 0), [[0, 5111, 0, 1], [12]]),
  (.iconst 5, 1, (5, 0), []),
  (.aload_n 0, 1, (0, 0), []),
  (.getfield 7, 3, (0, 0), [[0, 5111, 0, 1], [12]]),
  (.iconst 2, 1, (2, 0), []),
  (.iaload, 1, (0, 0), []),
  (.iadd, 1, (0, 0), []),
  (.iaload, 1, (0, 0), []),
  (.iconst 3, 1, (3, 0), []),
  (.iadd, 1, (0, 0), []),
  (.ireturn, 1, (0, 0), [])]
def qX12_fact_63 : List mO := [(.aload_n 0, 1, (0, 0), []),
  (.iload_n 2, 1, (0, 0), []),
  (.iconst 1, 1, (1, 0), []),
  (.invokevirtual 82, 3, (0, 0), [[2, 6010, 0], [12, 164, 43, 6012]])]
def qX12_fact_69 : List mO := [(.ireturn, 1, (0, 0), [])]
def qX12_fact_70 : List mO := [(.aload_n 0, 1, (0, 0), []),
  (.iload_n 2, 1, (0, 0), []),
  (.iconst 2, 1, (2, 0), []),
  (.invokevirtual 82, 3, (0, 0), [[2, 6010, 0], [12, 164, 43, 6012]])]
def qX12_fact_76 : List mO := [(.ireturn, 1, (0, 0), [])]
def qX12_fact_77 : List mO := [(.aload_n 0, 1, (0, 0), []),
  (.iload_n 2, 1, (0, 0), []),
  (.iconst 3, 1, (3, 0), []),
  (.invokevirtual 82, 3, (0, 0), [[2, 6010, 0], [12, 164, 43, 6012]])]
def qX12_fact_83 : List mO := [(.ireturn, 1, (0, 0), [])]
def qX12_fact_84 : List mO := [(.iload_n 2, 1, (0, 0), []),
  (.ireturn, 1, (0, 0), [])]
def qX12_fact_86 : List mO := [(.iload_n 1, 1, (0, 0), []),
  (.ireturn, 1, (0, 0), [])]
def pX12_fact : List (Nat × List mO) := [(0, qX12_fact_0), (40, qX12_fact_40), (47, qX12_fact_47), (63, qX12_fact_63), (69, qX12_fact_69), (70, qX12_fact_70), (76, qX12_fact_76), (77, qX12_fact_77), (83, qX12_fact_83), (84, qX12_fact_84), (86, qX12_fact_86)]
def qX12_isHolding_0 : List mO := [(.iload_n 0, 1, (0, 0), []),
  (.lookupswitch 92 #[(-21, 76), (-13, 65), (-12, 54), (-11, 43)], 43, (0, 0), [[93], [4294967275, 77], [4294967283, 66], [4294967284, 55], [4294967285, 44]])]
def qX12_isHolding_44 : List mO := [(.iload_n 1, 1, (0, 0), []),
  (.iload_n 2, 1, (0, 0), []),
  (.if_icmp .ge 7, 3, (0, 0), [[53]]),
  (.iconst 1, 1, (1, 0), []),
  (.goto 4, 3, (0, 0), [[54]])]
def qX12_isHolding_53 : List mO := [(.iconst 0, 1, (0, 0), [])]
def qX12_isHolding_54 : List mO := [(.ireturn, 1, (0, 0), [[1]])]
def qX12_isHolding_55 : List mO := [(.iload_n 1, 1, (0, 0), []),
  (.iload_n 2, 1, (0, 0), []),
  (.if_icmp .ne 7, 3, (0, 0), [[64]]),
  (.iconst 1, 1, (1, 0), []),
  (.goto 4, 3, (0, 0), [[65]])]
def qX12_isHolding_64 : List mO := [(.iconst 0, 1, (0, 0), [])]
def qX12_isHolding_65 : List mO := [(.ireturn, 1, (0, 0), [[1]])]
def qX12_isHolding_66 : List mO := [(.iload_n 1, 1, (0, 0), []),
  (.iload_n 2, 1, (0, 0), []),
  (.if_icmp .le 7, 3, (0, 0), [[75]]),
  (.iconst 1, 1, (1, 0), []),
  (.goto 4, 3, (0, 0), [[76]])]
def qX12_isHolding_75 : List mO := [(.iconst 0, 1, (0, 0), [])]
def qX12_isHolding_76 : List mO := [(.ireturn, 1, (0, 0), [[1]])]
def qX12_isHolding_77 : List mO := [(.iload_n 1, 1, (0, 0), []),
  (.iconst 1, 1, (1, 0), []),
  (.if_icmp .ne 12, 3, (0, 0), [[91]]),
  (.iload_n 2, 1, (0, 0), []),
  (.iconst 1, 1, (1, 0), []),
  (.if_icmp .ne 7, 3, (0, 0), [[91]]),
  (.iconst 1, 1, (1, 0), []),
  (.goto 4, 3, (0, 0), [[92]])]
def qX12_isHolding_91 : List mO := [(.iconst 0, 1, (0, 0), [])]
def qX12_isHolding_92 : List mO := [(.ireturn, 1, (0, 0), [[1]])]
def qX12_isHolding_93 : List mO := [(.iload_n 1, 1, (0, 0), []),
  (.iconst 1, 1, (1, 0), []),
  (.if_icmp .eq 8, 3, (0, 0), [[103]]),
  (.iload_n 2, 1, (0, 0), []),
  (.iconst 1, 1, (1, 0), []),
  (.if_icmp .ne 7, 3, (0, 0), [[107]])]
def qX12_isHolding_103 : List mO := [(.iconst 1, 1, (1, 0), []),
  (.goto 4, 3, (0, 0), [[108]])]
def qX12_isHolding_107 : List mO := [(.iconst 0, 1, (0, 0), [])]
def qX12_isHolding_108 : List mO := [(.ireturn, 1, (0, 0), [[1]])]
def pX12_isHolding : List (Nat × List mO) := [(0, qX12_isHolding_0), (44, qX12_isHolding_44), (53, qX12_isHolding_53), (54, qX12_isHolding_54), (55, qX12_isHolding_55), (64, qX12_isHolding_64), (65, qX12_isHolding_65), (66, qX12_isHolding_66), (75, qX12_isHolding_75), (76, qX12_isHolding_76), (77, qX12_isHolding_77), (91, qX12_isHolding_91), (92, qX12_isHolding_92), (93, qX12_isHolding_93), (103, qX12_isHolding_103), (107, qX12_isHolding_107), (108, qX12_isHolding_108)]
def qX12_isSo_0 : List mO := [(.iconst 0, 1, (0, 0), []),
  (.istore 4, 2, (0, 0), []),
  (.iload_n 1, 1, (0, 0), []),
  (.istore 5, 2, (0, 0), [])]
def qX12_isSo_6 : List mO := [(.iload 5, 2, (0, 0), []),
  (.iload_n 2, 1, (0, 0), []),
  (.if_icmp .ge 119, 3, (0, 0), [[128]]),
  (.aload_n 0, 1, (0, 0), []),
  (.getfield 7, 3, (0, 0), [[0, 5111, 0, 1], [12]]),
  (.bipush 110, 2, (110, 0), []),
  (.iload 5, 2, (0, 0), []),
  (.iadd, 1, (0, 0), []),
  (.iaload, 1, (0, 0), []),
  (.istore 6, 2, (0, 0), []),
  (.iload 6, 2, (0, 0), []),
  (.bipush (-10), 2, ((-10), 0), []),
  (.if_icmp .le 23, 3, (0, 0), [[51]]),
  (.aload_n 0, 1, (0, 0), []),
  (.getfield 19, 3, (0, 0), [[4, 5115, 0, 1], [12]]),
  (.iload 4, 2, (0, 0), []),
  (.aload_n 0, 1, (0, 0), []),
  (.iload 6, 2, (0, 0), []),
  (.iload_n 3, 1, (0, 0), []),
  (.invokevirtual 85, 3, (0, 0), [[2, 6021, 0], [12, 168, 45, 6023]])]
def qX12_isSo_44 : List mO := [(.iastore, 1, (0, 0), []),
  (.iinc 4 1, 3, (1, 0), []),
  (.goto 74, 3, (0, 0), [[122]])]
def qX12_isSo_51 : List mO := [(.iload 6, 2, (0, 0), []),
  (.bipush (-20), 2, ((-20), 0), []),
  (.if_icmp .ne 26, 3, (0, 0), [[81]]),
  (.aload_n 0, 1, (0, 0), []),
  (.getfield 19, 3, (0, 0), [[4, 5115, 0, 1], [12]]),
  (.iload 4, 2, (0, 0), []),
  (.iconst 1, 1, (1, 0), []),
  (.isub, 1, (0, 0), []),
  (.iconst 1, 1, (1, 0), []),
  (.aload_n 0, 1, (0, 0), []),
  (.getfield 19, 3, (0, 0), [[4, 5115, 0, 1], [12]]),
  (.iload 4, 2, (0, 0), []),
  (.iconst 1, 1, (1, 0), []),
  (.isub, 1, (0, 0), []),
  (.iaload, 1, (0, 0), []),
  (.isub, 1, (0, 0), []),
  (.iastore, 1, (0, 0), []),
  (.goto 44, 3, (0, 0), [[122]])]
def qX12_isSo_81 : List mO := [(.iinc 4 (-1), 3, ((-1), 0), []),
  (.aload_n 0, 1, (0, 0), []),
  (.getfield 19, 3, (0, 0), [[4, 5115, 0, 1], [12]]),
  (.iload 4, 2, (0, 0), []),
  (.iconst 1, 1, (1, 0), []),
  (.isub, 1, (0, 0), []),
  (.iload 6, 2, (0, 0), []),
  (.aload_n 0, 1, (0, 0), []),
  (.getfield 19, 3, (0, 0), [[4, 5115, 0, 1], [12]]),
  (.iload 4, 2, (0, 0), []),
  (.iconst 1, 1, (1, 0), []),
  (.isub, 1, (0, 0), []),
  (.iaload, 1, (0, 0), []),
  (.aload_n 0, 1, (0, 0), []),
  (.getfield 19, 3, (0, 0), [[4, 5115, 0, 1], [12]]),
  (.iload 4, 2, (0, 0), []),
  (.iaload, 1, (0, 0), []),
  (.invokestatic 88, 3, (0, 0), [[3, 169, 6025, 6026, 0]])]
def qX12_isSo_113 : List mO := [(.ifCond .eq 7, 3, (0, 0), [[120]]),
  (.iconst 1, 1, (1, 0), []),
  (.goto 4, 3, (0, 0), [[121]])]
def qX12_isSo_120 : List mO := [(.iconst 0, 1, (0, 0), [])]
def qX12_isSo_121 : List mO := [(.iastore, 1, (0, 0), [])]
def qX12_isSo_122 : List mO := [(.iinc 5 1, 3, (1, 0), []),
  (.goto (-119), 3, (0, 0), [[6]])]
def qX12_isSo_128 : List mO := [(.iload 4, 2, (0, 0), []),
  (.ifCond .eq 13, 3, (0, 0), [[143]]),
  (.aload_n 0, 1, (0, 0), []),
  (.getfield 19, 3, (0, 0), [[4, 5115, 0, 1], [12]]),
  (.iconst 0, 1, (0, 0), []),
  (.iaload, 1, (0, 0), []),
  (.iconst 1, 1, (1, 0), []),
  (.if_icmp .ne 7, 3, (0, 0), [[147]])]
def qX12_isSo_143 : List mO := [(.iconst 1, 1, (1, 0), []),
  (.goto 4, 3, (0, 0), [[148]])]
def qX12_isSo_147 : List mO := [(.iconst 0, 1, (0, 0), [])]
def qX12_isSo_148 : List mO := [(.ireturn, 1, (0, 0), [[1]])]
def pX12_isSo : List (Nat × List mO) := [(0, qX12_isSo_0), (6, qX12_isSo_6), (44, qX12_isSo_44), (51, qX12_isSo_51), (81, qX12_isSo_81), (113, qX12_isSo_113), (120, qX12_isSo_120), (121, qX12_isSo_121), (122, qX12_isSo_122), (128, qX12_isSo_128), (143, qX12_isSo_143), (147, qX12_isSo_147), (148, qX12_isSo_148)]
def qX12_asks_0 : List mO := [(.aload_n 0, 1, (0, 0), []),
  (.iload_n 1, 1, (0, 0), []),
  (.iconst 0, 1, (0, 0), []),
  (.invokevirtual 82, 3, (0, 0), [[2, 6010, 0], [12, 164, 43, 6012]])]
def qX12_asks_6 : List mO := [(.istore_n 2, 1, (0, 0), []),
  (.iconst (-1), 1, ((-1), 0), []),
  (.istore_n 3, 1, (0, 0), []),
  (.iconst 0, 1, (0, 0), []),
  (.istore 4, 2, (0, 0), []),
  (.iconst 0, 1, (0, 0), []),
  (.istore 5, 2, (0, 0), [])]
def qX12_asks_15 : List mO := [(.iload 5, 2, (0, 0), []),
  (.aload_n 0, 1, (0, 0), []),
  (.getfield 7, 3, (0, 0), [[0, 5111, 0, 1], [12]]),
  (.iconst 4, 1, (4, 0), []),
  (.iaload, 1, (0, 0), []),
  (.if_icmp .ge 75, 3, (0, 0), [[98]]),
  (.iload_n 3, 1, (0, 0), []),
  (.ifCond .ge 71, 3, (0, 0), [[98]]),
  (.bipush 78, 2, (78, 0), []),
  (.iconst 4, 1, (4, 0), []),
  (.iload 5, 2, (0, 0), []),
  (.imul, 1, (0, 0), []),
  (.iadd, 1, (0, 0), []),
  (.istore 6, 2, (0, 0), []),
  (.iload_n 2, 1, (0, 0), []),
  (.aload_n 0, 1, (0, 0), []),
  (.getfield 7, 3, (0, 0), [[0, 5111, 0, 1], [12]]),
  (.iload 6, 2, (0, 0), []),
  (.iconst 0, 1, (0, 0), []),
  (.iadd, 1, (0, 0), []),
  (.iaload, 1, (0, 0), []),
  (.invokestatic 92, 3, (0, 0), [[2, 167, 6014, 6015, 0]])]
def qX12_asks_52 : List mO := [(.ifCond .eq 27, 3, (0, 0), [[79]]),
  (.aload_n 0, 1, (0, 0), []),
  (.iload 4, 2, (0, 0), []),
  (.aload_n 0, 1, (0, 0), []),
  (.getfield 7, 3, (0, 0), [[0, 5111, 0, 1], [12]]),
  (.iload 6, 2, (0, 0), []),
  (.iconst 3, 1, (3, 0), []),
  (.iadd, 1, (0, 0), []),
  (.iaload, 1, (0, 0), []),
  (.iload_n 1, 1, (0, 0), []),
  (.invokevirtual 95, 3, (0, 0), [[3, 6017, 0], [12, 170, 44, 6019]])]
def qX12_asks_71 : List mO := [(.ifCond .eq 8, 3, (0, 0), [[79]]),
  (.iload 6, 2, (0, 0), []),
  (.goto 4, 3, (0, 0), [[80]])]
def qX12_asks_79 : List mO := [(.iconst (-1), 1, ((-1), 0), [])]
def qX12_asks_80 : List mO := [(.istore_n 3, 1, (0, 0), []),
  (.aload_n 0, 1, (0, 0), []),
  (.getfield 7, 3, (0, 0), [[0, 5111, 0, 1], [12]]),
  (.iload 6, 2, (0, 0), []),
  (.iconst 3, 1, (3, 0), []),
  (.iadd, 1, (0, 0), []),
  (.iaload, 1, (0, 0), []),
  (.istore 4, 2, (0, 0), []),
  (.iinc 5 1, 3, (1, 0), []),
  (.goto (-80), 3, (0, 0), [[15]])]
def qX12_asks_98 : List mO := [(.iload_n 3, 1, (0, 0), []),
  (.ifCond .ge 7, 3, (0, 0), [[106]]),
  (.iconst (-1), 1, ((-1), 0), []),
  (.goto 11, 3, (0, 0), [[114]])]
def qX12_asks_106 : List mO := [(.aload_n 0, 1, (0, 0), []),
  (.getfield 7, 3, (0, 0), [[0, 5111, 0, 1], [12]]),
  (.iload_n 3, 1, (0, 0), []),
  (.iconst 1, 1, (1, 0), []),
  (.iadd, 1, (0, 0), []),
  (.iaload, 1, (0, 0), [])]
def qX12_asks_114 : List mO := [(.istore 5, 2, (0, 0), []),
  (.iload_n 3, 1, (0, 0), []),
  (.ifCond .ge 7, 3, (0, 0), [[124]]),
  (.iconst 0, 1, (0, 0), []),
  (.goto 11, 3, (0, 0), [[132]])]
def qX12_asks_124 : List mO := [(.aload_n 0, 1, (0, 0), []),
  (.getfield 7, 3, (0, 0), [[0, 5111, 0, 1], [12]]),
  (.iload_n 3, 1, (0, 0), []),
  (.iconst 2, 1, (2, 0), []),
  (.iadd, 1, (0, 0), []),
  (.iaload, 1, (0, 0), [])]
def qX12_asks_132 : List mO := [(.istore 6, 2, (0, 0), []),
  (.iload 5, 2, (0, 0), []),
  (.ifCond .ne 8, 3, (0, 0), [[144]]),
  (.iload 6, 2, (0, 0), []),
  (.goto 45, 3, (0, 0), [[186]])]
def qX12_asks_144 : List mO := [(.iload 5, 2, (0, 0), []),
  (.iconst 1, 1, (1, 0), []),
  (.if_icmp .ne 15, 3, (0, 0), [[162]]),
  (.aload_n 0, 1, (0, 0), []),
  (.iload_n 1, 1, (0, 0), []),
  (.iconst 1, 1, (1, 0), []),
  (.invokevirtual 82, 3, (0, 0), [[2, 6010, 0], [12, 164, 43, 6012]])]
def qX12_asks_156 : List mO := [(.iload 6, 2, (0, 0), []),
  (.iadd, 1, (0, 0), []),
  (.goto 27, 3, (0, 0), [[186]])]
def qX12_asks_162 : List mO := [(.iload 5, 2, (0, 0), []),
  (.iconst 2, 1, (2, 0), []),
  (.if_icmp .ne 15, 3, (0, 0), [[180]]),
  (.iload 6, 2, (0, 0), []),
  (.aload_n 0, 1, (0, 0), []),
  (.iload_n 1, 1, (0, 0), []),
  (.iconst 3, 1, (3, 0), []),
  (.invokevirtual 82, 3, (0, 0), [[2, 6010, 0], [12, 164, 43, 6012]])]
def qX12_asks_176 : List mO := [(.imul, 1, (0, 0), []),
  (.goto 9, 3, (0, 0), [[186]])]
def qX12_asks_180 : List mO := [(.aload_n 0, 1, (0, 0), []),
  (.iload_n 1, 1, (0, 0), []),
  (.iconst 1, 1, (1, 0), []),
  (.invokevirtual 82, 3, (0, 0), [[2, 6010, 0], [12, 164, 43, 6012]])]
def qX12_asks_186 : List mO := [(.istore 7, 2, (0, 0), []),
  (.aload_n 0, 1, (0, 0), []),
  (.iload_n 2, 1, (0, 0), []),
  (.iconst 2, 1, (2, 0), []),
  (.if_icmp .ne 10, 3, (0, 0), [[201]]),
  (.iconst 2, 1, (2, 0), []),
  (.iload 7, 2, (0, 0), []),
  (.imul, 1, (0, 0), []),
  (.goto 52, 3, (0, 0), [[250]])]
def qX12_asks_201 : List mO := [(.iload_n 2, 1, (0, 0), []),
  (.iconst 3, 1, (3, 0), []),
  (.if_icmp .ne 28, 3, (0, 0), [[231]]),
  (.iconst 2, 1, (2, 0), []),
  (.iload 7, 2, (0, 0), []),
  (.imul, 1, (0, 0), []),
  (.aload_n 0, 1, (0, 0), []),
  (.getfield 7, 3, (0, 0), [[0, 5111, 0, 1], [12]]),
  (.iconst 2, 1, (2, 0), []),
  (.iaload, 1, (0, 0), []),
  (.bipush 6, 2, (6, 0), []),
  (.if_icmp .ne 8, 3, (0, 0), [[226]]),
  (.bipush 10, 2, (10, 0), []),
  (.goto 4, 3, (0, 0), [[227]])]
def qX12_asks_226 : List mO := [(.iconst 0, 1, (0, 0), [])]
def qX12_asks_227 : List mO := [(.iadd, 1, (0, 0), []),
  (.goto 22, 3, (0, 0), [[250]])]
def qX12_asks_231 : List mO := [(.iload_n 2, 1, (0, 0), []),
  (.iconst 3, 1, (3, 0), []),
  (.if_icmp .le 15, 3, (0, 0), [[248]]),
  (.iload 7, 2, (0, 0), []),
  (.aload_n 0, 1, (0, 0), []),
  (.iload_n 1, 1, (0, 0), []),
  (.iconst 2, 1, (2, 0), []),
  (.invokevirtual 82, 3, (0, 0), [[2, 6010, 0], [12, 164, 43, 6012]])]
def qX12_asks_244 : List mO := [(.iadd, 1, (0, 0), []),
  (.goto 5, 3, (0, 0), [[250]])]
def qX12_asks_248 : List mO := [(.iload 7, 2, (0, 0), [])]
def qX12_asks_250 : List mO := [(.putfield 98, 3, (0, 0), [[5, 5116, 0, 0], [12]]),
  (.aload_n 0, 1, (0, 0), []),
  (.iload 5, 2, (0, 0), []),
  (.iconst 3, 1, (3, 0), []),
  (.if_icmp .ne 7, 3, (0, 0), [[264]]),
  (.iconst 1, 1, (1, 0), []),
  (.goto 4, 3, (0, 0), [[265]])]
def qX12_asks_264 : List mO := [(.iconst 0, 1, (0, 0), [])]
def qX12_asks_265 : List mO := [(.putfield 102, 3, (0, 0), [[6, 5117, 0, 0], [12]]),
  (.return_, 1, (0, 0), [])]
def pX12_asks : List (Nat × List mO) := [(0, qX12_asks_0), (6, qX12_asks_6), (15, qX12_asks_15), (52, qX12_asks_52), (71, qX12_asks_71), (79, qX12_asks_79), (80, qX12_asks_80), (98, qX12_asks_98), (106, qX12_asks_106), (114, qX12_asks_114), (124, qX12_asks_124), (132, qX12_asks_132), (144, qX12_asks_144), (156, qX12_asks_156), (162, qX12_asks_162), (176, qX12_asks_176), (180, qX12_asks_180), (186, qX12_asks_186), (201, qX12_asks_201), (226, qX12_asks_226), (227, qX12_asks_227), (231, qX12_asks_231), (244, qX12_asks_244), (248, qX12_asks_248), (250, qX12_asks_250), (264, qX12_asks_264), (265, qX12_asks_265)]
def qX12_towerOf_0 : List mO := [(.aload_n 0, 1, (0, 0), []),
  (.iload_n 1, 1, (0, 0), []),
  (.invokevirtual 106, 3, (0, 0), [[1, 6001, 0], [12, 156, 41, 6003]])]
def qX12_towerOf_5 : List mO := [(.ifCond .eq 15, 3, (0, 0), [[20]]),
  (.iload_n 2, 1, (0, 0), []),
  (.i2l, 1, (0, 0), []),
  (.lconst 0, 1, (0, 0), []),
  (.ldc2_w 110, 3, (0, 7), [[6005]]),
  (.invokestatic 58, 3, (0, 0), [[3, 155, 5225, 5226, 0]])]
def qX12_towerOf_17 : List mO := [(.ifCond .ne 5, 3, (0, 0), [[22]])]
def qX12_towerOf_20 : List mO := [(.iconst (-1), 1, ((-1), 0), []),
  (.ireturn, 1, (0, 0), [])]
def qX12_towerOf_22 : List mO := [(.aload_n 0, 1, (0, 0), []),
  (.iload_n 1, 1, (0, 0), []),
  (.invokevirtual 112, 3, (0, 0), [[1, 6006, 0], [12, 171, 42, 6008]])]
def qX12_towerOf_27 : List mO := [(.aload_n 0, 1, (0, 0), []),
  (.iload_n 1, 1, (0, 0), []),
  (.iconst 5, 1, (5, 0), []),
  (.invokevirtual 82, 3, (0, 0), [[2, 6010, 0], [12, 164, 43, 6012]])]
def qX12_towerOf_33 : List mO := [(.ifCond .lt 7, 3, (0, 0), [[40]]),
  (.iconst 1, 1, (1, 0), []),
  (.goto 4, 3, (0, 0), [[41]])]
def qX12_towerOf_40 : List mO := [(.iconst 0, 1, (0, 0), [])]
def qX12_towerOf_41 : List mO := [(.istore_n 3, 1, (0, 0), []),
  (.iload_n 2, 1, (0, 0), []),
  (.iconst 4, 1, (4, 0), []),
  (.if_icmp .ge 12, 3, (0, 0), [[56]]),
  (.aload_n 0, 1, (0, 0), []),
  (.iload_n 1, 1, (0, 0), []),
  (.iload_n 2, 1, (0, 0), []),
  (.invokevirtual 82, 3, (0, 0), [[2, 6010, 0], [12, 164, 43, 6012]])]
def qX12_towerOf_53 : List mO := [(.goto 52, 3, (0, 0), [[105]])]
def qX12_towerOf_56 : List mO := [(.iload_n 2, 1, (0, 0), []),
  (.iconst 4, 1, (4, 0), []),
  (.if_icmp .ne 10, 3, (0, 0), [[68]]),
  (.aload_n 0, 1, (0, 0), []),
  (.getfield 98, 3, (0, 0), [[5, 5116, 0, 0], [12]]),
  (.goto 40, 3, (0, 0), [[105]])]
def qX12_towerOf_68 : List mO := [(.iload_n 2, 1, (0, 0), []),
  (.iconst 5, 1, (5, 0), []),
  (.if_icmp .ne 18, 3, (0, 0), [[88]]),
  (.aload_n 0, 1, (0, 0), []),
  (.getfield 102, 3, (0, 0), [[6, 5117, 0, 0], [12]]),
  (.ifCond .eq 7, 3, (0, 0), [[84]]),
  (.iconst 1, 1, (1, 0), []),
  (.goto 24, 3, (0, 0), [[105]])]
def qX12_towerOf_84 : List mO := [(.iconst 0, 1, (0, 0), []),
  (.goto 20, 3, (0, 0), [[105]])]
def qX12_towerOf_88 : List mO := [(.iload_n 3, 1, (0, 0), []),
  (.ifCond .eq 14, 3, (0, 0), [[103]]),
  (.aload_n 0, 1, (0, 0), []),
  (.iload_n 1, 1, (0, 0), []),
  (.iload_n 2, 1, (0, 0), []),
  (.iconst 2, 1, (2, 0), []),
  (.isub, 1, (0, 0), []),
  (.invokevirtual 82, 3, (0, 0), [[2, 6010, 0], [12, 164, 43, 6012]])]
def qX12_towerOf_100 : List mO := [(.goto 5, 3, (0, 0), [[105]])]
def qX12_towerOf_103 : List mO := [(.bipush (-9), 2, ((-9), 0), [])]
def qX12_towerOf_105 : List mO := [(.ireturn, 1, (0, 0), [])]
def pX12_towerOf : List (Nat × List mO) := [(0, qX12_towerOf_0), (5, qX12_towerOf_5), (17, qX12_towerOf_17), (20, qX12_towerOf_20), (22, qX12_towerOf_22), (27, qX12_towerOf_27), (33, qX12_towerOf_33), (40, qX12_towerOf_40), (41, qX12_towerOf_41), (53, qX12_towerOf_53), (56, qX12_towerOf_56), (68, qX12_towerOf_68), (84, qX12_towerOf_84), (88, qX12_towerOf_88), (100, qX12_towerOf_100), (103, qX12_towerOf_103), (105, qX12_towerOf_105)]
def qX12_change_0 : List mO := [(.aload_n 0, 1, (0, 0), []),
  (.iload_n 1, 1, (0, 0), []),
  (.invokevirtual 106, 3, (0, 0), [[1, 6001, 0], [12, 156, 41, 6003]])]
def qX12_change_5 : List mO := [(.ifCond .eq 11, 3, (0, 0), [[16]]),
  (.iload_n 2, 1, (0, 0), []),
  (.iload_n 3, 1, (0, 0), []),
  (.invokestatic 78, 3, (0, 0), [[2, 165, 5228, 5229, 0]])]
def qX12_change_13 : List mO := [(.ifCond .ne 5, 3, (0, 0), [[18]])]
def qX12_change_16 : List mO := [(.iconst (-1), 1, ((-1), 0), []),
  (.ireturn, 1, (0, 0), [])]
def qX12_change_18 : List mO := [(.aload_n 0, 1, (0, 0), []),
  (.iload_n 1, 1, (0, 0), []),
  (.iload_n 2, 1, (0, 0), []),
  (.invokevirtual 82, 3, (0, 0), [[2, 6010, 0], [12, 164, 43, 6012]])]
def qX12_change_24 : List mO := [(.istore 4, 2, (0, 0), []),
  (.aload_n 0, 1, (0, 0), []),
  (.getfield 7, 3, (0, 0), [[0, 5111, 0, 1], [12]]),
  (.iload_n 1, 1, (0, 0), []),
  (.iload_n 2, 1, (0, 0), []),
  (.invokestatic 66, 3, (0, 0), [[2, 163, 5234, 5235, 0]])]
def qX12_change_35 : List mO := [(.iload_n 3, 1, (0, 0), []),
  (.iastore, 1, (0, 0), []),
  (.iload 4, 2, (0, 0), []),
  (.ireturn, 1, (0, 0), [])]
def pX12_change : List (Nat × List mO) := [(0, qX12_change_0), (5, qX12_change_5), (13, qX12_change_13), (16, qX12_change_16), (18, qX12_change_18), (24, qX12_change_24), (35, qX12_change_35)]
def qX12_turn_0 : List mO := [(.aload_n 0, 1, (0, 0), []),
  (.iload_n 1, 1, (0, 0), []),
  (.invokevirtual 106, 3, (0, 0), [[1, 6001, 0], [12, 156, 41, 6003]])]
def qX12_turn_5 : List mO := [(.ifCond .eq 15, 3, (0, 0), [[20]]),
  (.iload_n 2, 1, (0, 0), []),
  (.i2l, 1, (0, 0), []),
  (.lconst 1, 1, (0, 1), []),
  (.ldc2_w 76, 3, (0, 5), [[5224]]),
  (.invokestatic 58, 3, (0, 0), [[3, 155, 5225, 5226, 0]])]
def qX12_turn_17 : List mO := [(.ifCond .ne 5, 3, (0, 0), [[22]])]
def qX12_turn_20 : List mO := [(.iconst (-1), 1, ((-1), 0), []),
  (.ireturn, 1, (0, 0), [])]
def qX12_turn_22 : List mO := [(.aload_n 0, 1, (0, 0), []),
  (.iload_n 1, 1, (0, 0), []),
  (.iconst 0, 1, (0, 0), []),
  (.invokevirtual 82, 3, (0, 0), [[2, 6010, 0], [12, 164, 43, 6012]])]
def qX12_turn_28 : List mO := [(.istore_n 3, 1, (0, 0), []),
  (.aload_n 0, 1, (0, 0), []),
  (.getfield 7, 3, (0, 0), [[0, 5111, 0, 1], [12]]),
  (.iload_n 1, 1, (0, 0), []),
  (.iconst 0, 1, (0, 0), []),
  (.invokestatic 66, 3, (0, 0), [[2, 163, 5234, 5235, 0]])]
def qX12_turn_38 : List mO := [(.iload_n 2, 1, (0, 0), []),
  (.iastore, 1, (0, 0), []),
  (.iload_n 3, 1, (0, 0), []),
  (.ireturn, 1, (0, 0), [])]
def pX12_turn : List (Nat × List mO) := [(0, qX12_turn_0), (5, qX12_turn_5), (17, qX12_turn_17), (20, qX12_turn_20), (22, qX12_turn_22), (28, qX12_turn_28), (38, qX12_turn_38)]
def qX12_day_0 : List mO := [(.iload_n 1, 1, (0, 0), []),
  (.invokestatic 116, 3, (0, 0), [[1, 157, 6040, 6041, 0]])]
def qX12_day_4 : List mO := [(.ifCond .ne 5, 3, (0, 0), [[9]]),
  (.iconst (-1), 1, ((-1), 0), []),
  (.ireturn, 1, (0, 0), [])]
def qX12_day_9 : List mO := [(.aload_n 0, 1, (0, 0), []),
  (.getfield 7, 3, (0, 0), [[0, 5111, 0, 1], [12]]),
  (.iconst 2, 1, (2, 0), []),
  (.iaload, 1, (0, 0), []),
  (.istore_n 2, 1, (0, 0), []),
  (.aload_n 0, 1, (0, 0), []),
  (.getfield 7, 3, (0, 0), [[0, 5111, 0, 1], [12]]),
  (.iconst 2, 1, (2, 0), []),
  (.iload_n 1, 1, (0, 0), []),
  (.iastore, 1, (0, 0), []),
  (.iload_n 2, 1, (0, 0), []),
  (.ireturn, 1, (0, 0), [])]
def pX12_day : List (Nat × List mO) := [(0, qX12_day_0), (4, qX12_day_4), (9, qX12_day_9)]
def qX12_wind_0 : List mO := [(.iload_n 1, 1, (0, 0), []),
  (.invokestatic 116, 3, (0, 0), [[1, 157, 6040, 6041, 0]])]
def qX12_wind_4 : List mO := [(.ifCond .eq 17, 3, (0, 0), [[21]]),
  (.iload_n 2, 1, (0, 0), []),
  (.i2l, 1, (0, 0), []),
  (.ldc2_w 119, 3, (0, (-3)), [[6048]]),
  (.ldc2_w 121, 3, (0, 3), [[6049]]),
  (.invokestatic 58, 3, (0, 0), [[3, 155, 5225, 5226, 0]])]
def qX12_wind_18 : List mO := [(.ifCond .ne 5, 3, (0, 0), [[23]])]
def qX12_wind_21 : List mO := [(.iconst (-1), 1, ((-1), 0), []),
  (.ireturn, 1, (0, 0), [])]
def qX12_wind_23 : List mO := [(.aload_n 0, 1, (0, 0), []),
  (.getfield 7, 3, (0, 0), [[0, 5111, 0, 1], [12]]),
  (.iconst 5, 1, (5, 0), []),
  (.iload_n 1, 1, (0, 0), []),
  (.iadd, 1, (0, 0), []),
  (.iaload, 1, (0, 0), []),
  (.istore_n 3, 1, (0, 0), []),
  (.aload_n 0, 1, (0, 0), []),
  (.getfield 7, 3, (0, 0), [[0, 5111, 0, 1], [12]]),
  (.iconst 5, 1, (5, 0), []),
  (.iload_n 1, 1, (0, 0), []),
  (.iadd, 1, (0, 0), []),
  (.iload_n 2, 1, (0, 0), []),
  (.iastore, 1, (0, 0), []),
  (.iload_n 3, 1, (0, 0), []),
  (.bipush 100, 2, (100, 0), []),
  (.iadd, 1, (0, 0), []),
  (.ireturn, 1, (0, 0), [])]
def pX12_wind : List (Nat × List mO) := [(0, qX12_wind_0), (4, qX12_wind_4), (18, qX12_wind_18), (21, qX12_wind_21), (23, qX12_wind_23)]
def qX12_pace_0 : List mO := [(.iload_n 1, 1, (0, 0), []),
  (.ifCond .eq 21, 3, (0, 0), [[22]]),
  (.iconst 4, 1, (4, 0), []),
  (.aload_n 0, 1, (0, 0), []),
  (.getfield 7, 3, (0, 0), [[0, 5111, 0, 1], [12]]),
  (.iconst 5, 1, (5, 0), []),
  (.aload_n 0, 1, (0, 0), []),
  (.getfield 7, 3, (0, 0), [[0, 5111, 0, 1], [12]]),
  (.iconst 2, 1, (2, 0), []),
  (.iaload, 1, (0, 0), []),
  (.iadd, 1, (0, 0), []),
  (.iaload, 1, (0, 0), []),
  (.iadd, 1, (0, 0), []),
  (.goto 18, 3, (0, 0), [[37]])]
def qX12_pace_22 : List mO := [(.iconst 4, 1, (4, 0), []),
  (.aload_n 0, 1, (0, 0), []),
  (.getfield 7, 3, (0, 0), [[0, 5111, 0, 1], [12]]),
  (.iconst 5, 1, (5, 0), []),
  (.aload_n 0, 1, (0, 0), []),
  (.getfield 7, 3, (0, 0), [[0, 5111, 0, 1], [12]]),
  (.iconst 2, 1, (2, 0), []),
  (.iaload, 1, (0, 0), []),
  (.iadd, 1, (0, 0), []),
  (.iaload, 1, (0, 0), []),
  (.isub, 1, (0, 0), [])]
def qX12_pace_37 : List mO := [(.ireturn, 1, (0, 0), [])]
def pX12_pace : List (Nat × List mO) := [(0, qX12_pace_0), (22, qX12_pace_22), (37, qX12_pace_37)]
def qX12_quiets_0 : List mO := [(.iconst 0, 1, (0, 0), []),
  (.istore_n 1, 1, (0, 0), [])]
def qX12_quiets_2 : List mO := [(.iload_n 1, 1, (0, 0), []),
  (.bipush 9, 2, (9, 0), []),
  (.if_icmp .ge 16, 3, (0, 0), [[21]]),
  (.aload_n 0, 1, (0, 0), []),
  (.getfield 22, 3, (0, 0), [[7, 5118, 0, 1], [12]]),
  (.iload_n 1, 1, (0, 0), []),
  (.iconst (-1), 1, ((-1), 0), []),
  (.iastore, 1, (0, 0), []),
  (.iinc 1 1, 3, (1, 0), []),
  (.goto (-16), 3, (0, 0), [[2]])]
def qX12_quiets_21 : List mO := [(.return_, 1, (0, 0), [])]
def pX12_quiets : List (Nat × List mO) := [(0, qX12_quiets_0), (2, qX12_quiets_2), (21, qX12_quiets_21)]
def qX12_goes_0 : List mO := [(.aload_n 0, 1, (0, 0), []),
  (.getfield 22, 3, (0, 0), [[7, 5118, 0, 1], [12]]),
  (.iload_n 1, 1, (0, 0), []),
  (.iload_n 2, 1, (0, 0), []),
  (.iastore, 1, (0, 0), []),
  (.aload_n 0, 1, (0, 0), []),
  (.getfield 25, 3, (0, 0), [[8, 5119, 0, 1], [12]]),
  (.iload_n 1, 1, (0, 0), []),
  (.iload_n 2, 1, (0, 0), []),
  (.iastore, 1, (0, 0), []),
  (.iload_n 1, 1, (0, 0), []),
  (.istore 6, 2, (0, 0), []),
  (.iload_n 2, 1, (0, 0), []),
  (.istore 7, 2, (0, 0), []),
  (.iconst 1, 1, (1, 0), []),
  (.istore 8, 2, (0, 0), [])]
def qX12_goes_23 : List mO := [(.iload 8, 2, (0, 0), []),
  (.ifCond .eq 183, 3, (0, 0), [[208]]),
  (.iload 6, 2, (0, 0), []),
  (.iload 5, 2, (0, 0), []),
  (.if_icmp .eq 176, 3, (0, 0), [[208]]),
  (.iload_n 3, 1, (0, 0), []),
  (.ifCond .eq 10, 3, (0, 0), [[46]]),
  (.iload 6, 2, (0, 0), []),
  (.iconst 1, 1, (1, 0), []),
  (.iadd, 1, (0, 0), []),
  (.goto 7, 3, (0, 0), [[50]])]
def qX12_goes_46 : List mO := [(.iload 6, 2, (0, 0), []),
  (.iconst 1, 1, (1, 0), []),
  (.isub, 1, (0, 0), [])]
def qX12_goes_50 : List mO := [(.istore 9, 2, (0, 0), []),
  (.aload_n 0, 1, (0, 0), []),
  (.iload 9, 2, (0, 0), []),
  (.invokevirtual 106, 3, (0, 0), [[1, 6001, 0], [12, 156, 41, 6003]])]
def qX12_goes_58 : List mO := [(.ifCond .eq 17, 3, (0, 0), [[75]]),
  (.iload 4, 2, (0, 0), []),
  (.iload 9, 2, (0, 0), []),
  (.invokestatic 123, 3, (0, 0), [[2, 159, 6070, 6071, 0]])]
def qX12_goes_68 : List mO := [(.ifCond .ne 7, 3, (0, 0), [[75]]),
  (.iconst 1, 1, (1, 0), []),
  (.goto 4, 3, (0, 0), [[76]])]
def qX12_goes_75 : List mO := [(.iconst 0, 1, (0, 0), [])]
def qX12_goes_76 : List mO := [(.istore 8, 2, (0, 0), []),
  (.iload 8, 2, (0, 0), []),
  (.ifCond .eq 125, 3, (0, 0), [[205]]),
  (.iload 7, 2, (0, 0), []),
  (.aload_n 0, 1, (0, 0), []),
  (.iload_n 3, 1, (0, 0), []),
  (.invokevirtual 126, 3, (0, 0), [[1, 6073, 0], [12, 177, 6052, 6051]])]
def qX12_goes_90 : List mO := [(.aload_n 0, 1, (0, 0), []),
  (.iload_n 3, 1, (0, 0), []),
  (.ifCond .eq 8, 3, (0, 0), [[100]]),
  (.iload 9, 2, (0, 0), []),
  (.goto 5, 3, (0, 0), [[102]])]
def qX12_goes_100 : List mO := [(.iload 6, 2, (0, 0), [])]
def qX12_goes_102 : List mO := [(.iconst 3, 1, (3, 0), []),
  (.invokevirtual 82, 3, (0, 0), [[2, 6010, 0], [12, 164, 43, 6012]])]
def qX12_goes_106 : List mO := [(.imul, 1, (0, 0), []),
  (.iadd, 1, (0, 0), []),
  (.istore 10, 2, (0, 0), []),
  (.aload_n 0, 1, (0, 0), []),
  (.iload 9, 2, (0, 0), []),
  (.invokevirtual 112, 3, (0, 0), [[1, 6006, 0], [12, 171, 42, 6008]])]
def qX12_goes_116 : List mO := [(.aload_n 0, 1, (0, 0), []),
  (.iload 9, 2, (0, 0), []),
  (.iconst 0, 1, (0, 0), []),
  (.invokevirtual 82, 3, (0, 0), [[2, 6010, 0], [12, 164, 43, 6012]])]
def qX12_goes_123 : List mO := [(.iconst 5, 1, (5, 0), []),
  (.if_icmp .ne 11, 3, (0, 0), [[135]]),
  (.iload 10, 2, (0, 0), []),
  (.sipush 360, 3, (360, 0), []),
  (.if_icmp .lt 7, 3, (0, 0), [[139]])]
def qX12_goes_135 : List mO := [(.iconst 1, 1, (1, 0), []),
  (.goto 4, 3, (0, 0), [[140]])]
def qX12_goes_139 : List mO := [(.iconst 0, 1, (0, 0), [])]
def qX12_goes_140 : List mO := [(.istore 8, 2, (0, 0), []),
  (.iload 8, 2, (0, 0), []),
  (.ifCond .eq 61, 3, (0, 0), [[205]]),
  (.aload_n 0, 1, (0, 0), []),
  (.getfield 22, 3, (0, 0), [[7, 5118, 0, 1], [12]]),
  (.iload 9, 2, (0, 0), []),
  (.iload 10, 2, (0, 0), []),
  (.iastore, 1, (0, 0), []),
  (.aload_n 0, 1, (0, 0), []),
  (.getfield 25, 3, (0, 0), [[8, 5119, 0, 1], [12]]),
  (.iload 9, 2, (0, 0), []),
  (.aload_n 0, 1, (0, 0), []),
  (.getfield 25, 3, (0, 0), [[8, 5119, 0, 1], [12]]),
  (.iload 6, 2, (0, 0), []),
  (.iaload, 1, (0, 0), []),
  (.aload_n 0, 1, (0, 0), []),
  (.getfield 98, 3, (0, 0), [[5, 5116, 0, 0], [12]]),
  (.iadd, 1, (0, 0), []),
  (.iastore, 1, (0, 0), []),
  (.iload 10, 2, (0, 0), []),
  (.aload_n 0, 1, (0, 0), []),
  (.iload 9, 2, (0, 0), []),
  (.iconst 2, 1, (2, 0), []),
  (.invokevirtual 82, 3, (0, 0), [[2, 6010, 0], [12, 164, 43, 6012]])]
def qX12_goes_184 : List mO := [(.iadd, 1, (0, 0), []),
  (.istore 7, 2, (0, 0), []),
  (.aload_n 0, 1, (0, 0), []),
  (.getfield 102, 3, (0, 0), [[6, 5117, 0, 0], [12]]),
  (.ifCond .ne 7, 3, (0, 0), [[198]]),
  (.iconst 1, 1, (1, 0), []),
  (.goto 4, 3, (0, 0), [[199]])]
def qX12_goes_198 : List mO := [(.iconst 0, 1, (0, 0), [])]
def qX12_goes_199 : List mO := [(.istore 8, 2, (0, 0), []),
  (.iload 9, 2, (0, 0), []),
  (.istore 6, 2, (0, 0), [])]
def qX12_goes_205 : List mO := [(.goto (-182), 3, (0, 0), [[23]])]
def qX12_goes_208 : List mO := [(.return_, 1, (0, 0), [])]
def pX12_goes : List (Nat × List mO) := [(0, qX12_goes_0), (23, qX12_goes_23), (46, qX12_goes_46), (50, qX12_goes_50), (58, qX12_goes_58), (68, qX12_goes_68), (75, qX12_goes_75), (76, qX12_goes_76), (90, qX12_goes_90), (100, qX12_goes_100), (102, qX12_goes_102), (106, qX12_goes_106), (116, qX12_goes_116), (123, qX12_goes_123), (135, qX12_goes_135), (139, qX12_goes_139), (140, qX12_goes_140), (184, qX12_goes_184), (198, qX12_goes_198), (199, qX12_goes_199), (205, qX12_goes_205), (208, qX12_goes_208)]
def qX12_goesBoth_0 : List mO := [(.aload_n 0, 1, (0, 0), []),
  (.invokevirtual 130, 3, (0, 0), [[0, 6062, 0], [12, 178, 46, 6064]])]
def qX12_goesBoth_4 : List mO := [(.aload_n 0, 1, (0, 0), []),
  (.iload_n 1, 1, (0, 0), []),
  (.iload_n 2, 1, (0, 0), []),
  (.iconst 1, 1, (1, 0), []),
  (.iconst 0, 1, (0, 0), []),
  (.iconst (-1), 1, ((-1), 0), []),
  (.invokevirtual 133, 3, (0, 0), [[5, 6066, 0], [12, 179, 47, 6068]])]
def qX12_goesBoth_13 : List mO := [(.aload_n 0, 1, (0, 0), []),
  (.iload_n 1, 1, (0, 0), []),
  (.iload_n 2, 1, (0, 0), []),
  (.iconst 0, 1, (0, 0), []),
  (.iconst 0, 1, (0, 0), []),
  (.iconst (-1), 1, ((-1), 0), []),
  (.invokevirtual 133, 3, (0, 0), [[5, 6066, 0], [12, 179, 47, 6068]])]
def qX12_goesBoth_22 : List mO := [(.return_, 1, (0, 0), [])]
def pX12_goesBoth : List (Nat × List mO) := [(0, qX12_goesBoth_0), (4, qX12_goesBoth_4), (13, qX12_goesBoth_13), (22, qX12_goesBoth_22)]
def qX12_comers_0 : List mO := [(.iconst 0, 1, (0, 0), []),
  (.istore_n 1, 1, (0, 0), []),
  (.iconst 0, 1, (0, 0), []),
  (.istore_n 2, 1, (0, 0), [])]
def qX12_comers_4 : List mO := [(.iload_n 2, 1, (0, 0), []),
  (.aload_n 0, 1, (0, 0), []),
  (.getfield 7, 3, (0, 0), [[0, 5111, 0, 1], [12]]),
  (.iconst 0, 1, (0, 0), []),
  (.iaload, 1, (0, 0), []),
  (.if_icmp .ge 26, 3, (0, 0), [[37]]),
  (.iload_n 1, 1, (0, 0), []),
  (.aload_n 0, 1, (0, 0), []),
  (.getfield 22, 3, (0, 0), [[7, 5118, 0, 1], [12]]),
  (.iload_n 2, 1, (0, 0), []),
  (.iaload, 1, (0, 0), []),
  (.ifCond .ge 7, 3, (0, 0), [[28]]),
  (.iconst 0, 1, (0, 0), []),
  (.goto 4, 3, (0, 0), [[29]])]
def qX12_comers_28 : List mO := [(.iconst 1, 1, (1, 0), [])]
def qX12_comers_29 : List mO := [(.iadd, 1, (0, 0), []),
  (.istore_n 1, 1, (0, 0), []),
  (.iinc 2 1, 3, (1, 0), []),
  (.goto (-30), 3, (0, 0), [[4]])]
def qX12_comers_37 : List mO := [(.iload_n 1, 1, (0, 0), []),
  (.ireturn, 1, (0, 0), [])]
def pX12_comers : List (Nat × List mO) := [(0, qX12_comers_0), (4, qX12_comers_4), (28, qX12_comers_28), (29, qX12_comers_29), (37, qX12_comers_37)]
def qX12_offOf_0 : List mO := [(.aload_n 0, 1, (0, 0), []),
  (.getfield 25, 3, (0, 0), [[8, 5119, 0, 1], [12]]),
  (.iload_n 1, 1, (0, 0), []),
  (.iaload, 1, (0, 0), []),
  (.aload_n 0, 1, (0, 0), []),
  (.getfield 22, 3, (0, 0), [[7, 5118, 0, 1], [12]]),
  (.iload_n 1, 1, (0, 0), []),
  (.iaload, 1, (0, 0), []),
  (.isub, 1, (0, 0), []),
  (.ireturn, 1, (0, 0), [])]
def pX12_offOf : List (Nat × List mO) := [(0, qX12_offOf_0)]
def qX12_cry_0 : List mO := [(.aload_n 0, 1, (0, 0), []),
  (.iload_n 1, 1, (0, 0), []),
  (.invokevirtual 106, 3, (0, 0), [[1, 6001, 0], [12, 156, 41, 6003]])]
def qX12_cry_5 : List mO := [(.ifCond .eq 10, 3, (0, 0), [[15]]),
  (.iload_n 2, 1, (0, 0), []),
  (.invokestatic 137, 3, (0, 0), [[1, 158, 6058, 6059, 0]])]
def qX12_cry_12 : List mO := [(.ifCond .ne 5, 3, (0, 0), [[17]])]
def qX12_cry_15 : List mO := [(.iconst (-1), 1, ((-1), 0), []),
  (.ireturn, 1, (0, 0), [])]
def qX12_cry_17 : List mO := [(.aload_n 0, 1, (0, 0), []),
  (.invokevirtual 130, 3, (0, 0), [[0, 6062, 0], [12, 178, 46, 6064]])]
def qX12_cry_21 : List mO := [(.aload_n 0, 1, (0, 0), []),
  (.iload_n 1, 1, (0, 0), []),
  (.iload_n 2, 1, (0, 0), []),
  (.iload_n 3, 1, (0, 0), []),
  (.iconst 0, 1, (0, 0), []),
  (.iconst (-1), 1, ((-1), 0), []),
  (.invokevirtual 133, 3, (0, 0), [[5, 6066, 0], [12, 179, 47, 6068]])]
def qX12_cry_30 : List mO := [(.iconst 0, 1, (0, 0), []),
  (.istore 4, 2, (0, 0), [])]
def qX12_cry_33 : List mO := [(.iload 4, 2, (0, 0), []),
  (.aload_n 0, 1, (0, 0), []),
  (.getfield 7, 3, (0, 0), [[0, 5111, 0, 1], [12]]),
  (.iconst 0, 1, (0, 0), []),
  (.iaload, 1, (0, 0), []),
  (.if_icmp .ge 55, 3, (0, 0), [[96]]),
  (.aload_n 0, 1, (0, 0), []),
  (.getfield 22, 3, (0, 0), [[7, 5118, 0, 1], [12]]),
  (.iload 4, 2, (0, 0), []),
  (.iaload, 1, (0, 0), []),
  (.ifCond .lt 39, 3, (0, 0), [[90]]),
  (.aload_n 0, 1, (0, 0), []),
  (.getfield 7, 3, (0, 0), [[0, 5111, 0, 1], [12]]),
  (.iload 4, 2, (0, 0), []),
  (.iconst 4, 1, (4, 0), []),
  (.invokestatic 66, 3, (0, 0), [[2, 163, 5234, 5235, 0]])]
def qX12_cry_64 : List mO := [(.aload_n 0, 1, (0, 0), []),
  (.getfield 25, 3, (0, 0), [[8, 5119, 0, 1], [12]]),
  (.iload 4, 2, (0, 0), []),
  (.iaload, 1, (0, 0), []),
  (.iastore, 1, (0, 0), []),
  (.aload_n 0, 1, (0, 0), []),
  (.getfield 7, 3, (0, 0), [[0, 5111, 0, 1], [12]]),
  (.iload 4, 2, (0, 0), []),
  (.iconst 5, 1, (5, 0), []),
  (.invokestatic 66, 3, (0, 0), [[2, 163, 5234, 5235, 0]])]
def qX12_cry_82 : List mO := [(.aload_n 0, 1, (0, 0), []),
  (.getfield 22, 3, (0, 0), [[7, 5118, 0, 1], [12]]),
  (.iload 4, 2, (0, 0), []),
  (.iaload, 1, (0, 0), []),
  (.iastore, 1, (0, 0), [])]
def qX12_cry_90 : List mO := [(.iinc 4 1, 3, (1, 0), []),
  (.goto (-60), 3, (0, 0), [[33]])]
def qX12_cry_96 : List mO := [(.aload_n 0, 1, (0, 0), []),
  (.invokevirtual 140, 3, (0, 0), [[0, 6074, 0], [12, 181, 48, 6076]])]
def qX12_cry_100 : List mO := [(.ireturn, 1, (0, 0), [])]
def pX12_cry : List (Nat × List mO) := [(0, qX12_cry_0), (5, qX12_cry_5), (12, qX12_cry_12), (15, qX12_cry_15), (17, qX12_cry_17), (21, qX12_cry_21), (30, qX12_cry_30), (33, qX12_cry_33), (64, qX12_cry_64), (82, qX12_cry_82), (90, qX12_cry_90), (96, qX12_cry_96), (100, qX12_cry_100)]
def qX12_shows_0 : List mO := [(.aload_n 0, 1, (0, 0), []),
  (.iload_n 1, 1, (0, 0), []),
  (.invokevirtual 106, 3, (0, 0), [[1, 6001, 0], [12, 156, 41, 6003]])]
def qX12_shows_5 : List mO := [(.ifCond .eq 15, 3, (0, 0), [[20]]),
  (.iload_n 2, 1, (0, 0), []),
  (.i2l, 1, (0, 0), []),
  (.lconst 0, 1, (0, 0), []),
  (.ldc2_w 144, 3, (0, 9999), [[6082]]),
  (.invokestatic 58, 3, (0, 0), [[3, 155, 5225, 5226, 0]])]
def qX12_shows_17 : List mO := [(.ifCond .ne 5, 3, (0, 0), [[22]])]
def qX12_shows_20 : List mO := [(.iconst (-1), 1, ((-1), 0), []),
  (.ireturn, 1, (0, 0), [])]
def qX12_shows_22 : List mO := [(.aload_n 0, 1, (0, 0), []),
  (.iload_n 1, 1, (0, 0), []),
  (.iconst 5, 1, (5, 0), []),
  (.invokevirtual 82, 3, (0, 0), [[2, 6010, 0], [12, 164, 43, 6012]])]
def qX12_shows_28 : List mO := [(.ifCond .ge 6, 3, (0, 0), [[34]]),
  (.bipush (-3), 2, ((-3), 0), []),
  (.ireturn, 1, (0, 0), [])]
def qX12_shows_34 : List mO := [(.iload_n 2, 1, (0, 0), []),
  (.aload_n 0, 1, (0, 0), []),
  (.iload_n 1, 1, (0, 0), []),
  (.iconst 5, 1, (5, 0), []),
  (.invokevirtual 82, 3, (0, 0), [[2, 6010, 0], [12, 164, 43, 6012]])]
def qX12_shows_41 : List mO := [(.if_icmp .ge 8, 3, (0, 0), [[49]]),
  (.bipush (-4), 2, ((-4), 0), []),
  (.goto 18, 3, (0, 0), [[64]])]
def qX12_shows_49 : List mO := [(.aload_n 0, 1, (0, 0), []),
  (.iload_n 1, 1, (0, 0), []),
  (.iconst 4, 1, (4, 0), []),
  (.invokevirtual 82, 3, (0, 0), [[2, 6010, 0], [12, 164, 43, 6012]])]
def qX12_shows_55 : List mO := [(.iload_n 2, 1, (0, 0), []),
  (.iadd, 1, (0, 0), []),
  (.aload_n 0, 1, (0, 0), []),
  (.iload_n 1, 1, (0, 0), []),
  (.iconst 5, 1, (5, 0), []),
  (.invokevirtual 82, 3, (0, 0), [[2, 6010, 0], [12, 164, 43, 6012]])]
def qX12_shows_63 : List mO := [(.isub, 1, (0, 0), [])]
def qX12_shows_64 : List mO := [(.ireturn, 1, (0, 0), [])]
def pX12_shows : List (Nat × List mO) := [(0, qX12_shows_0), (5, qX12_shows_5), (17, qX12_shows_17), (20, qX12_shows_20), (22, qX12_shows_22), (28, qX12_shows_28), (34, qX12_shows_34), (41, qX12_shows_41), (49, qX12_shows_49), (55, qX12_shows_55), (63, qX12_shows_63), (64, qX12_shows_64)]
def qX12_holders_0 : List mO := [(.iconst 0, 1, (0, 0), []),
  (.istore_n 1, 1, (0, 0), []),
  (.iconst 0, 1, (0, 0), []),
  (.istore_n 2, 1, (0, 0), [])]
def qX12_holders_4 : List mO := [(.iload_n 2, 1, (0, 0), []),
  (.aload_n 0, 1, (0, 0), []),
  (.getfield 7, 3, (0, 0), [[0, 5111, 0, 1], [12]]),
  (.iconst 0, 1, (0, 0), []),
  (.iaload, 1, (0, 0), []),
  (.if_icmp .ge 26, 3, (0, 0), [[37]]),
  (.iload_n 1, 1, (0, 0), []),
  (.aload_n 0, 1, (0, 0), []),
  (.iload_n 2, 1, (0, 0), []),
  (.iconst 5, 1, (5, 0), []),
  (.invokevirtual 82, 3, (0, 0), [[2, 6010, 0], [12, 164, 43, 6012]])]
def qX12_holders_21 : List mO := [(.ifCond .ge 7, 3, (0, 0), [[28]]),
  (.iconst 0, 1, (0, 0), []),
  (.goto 4, 3, (0, 0), [[29]])]
def qX12_holders_28 : List mO := [(.iconst 1, 1, (1, 0), [])]
def qX12_holders_29 : List mO := [(.iadd, 1, (0, 0), []),
  (.istore_n 1, 1, (0, 0), []),
  (.iinc 2 1, 3, (1, 0), []),
  (.goto (-30), 3, (0, 0), [[4]])]
def qX12_holders_37 : List mO := [(.iload_n 1, 1, (0, 0), []),
  (.ireturn, 1, (0, 0), [])]
def pX12_holders : List (Nat × List mO) := [(0, qX12_holders_0), (4, qX12_holders_4), (21, qX12_holders_21), (28, qX12_holders_28), (29, qX12_holders_29), (37, qX12_holders_37)]
def qX12_hush_0 : List mO := [(.aload_n 0, 1, (0, 0), []),
  (.invokevirtual 146, 3, (0, 0), [[0, 6087, 0], [12, 185, 49, 6089]])]
def qX12_hush_4 : List mO := [(.istore_n 1, 1, (0, 0), []),
  (.iconst 0, 1, (0, 0), []),
  (.istore_n 2, 1, (0, 0), [])]
def qX12_hush_7 : List mO := [(.iload_n 2, 1, (0, 0), []),
  (.aload_n 0, 1, (0, 0), []),
  (.getfield 7, 3, (0, 0), [[0, 5111, 0, 1], [12]]),
  (.iconst 0, 1, (0, 0), []),
  (.iaload, 1, (0, 0), []),
  (.if_icmp .ge 20, 3, (0, 0), [[34]]),
  (.aload_n 0, 1, (0, 0), []),
  (.getfield 7, 3, (0, 0), [[0, 5111, 0, 1], [12]]),
  (.iload_n 2, 1, (0, 0), []),
  (.iconst 5, 1, (5, 0), []),
  (.invokestatic 66, 3, (0, 0), [[2, 163, 5234, 5235, 0]])]
def qX12_hush_26 : List mO := [(.iconst (-1), 1, ((-1), 0), []),
  (.iastore, 1, (0, 0), []),
  (.iinc 2 1, 3, (1, 0), []),
  (.goto (-24), 3, (0, 0), [[7]])]
def qX12_hush_34 : List mO := [(.iload_n 1, 1, (0, 0), []),
  (.ireturn, 1, (0, 0), [])]
def pX12_hush : List (Nat × List mO) := [(0, qX12_hush_0), (4, qX12_hush_4), (7, qX12_hush_7), (26, qX12_hush_26), (34, qX12_hush_34)]
def qX12_isAsk_0 : List mO := [(.aload_n 0, 1, (0, 0), []),
  (.iload_n 1, 1, (0, 0), []),
  (.invokevirtual 106, 3, (0, 0), [[1, 6001, 0], [12, 156, 41, 6003]])]
def qX12_isAsk_5 : List mO := [(.ifCond .eq 22, 3, (0, 0), [[27]]),
  (.iload_n 2, 1, (0, 0), []),
  (.invokestatic 137, 3, (0, 0), [[1, 158, 6058, 6059, 0]])]
def qX12_isAsk_12 : List mO := [(.ifCond .eq 15, 3, (0, 0), [[27]]),
  (.aload_n 0, 1, (0, 0), []),
  (.iload_n 3, 1, (0, 0), []),
  (.invokevirtual 106, 3, (0, 0), [[1, 6001, 0], [12, 156, 41, 6003]])]
def qX12_isAsk_20 : List mO := [(.ifCond .eq 7, 3, (0, 0), [[27]]),
  (.iconst 1, 1, (1, 0), []),
  (.goto 4, 3, (0, 0), [[28]])]
def qX12_isAsk_27 : List mO := [(.iconst 0, 1, (0, 0), [])]
def qX12_isAsk_28 : List mO := [(.ireturn, 1, (0, 0), [[1]])]
def pX12_isAsk : List (Nat × List mO) := [(0, qX12_isAsk_0), (5, qX12_isAsk_5), (12, qX12_isAsk_12), (20, qX12_isAsk_20), (27, qX12_isAsk_27), (28, qX12_isAsk_28)]
def qX12_comes_0 : List mO := [(.aload_n 0, 1, (0, 0), []),
  (.iload_n 1, 1, (0, 0), []),
  (.iload_n 2, 1, (0, 0), []),
  (.iload_n 3, 1, (0, 0), []),
  (.invokevirtual 149, 3, (0, 0), [[3, 6095, 0], [12, 187, 50, 6097]])]
def qX12_comes_7 : List mO := [(.ifCond .ne 5, 3, (0, 0), [[12]]),
  (.iconst (-1), 1, ((-1), 0), []),
  (.ireturn, 1, (0, 0), [])]
def qX12_comes_12 : List mO := [(.aload_n 0, 1, (0, 0), []),
  (.iload_n 1, 1, (0, 0), []),
  (.iload_n 2, 1, (0, 0), []),
  (.invokevirtual 152, 3, (0, 0), [[2, 6099, 0], [12, 180, 51, 6101]])]
def qX12_comes_18 : List mO := [(.aload_n 0, 1, (0, 0), []),
  (.getfield 22, 3, (0, 0), [[7, 5118, 0, 1], [12]]),
  (.iload_n 3, 1, (0, 0), []),
  (.iaload, 1, (0, 0), []),
  (.ifCond .ge 8, 3, (0, 0), [[32]]),
  (.bipush (-3), 2, ((-3), 0), []),
  (.goto 9, 3, (0, 0), [[38]])]
def qX12_comes_32 : List mO := [(.aload_n 0, 1, (0, 0), []),
  (.getfield 22, 3, (0, 0), [[7, 5118, 0, 1], [12]]),
  (.iload_n 3, 1, (0, 0), []),
  (.iaload, 1, (0, 0), [])]
def qX12_comes_38 : List mO := [(.ireturn, 1, (0, 0), [])]
def pX12_comes : List (Nat × List mO) := [(0, qX12_comes_0), (7, qX12_comes_7), (12, qX12_comes_12), (18, qX12_comes_18), (32, qX12_comes_32), (38, qX12_comes_38)]
def qX12_holds_0 : List mO := [(.aload_n 0, 1, (0, 0), []),
  (.iload_n 1, 1, (0, 0), []),
  (.iload_n 2, 1, (0, 0), []),
  (.iload_n 3, 1, (0, 0), []),
  (.invokevirtual 149, 3, (0, 0), [[3, 6095, 0], [12, 187, 50, 6097]])]
def qX12_holds_7 : List mO := [(.ifCond .ne 5, 3, (0, 0), [[12]]),
  (.iconst (-1), 1, ((-1), 0), []),
  (.ireturn, 1, (0, 0), [])]
def qX12_holds_12 : List mO := [(.aload_n 0, 1, (0, 0), []),
  (.iload_n 1, 1, (0, 0), []),
  (.iload_n 2, 1, (0, 0), []),
  (.invokevirtual 152, 3, (0, 0), [[2, 6099, 0], [12, 180, 51, 6101]])]
def qX12_holds_18 : List mO := [(.aload_n 0, 1, (0, 0), []),
  (.getfield 22, 3, (0, 0), [[7, 5118, 0, 1], [12]]),
  (.iload_n 3, 1, (0, 0), []),
  (.iaload, 1, (0, 0), []),
  (.ifCond .ge 8, 3, (0, 0), [[32]]),
  (.bipush (-3), 2, ((-3), 0), []),
  (.goto 9, 3, (0, 0), [[38]])]
def qX12_holds_32 : List mO := [(.aload_n 0, 1, (0, 0), []),
  (.getfield 25, 3, (0, 0), [[8, 5119, 0, 1], [12]]),
  (.iload_n 3, 1, (0, 0), []),
  (.iaload, 1, (0, 0), [])]
def qX12_holds_38 : List mO := [(.ireturn, 1, (0, 0), [])]
def pX12_holds : List (Nat × List mO) := [(0, qX12_holds_0), (7, qX12_holds_7), (12, qX12_holds_12), (18, qX12_holds_18), (32, qX12_holds_32), (38, qX12_holds_38)]
def qX12_off_0 : List mO := [(.aload_n 0, 1, (0, 0), []),
  (.iload_n 1, 1, (0, 0), []),
  (.iload_n 2, 1, (0, 0), []),
  (.iload_n 3, 1, (0, 0), []),
  (.invokevirtual 149, 3, (0, 0), [[3, 6095, 0], [12, 187, 50, 6097]])]
def qX12_off_7 : List mO := [(.ifCond .ne 5, 3, (0, 0), [[12]]),
  (.iconst (-1), 1, ((-1), 0), []),
  (.ireturn, 1, (0, 0), [])]
def qX12_off_12 : List mO := [(.aload_n 0, 1, (0, 0), []),
  (.iload_n 1, 1, (0, 0), []),
  (.iload_n 2, 1, (0, 0), []),
  (.invokevirtual 152, 3, (0, 0), [[2, 6099, 0], [12, 180, 51, 6101]])]
def qX12_off_18 : List mO := [(.aload_n 0, 1, (0, 0), []),
  (.getfield 22, 3, (0, 0), [[7, 5118, 0, 1], [12]]),
  (.iload_n 3, 1, (0, 0), []),
  (.iaload, 1, (0, 0), []),
  (.ifCond .ge 8, 3, (0, 0), [[32]]),
  (.bipush (-3), 2, ((-3), 0), []),
  (.goto 12, 3, (0, 0), [[41]])]
def qX12_off_32 : List mO := [(.aload_n 0, 1, (0, 0), []),
  (.iload_n 3, 1, (0, 0), []),
  (.invokevirtual 156, 3, (0, 0), [[1, 6111, 0], [12, 182, 52, 6113]])]
def qX12_off_37 : List mO := [(.sipush 10000, 3, (10000, 0), []),
  (.iadd, 1, (0, 0), [])]
def qX12_off_41 : List mO := [(.ireturn, 1, (0, 0), [])]
def pX12_off : List (Nat × List mO) := [(0, qX12_off_0), (7, qX12_off_7), (12, qX12_off_12), (18, qX12_off_18), (32, qX12_off_32), (37, qX12_off_37), (41, qX12_off_41)]
def qX12_worst_0 : List mO := [(.aload_n 0, 1, (0, 0), []),
  (.iload_n 1, 1, (0, 0), []),
  (.invokevirtual 106, 3, (0, 0), [[1, 6001, 0], [12, 156, 41, 6003]])]
def qX12_worst_5 : List mO := [(.ifCond .eq 10, 3, (0, 0), [[15]]),
  (.iload_n 2, 1, (0, 0), []),
  (.invokestatic 137, 3, (0, 0), [[1, 158, 6058, 6059, 0]])]
def qX12_worst_12 : List mO := [(.ifCond .ne 5, 3, (0, 0), [[17]])]
def qX12_worst_15 : List mO := [(.iconst (-1), 1, ((-1), 0), []),
  (.ireturn, 1, (0, 0), [])]
def qX12_worst_17 : List mO := [(.aload_n 0, 1, (0, 0), []),
  (.iload_n 1, 1, (0, 0), []),
  (.iload_n 2, 1, (0, 0), []),
  (.invokevirtual 152, 3, (0, 0), [[2, 6099, 0], [12, 180, 51, 6101]])]
def qX12_worst_23 : List mO := [(.iconst (-1), 1, ((-1), 0), []),
  (.istore_n 3, 1, (0, 0), []),
  (.iconst (-1), 1, ((-1), 0), []),
  (.istore 4, 2, (0, 0), []),
  (.iconst 0, 1, (0, 0), []),
  (.istore 5, 2, (0, 0), [])]
def qX12_worst_31 : List mO := [(.iload 5, 2, (0, 0), []),
  (.aload_n 0, 1, (0, 0), []),
  (.getfield 7, 3, (0, 0), [[0, 5111, 0, 1], [12]]),
  (.iconst 0, 1, (0, 0), []),
  (.iaload, 1, (0, 0), []),
  (.if_icmp .ge 64, 3, (0, 0), [[103]]),
  (.aload_n 0, 1, (0, 0), []),
  (.getfield 22, 3, (0, 0), [[7, 5118, 0, 1], [12]]),
  (.iload 5, 2, (0, 0), []),
  (.iaload, 1, (0, 0), []),
  (.ifCond .ge 7, 3, (0, 0), [[56]]),
  (.iconst (-1), 1, ((-1), 0), []),
  (.goto 12, 3, (0, 0), [[65]])]
def qX12_worst_56 : List mO := [(.aload_n 0, 1, (0, 0), []),
  (.iload 5, 2, (0, 0), []),
  (.invokevirtual 156, 3, (0, 0), [[1, 6111, 0], [12, 182, 52, 6113]])]
def qX12_worst_62 : List mO := [(.invokestatic 160, 3, (0, 0), [[1, 160, 6119, 6120, 0]])]
def qX12_worst_65 : List mO := [(.istore 6, 2, (0, 0), []),
  (.iload 6, 2, (0, 0), []),
  (.iload 4, 2, (0, 0), []),
  (.if_icmp .le 8, 3, (0, 0), [[79]]),
  (.iload 5, 2, (0, 0), []),
  (.goto 4, 3, (0, 0), [[80]])]
def qX12_worst_79 : List mO := [(.iload_n 3, 1, (0, 0), [])]
def qX12_worst_80 : List mO := [(.istore_n 3, 1, (0, 0), []),
  (.iload 6, 2, (0, 0), []),
  (.iload 4, 2, (0, 0), []),
  (.if_icmp .le 8, 3, (0, 0), [[93]]),
  (.iload 6, 2, (0, 0), []),
  (.goto 5, 3, (0, 0), [[95]])]
def qX12_worst_93 : List mO := [(.iload 4, 2, (0, 0), [])]
def qX12_worst_95 : List mO := [(.istore 4, 2, (0, 0), []),
  (.iinc 5 1, 3, (1, 0), []),
  (.goto (-69), 3, (0, 0), [[31]])]
def qX12_worst_103 : List mO := [(.iload_n 3, 1, (0, 0), []),
  (.ireturn, 1, (0, 0), [])]
def pX12_worst : List (Nat × List mO) := [(0, qX12_worst_0), (5, qX12_worst_5), (12, qX12_worst_12), (15, qX12_worst_15), (17, qX12_worst_17), (23, qX12_worst_23), (31, qX12_worst_31), (56, qX12_worst_56), (62, qX12_worst_62), (65, qX12_worst_65), (79, qX12_worst_79), (80, qX12_worst_80), (93, qX12_worst_93), (95, qX12_worst_95), (103, qX12_worst_103)]
def qX12_within_0 : List mO := [(.aload_n 0, 1, (0, 0), []),
  (.iload_n 1, 1, (0, 0), []),
  (.invokevirtual 106, 3, (0, 0), [[1, 6001, 0], [12, 156, 41, 6003]])]
def qX12_within_5 : List mO := [(.ifCond .eq 22, 3, (0, 0), [[27]]),
  (.iload_n 2, 1, (0, 0), []),
  (.invokestatic 137, 3, (0, 0), [[1, 158, 6058, 6059, 0]])]
def qX12_within_12 : List mO := [(.ifCond .eq 15, 3, (0, 0), [[27]]),
  (.iload_n 3, 1, (0, 0), []),
  (.i2l, 1, (0, 0), []),
  (.lconst 0, 1, (0, 0), []),
  (.ldc2_w 163, 3, (0, 999), [[6126]]),
  (.invokestatic 58, 3, (0, 0), [[3, 155, 5225, 5226, 0]])]
def qX12_within_24 : List mO := [(.ifCond .ne 5, 3, (0, 0), [[29]])]
def qX12_within_27 : List mO := [(.iconst (-1), 1, ((-1), 0), []),
  (.ireturn, 1, (0, 0), [])]
def qX12_within_29 : List mO := [(.aload_n 0, 1, (0, 0), []),
  (.iload_n 1, 1, (0, 0), []),
  (.iload_n 2, 1, (0, 0), []),
  (.invokevirtual 152, 3, (0, 0), [[2, 6099, 0], [12, 180, 51, 6101]])]
def qX12_within_35 : List mO := [(.iconst 0, 1, (0, 0), []),
  (.istore 4, 2, (0, 0), []),
  (.iconst 0, 1, (0, 0), []),
  (.istore 5, 2, (0, 0), [])]
def qX12_within_41 : List mO := [(.iload 5, 2, (0, 0), []),
  (.aload_n 0, 1, (0, 0), []),
  (.getfield 7, 3, (0, 0), [[0, 5111, 0, 1], [12]]),
  (.iconst 0, 1, (0, 0), []),
  (.iaload, 1, (0, 0), []),
  (.if_icmp .ge 42, 3, (0, 0), [[91]]),
  (.iload 4, 2, (0, 0), []),
  (.aload_n 0, 1, (0, 0), []),
  (.getfield 22, 3, (0, 0), [[7, 5118, 0, 1], [12]]),
  (.iload 5, 2, (0, 0), []),
  (.iaload, 1, (0, 0), []),
  (.ifCond .lt 20, 3, (0, 0), [[81]]),
  (.aload_n 0, 1, (0, 0), []),
  (.iload 5, 2, (0, 0), []),
  (.invokevirtual 156, 3, (0, 0), [[1, 6111, 0], [12, 182, 52, 6113]])]
def qX12_within_70 : List mO := [(.invokestatic 160, 3, (0, 0), [[1, 160, 6119, 6120, 0]])]
def qX12_within_73 : List mO := [(.iload_n 3, 1, (0, 0), []),
  (.if_icmp .gt 7, 3, (0, 0), [[81]]),
  (.iconst 1, 1, (1, 0), []),
  (.goto 4, 3, (0, 0), [[82]])]
def qX12_within_81 : List mO := [(.iconst 0, 1, (0, 0), [])]
def qX12_within_82 : List mO := [(.iadd, 1, (0, 0), []),
  (.istore 4, 2, (0, 0), []),
  (.iinc 5 1, 3, (1, 0), []),
  (.goto (-47), 3, (0, 0), [[41]])]
def qX12_within_91 : List mO := [(.iload 4, 2, (0, 0), []),
  (.ireturn, 1, (0, 0), [])]
def pX12_within : List (Nat × List mO) := [(0, qX12_within_0), (5, qX12_within_5), (12, qX12_within_12), (24, qX12_within_24), (27, qX12_within_27), (29, qX12_within_29), (35, qX12_within_35), (41, qX12_within_41), (70, qX12_within_70), (73, qX12_within_73), (81, qX12_within_81), (82, qX12_within_82), (91, qX12_within_91)]
def qX12_farthest_0 : List mO := [(.aload_n 0, 1, (0, 0), []),
  (.getfield 7, 3, (0, 0), [[0, 5111, 0, 1], [12]]),
  (.iconst 2, 1, (2, 0), []),
  (.iaload, 1, (0, 0), []),
  (.istore 4, 2, (0, 0), []),
  (.iconst (-1), 1, ((-1), 0), []),
  (.istore 5, 2, (0, 0), []),
  (.iconst 0, 1, (0, 0), []),
  (.istore 6, 2, (0, 0), [])]
def qX12_farthest_14 : List mO := [(.iload 6, 2, (0, 0), []),
  (.bipush 7, 2, (7, 0), []),
  (.if_icmp .ge 62, 3, (0, 0), [[80]]),
  (.aload_n 0, 1, (0, 0), []),
  (.getfield 7, 3, (0, 0), [[0, 5111, 0, 1], [12]]),
  (.iconst 2, 1, (2, 0), []),
  (.iload 6, 2, (0, 0), []),
  (.iastore, 1, (0, 0), []),
  (.aload_n 0, 1, (0, 0), []),
  (.iload_n 2, 1, (0, 0), []),
  (.iload_n 3, 1, (0, 0), []),
  (.invokevirtual 152, 3, (0, 0), [[2, 6099, 0], [12, 180, 51, 6101]])]
def qX12_farthest_35 : List mO := [(.aload_n 0, 1, (0, 0), []),
  (.getfield 22, 3, (0, 0), [[7, 5118, 0, 1], [12]]),
  (.iload_n 1, 1, (0, 0), []),
  (.iaload, 1, (0, 0), []),
  (.ifCond .ge 7, 3, (0, 0), [[48]]),
  (.iconst (-1), 1, ((-1), 0), []),
  (.goto 11, 3, (0, 0), [[56]])]
def qX12_farthest_48 : List mO := [(.aload_n 0, 1, (0, 0), []),
  (.iload_n 1, 1, (0, 0), []),
  (.invokevirtual 156, 3, (0, 0), [[1, 6111, 0], [12, 182, 52, 6113]])]
def qX12_farthest_53 : List mO := [(.invokestatic 160, 3, (0, 0), [[1, 160, 6119, 6120, 0]])]
def qX12_farthest_56 : List mO := [(.istore 7, 2, (0, 0), []),
  (.iload 7, 2, (0, 0), []),
  (.iload 5, 2, (0, 0), []),
  (.if_icmp .le 8, 3, (0, 0), [[70]]),
  (.iload 7, 2, (0, 0), []),
  (.goto 5, 3, (0, 0), [[72]])]
def qX12_farthest_70 : List mO := [(.iload 5, 2, (0, 0), [])]
def qX12_farthest_72 : List mO := [(.istore 5, 2, (0, 0), []),
  (.iinc 6 1, 3, (1, 0), []),
  (.goto (-63), 3, (0, 0), [[14]])]
def qX12_farthest_80 : List mO := [(.aload_n 0, 1, (0, 0), []),
  (.getfield 7, 3, (0, 0), [[0, 5111, 0, 1], [12]]),
  (.iconst 2, 1, (2, 0), []),
  (.iload 4, 2, (0, 0), []),
  (.iastore, 1, (0, 0), []),
  (.iload 5, 2, (0, 0), []),
  (.ireturn, 1, (0, 0), [])]
def pX12_farthest : List (Nat × List mO) := [(0, qX12_farthest_0), (14, qX12_farthest_14), (35, qX12_farthest_35), (48, qX12_farthest_48), (53, qX12_farthest_53), (56, qX12_farthest_56), (70, qX12_farthest_70), (72, qX12_farthest_72), (80, qX12_farthest_80)]
def qX12_bestAdd_0 : List mO := [(.aload_n 0, 1, (0, 0), []),
  (.iload_n 2, 1, (0, 0), []),
  (.iload_n 3, 1, (0, 0), []),
  (.iload_n 1, 1, (0, 0), []),
  (.invokevirtual 149, 3, (0, 0), [[3, 6095, 0], [12, 187, 50, 6097]])]
def qX12_bestAdd_7 : List mO := [(.ifCond .eq 8, 3, (0, 0), [[15]]),
  (.iload_n 1, 1, (0, 0), []),
  (.iload_n 2, 1, (0, 0), []),
  (.if_icmp .ne 5, 3, (0, 0), [[17]])]
def qX12_bestAdd_15 : List mO := [(.iconst (-1), 1, ((-1), 0), []),
  (.ireturn, 1, (0, 0), [])]
def qX12_bestAdd_17 : List mO := [(.aload_n 0, 1, (0, 0), []),
  (.iload_n 1, 1, (0, 0), []),
  (.iconst 1, 1, (1, 0), []),
  (.invokevirtual 82, 3, (0, 0), [[2, 6010, 0], [12, 164, 43, 6012]])]
def qX12_bestAdd_23 : List mO := [(.istore 4, 2, (0, 0), []),
  (.iconst (-1), 1, ((-1), 0), []),
  (.istore 5, 2, (0, 0), []),
  (.iconst 0, 1, (0, 0), []),
  (.istore 6, 2, (0, 0), []),
  (.iconst 0, 1, (0, 0), []),
  (.istore 7, 2, (0, 0), [])]
def qX12_bestAdd_34 : List mO := [(.iload 7, 2, (0, 0), []),
  (.bipush 100, 2, (100, 0), []),
  (.if_icmp .ge 55, 3, (0, 0), [[93]]),
  (.aload_n 0, 1, (0, 0), []),
  (.getfield 7, 3, (0, 0), [[0, 5111, 0, 1], [12]]),
  (.iload_n 1, 1, (0, 0), []),
  (.iconst 1, 1, (1, 0), []),
  (.invokestatic 66, 3, (0, 0), [[2, 163, 5234, 5235, 0]])]
def qX12_bestAdd_50 : List mO := [(.iload 7, 2, (0, 0), []),
  (.iastore, 1, (0, 0), []),
  (.aload_n 0, 1, (0, 0), []),
  (.iload_n 1, 1, (0, 0), []),
  (.iload_n 2, 1, (0, 0), []),
  (.iload_n 3, 1, (0, 0), []),
  (.invokevirtual 165, 3, (0, 0), [[3, 6131, 0], [12, 193, 53, 6133]])]
def qX12_bestAdd_60 : List mO := [(.istore 8, 2, (0, 0), []),
  (.iload 8, 2, (0, 0), []),
  (.ifCond .lt 23, 3, (0, 0), [[87]]),
  (.iload 5, 2, (0, 0), []),
  (.ifCond .lt 10, 3, (0, 0), [[79]]),
  (.iload 8, 2, (0, 0), []),
  (.iload 6, 2, (0, 0), []),
  (.if_icmp .ge 11, 3, (0, 0), [[87]])]
def qX12_bestAdd_79 : List mO := [(.iload 7, 2, (0, 0), []),
  (.istore 5, 2, (0, 0), []),
  (.iload 8, 2, (0, 0), []),
  (.istore 6, 2, (0, 0), [])]
def qX12_bestAdd_87 : List mO := [(.iinc 7 1, 3, (1, 0), []),
  (.goto (-56), 3, (0, 0), [[34]])]
def qX12_bestAdd_93 : List mO := [(.aload_n 0, 1, (0, 0), []),
  (.getfield 7, 3, (0, 0), [[0, 5111, 0, 1], [12]]),
  (.iload_n 1, 1, (0, 0), []),
  (.iconst 1, 1, (1, 0), []),
  (.invokestatic 66, 3, (0, 0), [[2, 163, 5234, 5235, 0]])]
def qX12_bestAdd_102 : List mO := [(.iload 4, 2, (0, 0), []),
  (.iastore, 1, (0, 0), []),
  (.iload 5, 2, (0, 0), []),
  (.ifCond .ge 8, 3, (0, 0), [[115]]),
  (.bipush (-3), 2, ((-3), 0), []),
  (.goto 5, 3, (0, 0), [[117]])]
def qX12_bestAdd_115 : List mO := [(.iload 5, 2, (0, 0), [])]
def qX12_bestAdd_117 : List mO := [(.ireturn, 1, (0, 0), [])]
def pX12_bestAdd : List (Nat × List mO) := [(0, qX12_bestAdd_0), (7, qX12_bestAdd_7), (15, qX12_bestAdd_15), (17, qX12_bestAdd_17), (23, qX12_bestAdd_23), (34, qX12_bestAdd_34), (50, qX12_bestAdd_50), (60, qX12_bestAdd_60), (79, qX12_bestAdd_79), (87, qX12_bestAdd_87), (93, qX12_bestAdd_93), (102, qX12_bestAdd_102), (115, qX12_bestAdd_115), (117, qX12_bestAdd_117)]
def qX12_clocked_0 : List mO := [(.aload_n 0, 1, (0, 0), []),
  (.invokevirtual 130, 3, (0, 0), [[0, 6062, 0], [12, 178, 46, 6064]])]
def qX12_clocked_4 : List mO := [(.iconst 0, 1, (0, 0), []),
  (.istore_n 3, 1, (0, 0), [])]
def qX12_clocked_6 : List mO := [(.iload_n 3, 1, (0, 0), []),
  (.aload_n 0, 1, (0, 0), []),
  (.getfield 7, 3, (0, 0), [[0, 5111, 0, 1], [12]]),
  (.iconst 0, 1, (0, 0), []),
  (.iaload, 1, (0, 0), []),
  (.if_icmp .ge 26, 3, (0, 0), [[39]]),
  (.iload_n 1, 1, (0, 0), []),
  (.iload_n 3, 1, (0, 0), []),
  (.invokestatic 123, 3, (0, 0), [[2, 159, 6070, 6071, 0]])]
def qX12_clocked_21 : List mO := [(.ifCond .eq 12, 3, (0, 0), [[33]]),
  (.aload_n 0, 1, (0, 0), []),
  (.iload_n 3, 1, (0, 0), []),
  (.iload_n 2, 1, (0, 0), []),
  (.iconst 1, 1, (1, 0), []),
  (.iload_n 1, 1, (0, 0), []),
  (.iconst (-1), 1, ((-1), 0), []),
  (.invokevirtual 133, 3, (0, 0), [[5, 6066, 0], [12, 179, 47, 6068]])]
def qX12_clocked_33 : List mO := [(.iinc 3 1, 3, (1, 0), []),
  (.goto (-30), 3, (0, 0), [[6]])]
def qX12_clocked_39 : List mO := [(.iconst 0, 1, (0, 0), []),
  (.istore_n 3, 1, (0, 0), []),
  (.iconst 0, 1, (0, 0), []),
  (.istore 4, 2, (0, 0), [])]
def qX12_clocked_44 : List mO := [(.iload 4, 2, (0, 0), []),
  (.aload_n 0, 1, (0, 0), []),
  (.getfield 7, 3, (0, 0), [[0, 5111, 0, 1], [12]]),
  (.iconst 0, 1, (0, 0), []),
  (.iaload, 1, (0, 0), []),
  (.if_icmp .ge 60, 3, (0, 0), [[112]]),
  (.aload_n 0, 1, (0, 0), []),
  (.getfield 22, 3, (0, 0), [[7, 5118, 0, 1], [12]]),
  (.iload 4, 2, (0, 0), []),
  (.iaload, 1, (0, 0), []),
  (.ifCond .ge 7, 3, (0, 0), [[69]]),
  (.iconst (-1), 1, ((-1), 0), []),
  (.goto 12, 3, (0, 0), [[78]])]
def qX12_clocked_69 : List mO := [(.aload_n 0, 1, (0, 0), []),
  (.iload 4, 2, (0, 0), []),
  (.invokevirtual 156, 3, (0, 0), [[1, 6111, 0], [12, 182, 52, 6113]])]
def qX12_clocked_75 : List mO := [(.invokestatic 160, 3, (0, 0), [[1, 160, 6119, 6120, 0]])]
def qX12_clocked_78 : List mO := [(.istore 5, 2, (0, 0), []),
  (.iload 5, 2, (0, 0), []),
  (.ifCond .lt 7, 3, (0, 0), [[89]]),
  (.iload_n 3, 1, (0, 0), []),
  (.ifCond .ge 7, 3, (0, 0), [[93]])]
def qX12_clocked_89 : List mO := [(.iconst (-1), 1, ((-1), 0), []),
  (.goto 15, 3, (0, 0), [[105]])]
def qX12_clocked_93 : List mO := [(.iload 5, 2, (0, 0), []),
  (.iload_n 3, 1, (0, 0), []),
  (.if_icmp .le 8, 3, (0, 0), [[104]]),
  (.iload 5, 2, (0, 0), []),
  (.goto 4, 3, (0, 0), [[105]])]
def qX12_clocked_104 : List mO := [(.iload_n 3, 1, (0, 0), [])]
def qX12_clocked_105 : List mO := [(.istore_n 3, 1, (0, 0), []),
  (.iinc 4 1, 3, (1, 0), []),
  (.goto (-65), 3, (0, 0), [[44]])]
def qX12_clocked_112 : List mO := [(.iload_n 3, 1, (0, 0), []),
  (.ireturn, 1, (0, 0), [])]
def pX12_clocked : List (Nat × List mO) := [(0, qX12_clocked_0), (4, qX12_clocked_4), (6, qX12_clocked_6), (21, qX12_clocked_21), (33, qX12_clocked_33), (39, qX12_clocked_39), (44, qX12_clocked_44), (69, qX12_clocked_69), (75, qX12_clocked_75), (78, qX12_clocked_78), (89, qX12_clocked_89), (93, qX12_clocked_93), (104, qX12_clocked_104), (105, qX12_clocked_105), (112, qX12_clocked_112)]
def qX12_clocks_0 : List mO := [(.iload_n 1, 1, (0, 0), []),
  (.i2l, 1, (0, 0), []),
  (.lconst 0, 1, (0, 0), []),
  (.iconst 1, 1, (1, 0), []),
  (.aload_n 0, 1, (0, 0), []),
  (.getfield 7, 3, (0, 0), [[0, 5111, 0, 1], [12]]),
  (.iconst 0, 1, (0, 0), []),
  (.iaload, 1, (0, 0), []),
  (.ishl, 1, (0, 0), []),
  (.iconst 1, 1, (1, 0), []),
  (.isub, 1, (0, 0), []),
  (.i2l, 1, (0, 0), []),
  (.invokestatic 58, 3, (0, 0), [[3, 155, 5225, 5226, 0]])]
def qX12_clocks_17 : List mO := [(.ifCond .eq 10, 3, (0, 0), [[27]]),
  (.iload_n 2, 1, (0, 0), []),
  (.invokestatic 137, 3, (0, 0), [[1, 158, 6058, 6059, 0]])]
def qX12_clocks_24 : List mO := [(.ifCond .ne 5, 3, (0, 0), [[29]])]
def qX12_clocks_27 : List mO := [(.iconst (-1), 1, ((-1), 0), []),
  (.ireturn, 1, (0, 0), [])]
def qX12_clocks_29 : List mO := [(.aload_n 0, 1, (0, 0), []),
  (.iload_n 1, 1, (0, 0), []),
  (.iload_n 2, 1, (0, 0), []),
  (.invokevirtual 169, 3, (0, 0), [[2, 6139, 0], [12, 195, 54, 6141]])]
def qX12_clocks_35 : List mO := [(.istore_n 3, 1, (0, 0), []),
  (.iload_n 3, 1, (0, 0), []),
  (.ifCond .ge 8, 3, (0, 0), [[45]]),
  (.bipush (-3), 2, ((-3), 0), []),
  (.goto 4, 3, (0, 0), [[46]])]
def qX12_clocks_45 : List mO := [(.iload_n 3, 1, (0, 0), [])]
def qX12_clocks_46 : List mO := [(.ireturn, 1, (0, 0), [])]
def pX12_clocks : List (Nat × List mO) := [(0, qX12_clocks_0), (17, qX12_clocks_17), (24, qX12_clocks_24), (27, qX12_clocks_27), (29, qX12_clocks_29), (35, qX12_clocks_35), (45, qX12_clocks_45), (46, qX12_clocks_46)]
def qX12_ones_0 : List mO := [(.iconst 0, 1, (0, 0), []),
  (.istore_n 1, 1, (0, 0), []),
  (.iload_n 0, 1, (0, 0), []),
  (.istore_n 2, 1, (0, 0), [])]
def qX12_ones_4 : List mO := [(.iload_n 2, 1, (0, 0), []),
  (.ifCond .eq 15, 3, (0, 0), [[20]]),
  (.iinc 1 1, 3, (1, 0), []),
  (.iload_n 2, 1, (0, 0), []),
  (.iload_n 2, 1, (0, 0), []),
  (.iconst 1, 1, (1, 0), []),
  (.isub, 1, (0, 0), []),
  (.iand, 1, (0, 0), []),
  (.istore_n 2, 1, (0, 0), []),
  (.goto (-13), 3, (0, 0), [[4]])]
def qX12_ones_20 : List mO := [(.iload_n 1, 1, (0, 0), []),
  (.ireturn, 1, (0, 0), [])]
def pX12_ones : List (Nat × List mO) := [(0, qX12_ones_0), (4, qX12_ones_4), (20, qX12_ones_20)]
def qX12_fewest_0 : List mO := [(.iload_n 1, 1, (0, 0), []),
  (.i2l, 1, (0, 0), []),
  (.lconst 0, 1, (0, 0), []),
  (.ldc2_w 163, 3, (0, 999), [[6126]]),
  (.invokestatic 58, 3, (0, 0), [[3, 155, 5225, 5226, 0]])]
def qX12_fewest_9 : List mO := [(.ifCond .eq 10, 3, (0, 0), [[19]]),
  (.iload_n 2, 1, (0, 0), []),
  (.invokestatic 137, 3, (0, 0), [[1, 158, 6058, 6059, 0]])]
def qX12_fewest_16 : List mO := [(.ifCond .ne 5, 3, (0, 0), [[21]])]
def qX12_fewest_19 : List mO := [(.iconst (-1), 1, ((-1), 0), []),
  (.ireturn, 1, (0, 0), [])]
def qX12_fewest_21 : List mO := [(.iconst (-1), 1, ((-1), 0), []),
  (.istore_n 3, 1, (0, 0), []),
  (.iconst 1, 1, (1, 0), []),
  (.istore 4, 2, (0, 0), [])]
def qX12_fewest_26 : List mO := [(.iload 4, 2, (0, 0), []),
  (.iconst 1, 1, (1, 0), []),
  (.aload_n 0, 1, (0, 0), []),
  (.getfield 7, 3, (0, 0), [[0, 5111, 0, 1], [12]]),
  (.iconst 0, 1, (0, 0), []),
  (.iaload, 1, (0, 0), []),
  (.ishl, 1, (0, 0), []),
  (.if_icmp .ge 52, 3, (0, 0), [[88]]),
  (.iload_n 3, 1, (0, 0), []),
  (.ifCond .lt 15, 3, (0, 0), [[55]]),
  (.iload 4, 2, (0, 0), []),
  (.invokestatic 172, 3, (0, 0), [[1, 197, 6147, 6148, 0]])]
def qX12_fewest_48 : List mO := [(.iload_n 3, 1, (0, 0), []),
  (.invokestatic 172, 3, (0, 0), [[1, 197, 6147, 6148, 0]])]
def qX12_fewest_52 : List mO := [(.if_icmp .ge 30, 3, (0, 0), [[82]])]
def qX12_fewest_55 : List mO := [(.aload_n 0, 1, (0, 0), []),
  (.iload 4, 2, (0, 0), []),
  (.iload_n 2, 1, (0, 0), []),
  (.invokevirtual 169, 3, (0, 0), [[2, 6139, 0], [12, 195, 54, 6141]])]
def qX12_fewest_62 : List mO := [(.istore 5, 2, (0, 0), []),
  (.iload 5, 2, (0, 0), []),
  (.ifCond .lt 14, 3, (0, 0), [[80]]),
  (.iload 5, 2, (0, 0), []),
  (.iload_n 1, 1, (0, 0), []),
  (.if_icmp .gt 8, 3, (0, 0), [[80]]),
  (.iload 4, 2, (0, 0), []),
  (.goto 4, 3, (0, 0), [[81]])]
def qX12_fewest_80 : List mO := [(.iload_n 3, 1, (0, 0), [])]
def qX12_fewest_81 : List mO := [(.istore_n 3, 1, (0, 0), [])]
def qX12_fewest_82 : List mO := [(.iinc 4 1, 3, (1, 0), []),
  (.goto (-59), 3, (0, 0), [[26]])]
def qX12_fewest_88 : List mO := [(.iload_n 3, 1, (0, 0), []),
  (.ifCond .ge 8, 3, (0, 0), [[97]]),
  (.bipush (-3), 2, ((-3), 0), []),
  (.goto 4, 3, (0, 0), [[98]])]
def qX12_fewest_97 : List mO := [(.iload_n 3, 1, (0, 0), [])]
def qX12_fewest_98 : List mO := [(.ireturn, 1, (0, 0), [])]
def pX12_fewest : List (Nat × List mO) := [(0, qX12_fewest_0), (9, qX12_fewest_9), (16, qX12_fewest_16), (19, qX12_fewest_19), (21, qX12_fewest_21), (26, qX12_fewest_26), (48, qX12_fewest_48), (52, qX12_fewest_52), (55, qX12_fewest_55), (62, qX12_fewest_62), (80, qX12_fewest_80), (81, qX12_fewest_81), (82, qX12_fewest_82), (88, qX12_fewest_88), (97, qX12_fewest_97), (98, qX12_fewest_98)]
def qX12_crossed_0 : List mO := [(.iload_n 1, 1, (0, 0), []),
  (.invokestatic 137, 3, (0, 0), [[1, 158, 6058, 6059, 0]])]
def qX12_crossed_4 : List mO := [(.ifCond .eq 10, 3, (0, 0), [[14]]),
  (.iload_n 2, 1, (0, 0), []),
  (.invokestatic 137, 3, (0, 0), [[1, 158, 6058, 6059, 0]])]
def qX12_crossed_11 : List mO := [(.ifCond .ne 5, 3, (0, 0), [[16]])]
def qX12_crossed_14 : List mO := [(.iconst (-1), 1, ((-1), 0), []),
  (.ireturn, 1, (0, 0), [])]
def qX12_crossed_16 : List mO := [(.aload_n 0, 1, (0, 0), []),
  (.getfield 7, 3, (0, 0), [[0, 5111, 0, 1], [12]]),
  (.iconst 0, 1, (0, 0), []),
  (.iaload, 1, (0, 0), []),
  (.istore_n 3, 1, (0, 0), []),
  (.aload_n 0, 1, (0, 0), []),
  (.invokevirtual 130, 3, (0, 0), [[0, 6062, 0], [12, 178, 46, 6064]])]
def qX12_crossed_27 : List mO := [(.iload_n 3, 1, (0, 0), []),
  (.ifCond .le 12, 3, (0, 0), [[40]]),
  (.aload_n 0, 1, (0, 0), []),
  (.iconst 0, 1, (0, 0), []),
  (.iload_n 1, 1, (0, 0), []),
  (.iconst 1, 1, (1, 0), []),
  (.iconst 0, 1, (0, 0), []),
  (.iconst (-1), 1, ((-1), 0), []),
  (.invokevirtual 133, 3, (0, 0), [[5, 6066, 0], [12, 179, 47, 6068]])]
def qX12_crossed_40 : List mO := [(.iconst 0, 1, (0, 0), []),
  (.istore 4, 2, (0, 0), [])]
def qX12_crossed_43 : List mO := [(.iload 4, 2, (0, 0), []),
  (.bipush 9, 2, (9, 0), []),
  (.if_icmp .ge 23, 3, (0, 0), [[70]]),
  (.aload_n 0, 1, (0, 0), []),
  (.getfield 28, 3, (0, 0), [[9, 5120, 0, 1], [12]]),
  (.iload 4, 2, (0, 0), []),
  (.aload_n 0, 1, (0, 0), []),
  (.getfield 22, 3, (0, 0), [[7, 5118, 0, 1], [12]]),
  (.iload 4, 2, (0, 0), []),
  (.iaload, 1, (0, 0), []),
  (.iastore, 1, (0, 0), []),
  (.iinc 4 1, 3, (1, 0), []),
  (.goto (-24), 3, (0, 0), [[43]])]
def qX12_crossed_70 : List mO := [(.aload_n 0, 1, (0, 0), []),
  (.invokevirtual 130, 3, (0, 0), [[0, 6062, 0], [12, 178, 46, 6064]])]
def qX12_crossed_74 : List mO := [(.iload_n 3, 1, (0, 0), []),
  (.ifCond .le 14, 3, (0, 0), [[89]]),
  (.aload_n 0, 1, (0, 0), []),
  (.iload_n 3, 1, (0, 0), []),
  (.iconst 1, 1, (1, 0), []),
  (.isub, 1, (0, 0), []),
  (.iload_n 2, 1, (0, 0), []),
  (.iconst 0, 1, (0, 0), []),
  (.iconst 0, 1, (0, 0), []),
  (.iconst (-1), 1, ((-1), 0), []),
  (.invokevirtual 133, 3, (0, 0), [[5, 6066, 0], [12, 179, 47, 6068]])]
def qX12_crossed_89 : List mO := [(.iconst (-1), 1, ((-1), 0), []),
  (.istore 4, 2, (0, 0), []),
  (.iconst 0, 1, (0, 0), []),
  (.istore 5, 2, (0, 0), [])]
def qX12_crossed_95 : List mO := [(.iload 5, 2, (0, 0), []),
  (.iload_n 3, 1, (0, 0), []),
  (.if_icmp .ge 59, 3, (0, 0), [[157]]),
  (.iload 4, 2, (0, 0), []),
  (.ifCond .ge 54, 3, (0, 0), [[157]]),
  (.aload_n 0, 1, (0, 0), []),
  (.getfield 22, 3, (0, 0), [[7, 5118, 0, 1], [12]]),
  (.iload 5, 2, (0, 0), []),
  (.iaload, 1, (0, 0), []),
  (.ifCond .lt 35, 3, (0, 0), [[148]]),
  (.aload_n 0, 1, (0, 0), []),
  (.getfield 28, 3, (0, 0), [[9, 5120, 0, 1], [12]]),
  (.iload 5, 2, (0, 0), []),
  (.iaload, 1, (0, 0), []),
  (.ifCond .lt 25, 3, (0, 0), [[148]]),
  (.aload_n 0, 1, (0, 0), []),
  (.getfield 22, 3, (0, 0), [[7, 5118, 0, 1], [12]]),
  (.iload 5, 2, (0, 0), []),
  (.iaload, 1, (0, 0), []),
  (.aload_n 0, 1, (0, 0), []),
  (.getfield 28, 3, (0, 0), [[9, 5120, 0, 1], [12]]),
  (.iload 5, 2, (0, 0), []),
  (.iaload, 1, (0, 0), []),
  (.if_icmp .gt 8, 3, (0, 0), [[148]]),
  (.iload 5, 2, (0, 0), []),
  (.goto 4, 3, (0, 0), [[149]])]
def qX12_crossed_148 : List mO := [(.iconst (-1), 1, ((-1), 0), [])]
def qX12_crossed_149 : List mO := [(.istore 4, 2, (0, 0), []),
  (.iinc 5 1, 3, (1, 0), []),
  (.goto (-59), 3, (0, 0), [[95]])]
def qX12_crossed_157 : List mO := [(.iload 4, 2, (0, 0), []),
  (.ifCond .ge 8, 3, (0, 0), [[167]]),
  (.bipush (-3), 2, ((-3), 0), []),
  (.goto 5, 3, (0, 0), [[169]])]
def qX12_crossed_167 : List mO := [(.iload 4, 2, (0, 0), [])]
def qX12_crossed_169 : List mO := [(.ireturn, 1, (0, 0), [])]
def pX12_crossed : List (Nat × List mO) := [(0, qX12_crossed_0), (4, qX12_crossed_4), (11, qX12_crossed_11), (14, qX12_crossed_14), (16, qX12_crossed_16), (27, qX12_crossed_27), (40, qX12_crossed_40), (43, qX12_crossed_43), (70, qX12_crossed_70), (74, qX12_crossed_74), (89, qX12_crossed_89), (95, qX12_crossed_95), (148, qX12_crossed_148), (149, qX12_crossed_149), (157, qX12_crossed_157), (167, qX12_crossed_167), (169, qX12_crossed_169)]
def qX12_fromFirst_0 : List mO := [(.aload_n 0, 1, (0, 0), []),
  (.invokevirtual 130, 3, (0, 0), [[0, 6062, 0], [12, 178, 46, 6064]])]
def qX12_fromFirst_4 : List mO := [(.aload_n 0, 1, (0, 0), []),
  (.iconst 0, 1, (0, 0), []),
  (.iload_n 1, 1, (0, 0), []),
  (.iconst 1, 1, (1, 0), []),
  (.iconst 0, 1, (0, 0), []),
  (.iload_n 2, 1, (0, 0), []),
  (.invokevirtual 133, 3, (0, 0), [[5, 6066, 0], [12, 179, 47, 6068]])]
def qX12_fromFirst_13 : List mO := [(.return_, 1, (0, 0), [])]
def pX12_fromFirst : List (Nat × List mO) := [(0, qX12_fromFirst_0), (4, qX12_fromFirst_4), (13, qX12_fromFirst_13)]
def qX12_noonOf_0 : List mO := [(.aload_n 0, 1, (0, 0), []),
  (.getfield 22, 3, (0, 0), [[7, 5118, 0, 1], [12]]),
  (.iload_n 1, 1, (0, 0), []),
  (.iaload, 1, (0, 0), []),
  (.sipush 720, 3, (720, 0), []),
  (.iadd, 1, (0, 0), []),
  (.aload_n 0, 1, (0, 0), []),
  (.getfield 25, 3, (0, 0), [[8, 5119, 0, 1], [12]]),
  (.iload_n 1, 1, (0, 0), []),
  (.iaload, 1, (0, 0), []),
  (.isub, 1, (0, 0), []),
  (.ireturn, 1, (0, 0), [])]
def pX12_noonOf : List (Nat × List mO) := [(0, qX12_noonOf_0)]
def qX12_noon_0 : List mO := [(.aload_n 0, 1, (0, 0), []),
  (.iload_n 1, 1, (0, 0), []),
  (.invokevirtual 106, 3, (0, 0), [[1, 6001, 0], [12, 156, 41, 6003]])]
def qX12_noon_5 : List mO := [(.ifCond .eq 10, 3, (0, 0), [[15]]),
  (.iload_n 2, 1, (0, 0), []),
  (.invokestatic 137, 3, (0, 0), [[1, 158, 6058, 6059, 0]])]
def qX12_noon_12 : List mO := [(.ifCond .ne 5, 3, (0, 0), [[17]])]
def qX12_noon_15 : List mO := [(.iconst (-1), 1, ((-1), 0), []),
  (.ireturn, 1, (0, 0), [])]
def qX12_noon_17 : List mO := [(.aload_n 0, 1, (0, 0), []),
  (.iload_n 2, 1, (0, 0), []),
  (.iconst (-1), 1, ((-1), 0), []),
  (.invokevirtual 175, 3, (0, 0), [[2, 6158, 0], [12, 200, 55, 6160]])]
def qX12_noon_23 : List mO := [(.aload_n 0, 1, (0, 0), []),
  (.getfield 22, 3, (0, 0), [[7, 5118, 0, 1], [12]]),
  (.iload_n 1, 1, (0, 0), []),
  (.iaload, 1, (0, 0), []),
  (.ifCond .ge 8, 3, (0, 0), [[37]]),
  (.bipush (-3), 2, ((-3), 0), []),
  (.goto 12, 3, (0, 0), [[46]])]
def qX12_noon_37 : List mO := [(.aload_n 0, 1, (0, 0), []),
  (.iload_n 1, 1, (0, 0), []),
  (.invokevirtual 178, 3, (0, 0), [[1, 6162, 0], [12, 201, 56, 6164]])]
def qX12_noon_42 : List mO := [(.sipush 10000, 3, (10000, 0), []),
  (.iadd, 1, (0, 0), [])]
def qX12_noon_46 : List mO := [(.ireturn, 1, (0, 0), [])]
def pX12_noon : List (Nat × List mO) := [(0, qX12_noon_0), (5, qX12_noon_5), (12, qX12_noon_12), (15, qX12_noon_15), (17, qX12_noon_17), (23, qX12_noon_23), (37, qX12_noon_37), (42, qX12_noon_42), (46, qX12_noon_46)]
def qX12_firstNoon_0 : List mO := [(.iload_n 1, 1, (0, 0), []),
  (.invokestatic 137, 3, (0, 0), [[1, 158, 6058, 6059, 0]])]
def qX12_firstNoon_4 : List mO := [(.ifCond .ne 5, 3, (0, 0), [[9]]),
  (.iconst (-1), 1, ((-1), 0), []),
  (.ireturn, 1, (0, 0), [])]
def qX12_firstNoon_9 : List mO := [(.aload_n 0, 1, (0, 0), []),
  (.getfield 7, 3, (0, 0), [[0, 5111, 0, 1], [12]]),
  (.iconst 0, 1, (0, 0), []),
  (.iaload, 1, (0, 0), []),
  (.ifCond .ne 6, 3, (0, 0), [[21]]),
  (.bipush (-3), 2, ((-3), 0), []),
  (.ireturn, 1, (0, 0), [])]
def qX12_firstNoon_21 : List mO := [(.aload_n 0, 1, (0, 0), []),
  (.iload_n 1, 1, (0, 0), []),
  (.iconst (-1), 1, ((-1), 0), []),
  (.invokevirtual 175, 3, (0, 0), [[2, 6158, 0], [12, 200, 55, 6160]])]
def qX12_firstNoon_27 : List mO := [(.iconst 0, 1, (0, 0), []),
  (.istore_n 2, 1, (0, 0), []),
  (.iconst 1, 1, (1, 0), []),
  (.istore_n 3, 1, (0, 0), [])]
def qX12_firstNoon_31 : List mO := [(.iload_n 3, 1, (0, 0), []),
  (.aload_n 0, 1, (0, 0), []),
  (.getfield 7, 3, (0, 0), [[0, 5111, 0, 1], [12]]),
  (.iconst 0, 1, (0, 0), []),
  (.iaload, 1, (0, 0), []),
  (.if_icmp .ge 37, 3, (0, 0), [[75]]),
  (.aload_n 0, 1, (0, 0), []),
  (.getfield 22, 3, (0, 0), [[7, 5118, 0, 1], [12]]),
  (.iload_n 3, 1, (0, 0), []),
  (.iaload, 1, (0, 0), []),
  (.ifCond .lt 20, 3, (0, 0), [[67]]),
  (.aload_n 0, 1, (0, 0), []),
  (.iload_n 3, 1, (0, 0), []),
  (.invokevirtual 178, 3, (0, 0), [[1, 6162, 0], [12, 201, 56, 6164]])]
def qX12_firstNoon_55 : List mO := [(.aload_n 0, 1, (0, 0), []),
  (.iload_n 2, 1, (0, 0), []),
  (.invokevirtual 178, 3, (0, 0), [[1, 6162, 0], [12, 201, 56, 6164]])]
def qX12_firstNoon_60 : List mO := [(.if_icmp .ge 7, 3, (0, 0), [[67]]),
  (.iload_n 3, 1, (0, 0), []),
  (.goto 4, 3, (0, 0), [[68]])]
def qX12_firstNoon_67 : List mO := [(.iload_n 2, 1, (0, 0), [])]
def qX12_firstNoon_68 : List mO := [(.istore_n 2, 1, (0, 0), []),
  (.iinc 3 1, 3, (1, 0), []),
  (.goto (-41), 3, (0, 0), [[31]])]
def qX12_firstNoon_75 : List mO := [(.iload_n 2, 1, (0, 0), []),
  (.ireturn, 1, (0, 0), [])]
def pX12_firstNoon : List (Nat × List mO) := [(0, qX12_firstNoon_0), (4, qX12_firstNoon_4), (9, qX12_firstNoon_9), (21, qX12_firstNoon_21), (27, qX12_firstNoon_27), (31, qX12_firstNoon_31), (55, qX12_firstNoon_55), (60, qX12_firstNoon_60), (67, qX12_firstNoon_67), (68, qX12_firstNoon_68), (75, qX12_firstNoon_75)]
def qX12_waits_0 : List mO := [(.aload_n 0, 1, (0, 0), []),
  (.iload_n 1, 1, (0, 0), []),
  (.invokevirtual 106, 3, (0, 0), [[1, 6001, 0], [12, 156, 41, 6003]])]
def qX12_waits_5 : List mO := [(.ifCond .eq 23, 3, (0, 0), [[28]]),
  (.aload_n 0, 1, (0, 0), []),
  (.iload_n 2, 1, (0, 0), []),
  (.invokevirtual 106, 3, (0, 0), [[1, 6001, 0], [12, 156, 41, 6003]])]
def qX12_waits_13 : List mO := [(.ifCond .eq 15, 3, (0, 0), [[28]]),
  (.iload_n 1, 1, (0, 0), []),
  (.iload_n 2, 1, (0, 0), []),
  (.if_icmp .eq 10, 3, (0, 0), [[28]]),
  (.iload_n 3, 1, (0, 0), []),
  (.invokestatic 137, 3, (0, 0), [[1, 158, 6058, 6059, 0]])]
def qX12_waits_25 : List mO := [(.ifCond .ne 5, 3, (0, 0), [[30]])]
def qX12_waits_28 : List mO := [(.iconst (-1), 1, ((-1), 0), []),
  (.ireturn, 1, (0, 0), [])]
def qX12_waits_30 : List mO := [(.aload_n 0, 1, (0, 0), []),
  (.iload_n 3, 1, (0, 0), []),
  (.iconst (-1), 1, ((-1), 0), []),
  (.invokevirtual 175, 3, (0, 0), [[2, 6158, 0], [12, 200, 55, 6160]])]
def qX12_waits_36 : List mO := [(.aload_n 0, 1, (0, 0), []),
  (.getfield 22, 3, (0, 0), [[7, 5118, 0, 1], [12]]),
  (.iload_n 1, 1, (0, 0), []),
  (.iaload, 1, (0, 0), []),
  (.ifCond .lt 12, 3, (0, 0), [[54]]),
  (.aload_n 0, 1, (0, 0), []),
  (.getfield 22, 3, (0, 0), [[7, 5118, 0, 1], [12]]),
  (.iload_n 2, 1, (0, 0), []),
  (.iaload, 1, (0, 0), []),
  (.ifCond .ge 6, 3, (0, 0), [[57]])]
def qX12_waits_54 : List mO := [(.bipush (-3), 2, ((-3), 0), []),
  (.ireturn, 1, (0, 0), [])]
def qX12_waits_57 : List mO := [(.iconst 0, 1, (0, 0), []),
  (.istore 4, 2, (0, 0), []),
  (.iconst 1, 1, (1, 0), []),
  (.istore 5, 2, (0, 0), [])]
def qX12_waits_63 : List mO := [(.iload 5, 2, (0, 0), []),
  (.aload_n 0, 1, (0, 0), []),
  (.getfield 7, 3, (0, 0), [[0, 5111, 0, 1], [12]]),
  (.iconst 0, 1, (0, 0), []),
  (.iaload, 1, (0, 0), []),
  (.if_icmp .ge 74, 3, (0, 0), [[145]]),
  (.iload_n 1, 1, (0, 0), []),
  (.iload_n 2, 1, (0, 0), []),
  (.if_icmp .ge 23, 3, (0, 0), [[99]]),
  (.iload 5, 2, (0, 0), []),
  (.iload_n 1, 1, (0, 0), []),
  (.if_icmp .le 13, 3, (0, 0), [[95]]),
  (.iload 5, 2, (0, 0), []),
  (.iload_n 2, 1, (0, 0), []),
  (.if_icmp .gt 7, 3, (0, 0), [[95]]),
  (.iconst 1, 1, (1, 0), []),
  (.goto 24, 3, (0, 0), [[116]])]
def qX12_waits_95 : List mO := [(.iconst 0, 1, (0, 0), []),
  (.goto 20, 3, (0, 0), [[116]])]
def qX12_waits_99 : List mO := [(.iload 5, 2, (0, 0), []),
  (.iload_n 2, 1, (0, 0), []),
  (.if_icmp .le 13, 3, (0, 0), [[115]]),
  (.iload 5, 2, (0, 0), []),
  (.iload_n 1, 1, (0, 0), []),
  (.if_icmp .gt 7, 3, (0, 0), [[115]]),
  (.iconst 1, 1, (1, 0), []),
  (.goto 4, 3, (0, 0), [[116]])]
def qX12_waits_115 : List mO := [(.iconst 0, 1, (0, 0), [])]
def qX12_waits_116 : List mO := [(.istore 6, 2, (0, 0), []),
  (.iload 4, 2, (0, 0), []),
  (.iload 6, 2, (0, 0), []),
  (.ifCond .eq 13, 3, (0, 0), [[135]]),
  (.aload_n 0, 1, (0, 0), []),
  (.iload 5, 2, (0, 0), []),
  (.iconst 3, 1, (3, 0), []),
  (.invokevirtual 82, 3, (0, 0), [[2, 6010, 0], [12, 164, 43, 6012]])]
def qX12_waits_132 : List mO := [(.goto 4, 3, (0, 0), [[136]])]
def qX12_waits_135 : List mO := [(.iconst 0, 1, (0, 0), [])]
def qX12_waits_136 : List mO := [(.iadd, 1, (0, 0), []),
  (.istore 4, 2, (0, 0), []),
  (.iinc 5 1, 3, (1, 0), []),
  (.goto (-79), 3, (0, 0), [[63]])]
def qX12_waits_145 : List mO := [(.aload_n 0, 1, (0, 0), []),
  (.iload_n 2, 1, (0, 0), []),
  (.invokevirtual 178, 3, (0, 0), [[1, 6162, 0], [12, 201, 56, 6164]])]
def qX12_waits_150 : List mO := [(.aload_n 0, 1, (0, 0), []),
  (.iload_n 1, 1, (0, 0), []),
  (.invokevirtual 178, 3, (0, 0), [[1, 6162, 0], [12, 201, 56, 6164]])]
def qX12_waits_155 : List mO := [(.isub, 1, (0, 0), []),
  (.bipush 20, 2, (20, 0), []),
  (.iload 4, 2, (0, 0), []),
  (.imul, 1, (0, 0), []),
  (.isub, 1, (0, 0), []),
  (.sipush 10000, 3, (10000, 0), []),
  (.iadd, 1, (0, 0), []),
  (.ireturn, 1, (0, 0), [])]
def pX12_waits : List (Nat × List mO) := [(0, qX12_waits_0), (5, qX12_waits_5), (13, qX12_waits_13), (25, qX12_waits_25), (28, qX12_waits_28), (30, qX12_waits_30), (36, qX12_waits_36), (54, qX12_waits_54), (57, qX12_waits_57), (63, qX12_waits_63), (95, qX12_waits_95), (99, qX12_waits_99), (115, qX12_waits_115), (116, qX12_waits_116), (132, qX12_waits_132), (135, qX12_waits_135), (136, qX12_waits_136), (145, qX12_waits_145), (150, qX12_waits_150), (155, qX12_waits_155)]
def qX12_offs_0 : List mO := [(.iconst 0, 1, (0, 0), []),
  (.istore_n 1, 1, (0, 0), []),
  (.iconst 0, 1, (0, 0), []),
  (.istore_n 2, 1, (0, 0), [])]
def qX12_offs_4 : List mO := [(.iload_n 2, 1, (0, 0), []),
  (.aload_n 0, 1, (0, 0), []),
  (.getfield 7, 3, (0, 0), [[0, 5111, 0, 1], [12]]),
  (.iconst 0, 1, (0, 0), []),
  (.iaload, 1, (0, 0), []),
  (.if_icmp .ge 33, 3, (0, 0), [[44]]),
  (.iload_n 1, 1, (0, 0), []),
  (.aload_n 0, 1, (0, 0), []),
  (.getfield 22, 3, (0, 0), [[7, 5118, 0, 1], [12]]),
  (.iload_n 2, 1, (0, 0), []),
  (.iaload, 1, (0, 0), []),
  (.ifCond .ge 7, 3, (0, 0), [[28]]),
  (.iconst 0, 1, (0, 0), []),
  (.goto 11, 3, (0, 0), [[36]])]
def qX12_offs_28 : List mO := [(.aload_n 0, 1, (0, 0), []),
  (.iload_n 2, 1, (0, 0), []),
  (.invokevirtual 156, 3, (0, 0), [[1, 6111, 0], [12, 182, 52, 6113]])]
def qX12_offs_33 : List mO := [(.invokestatic 160, 3, (0, 0), [[1, 160, 6119, 6120, 0]])]
def qX12_offs_36 : List mO := [(.iadd, 1, (0, 0), []),
  (.istore_n 1, 1, (0, 0), []),
  (.iinc 2 1, 3, (1, 0), []),
  (.goto (-37), 3, (0, 0), [[4]])]
def qX12_offs_44 : List mO := [(.iload_n 1, 1, (0, 0), []),
  (.ireturn, 1, (0, 0), [])]
def pX12_offs : List (Nat × List mO) := [(0, qX12_offs_0), (4, qX12_offs_4), (28, qX12_offs_28), (33, qX12_offs_33), (36, qX12_offs_36), (44, qX12_offs_44)]
def qX12_mender_0 : List mO := [(.aload_n 0, 1, (0, 0), []),
  (.iload_n 1, 1, (0, 0), []),
  (.invokevirtual 106, 3, (0, 0), [[1, 6001, 0], [12, 156, 41, 6003]])]
def qX12_mender_5 : List mO := [(.ifCond .eq 10, 3, (0, 0), [[15]]),
  (.iload_n 2, 1, (0, 0), []),
  (.invokestatic 137, 3, (0, 0), [[1, 158, 6058, 6059, 0]])]
def qX12_mender_12 : List mO := [(.ifCond .ne 5, 3, (0, 0), [[17]])]
def qX12_mender_15 : List mO := [(.iconst (-1), 1, ((-1), 0), []),
  (.ireturn, 1, (0, 0), [])]
def qX12_mender_17 : List mO := [(.aload_n 0, 1, (0, 0), []),
  (.iload_n 1, 1, (0, 0), []),
  (.iload_n 2, 1, (0, 0), []),
  (.invokevirtual 152, 3, (0, 0), [[2, 6099, 0], [12, 180, 51, 6101]])]
def qX12_mender_23 : List mO := [(.aload_n 0, 1, (0, 0), []),
  (.invokevirtual 140, 3, (0, 0), [[0, 6074, 0], [12, 181, 48, 6076]])]
def qX12_mender_27 : List mO := [(.istore_n 3, 1, (0, 0), []),
  (.aload_n 0, 1, (0, 0), []),
  (.invokevirtual 181, 3, (0, 0), [[0, 6178, 0], [12, 205, 57, 6180]])]
def qX12_mender_32 : List mO := [(.istore 4, 2, (0, 0), []),
  (.iconst (-1), 1, ((-1), 0), []),
  (.istore 5, 2, (0, 0), []),
  (.iconst 0, 1, (0, 0), []),
  (.istore 6, 2, (0, 0), [])]
def qX12_mender_40 : List mO := [(.iload 6, 2, (0, 0), []),
  (.aload_n 0, 1, (0, 0), []),
  (.getfield 7, 3, (0, 0), [[0, 5111, 0, 1], [12]]),
  (.iconst 0, 1, (0, 0), []),
  (.iaload, 1, (0, 0), []),
  (.if_icmp .ge 76, 3, (0, 0), [[124]]),
  (.aload_n 0, 1, (0, 0), []),
  (.iload 6, 2, (0, 0), []),
  (.iconst 0, 1, (0, 0), []),
  (.invokevirtual 82, 3, (0, 0), [[2, 6010, 0], [12, 164, 43, 6012]])]
def qX12_mender_58 : List mO := [(.istore 7, 2, (0, 0), []),
  (.aload_n 0, 1, (0, 0), []),
  (.getfield 7, 3, (0, 0), [[0, 5111, 0, 1], [12]]),
  (.iload 6, 2, (0, 0), []),
  (.iconst 0, 1, (0, 0), []),
  (.invokestatic 66, 3, (0, 0), [[2, 163, 5234, 5235, 0]])]
def qX12_mender_70 : List mO := [(.iconst 4, 1, (4, 0), []),
  (.iastore, 1, (0, 0), []),
  (.aload_n 0, 1, (0, 0), []),
  (.iload_n 1, 1, (0, 0), []),
  (.iload_n 2, 1, (0, 0), []),
  (.invokevirtual 152, 3, (0, 0), [[2, 6099, 0], [12, 180, 51, 6101]])]
def qX12_mender_78 : List mO := [(.aload_n 0, 1, (0, 0), []),
  (.getfield 7, 3, (0, 0), [[0, 5111, 0, 1], [12]]),
  (.iload 6, 2, (0, 0), []),
  (.iconst 0, 1, (0, 0), []),
  (.invokestatic 66, 3, (0, 0), [[2, 163, 5234, 5235, 0]])]
def qX12_mender_88 : List mO := [(.iload 7, 2, (0, 0), []),
  (.iastore, 1, (0, 0), []),
  (.aload_n 0, 1, (0, 0), []),
  (.invokevirtual 140, 3, (0, 0), [[0, 6074, 0], [12, 181, 48, 6076]])]
def qX12_mender_95 : List mO := [(.iload_n 3, 1, (0, 0), []),
  (.if_icmp .lt 22, 3, (0, 0), [[118]]),
  (.aload_n 0, 1, (0, 0), []),
  (.invokevirtual 181, 3, (0, 0), [[0, 6178, 0], [12, 205, 57, 6180]])]
def qX12_mender_103 : List mO := [(.iload 4, 2, (0, 0), []),
  (.if_icmp .ge 13, 3, (0, 0), [[118]]),
  (.iload 6, 2, (0, 0), []),
  (.istore 5, 2, (0, 0), []),
  (.aload_n 0, 1, (0, 0), []),
  (.invokevirtual 181, 3, (0, 0), [[0, 6178, 0], [12, 205, 57, 6180]])]
def qX12_mender_116 : List mO := [(.istore 4, 2, (0, 0), [])]
def qX12_mender_118 : List mO := [(.iinc 6 1, 3, (1, 0), []),
  (.goto (-81), 3, (0, 0), [[40]])]
def qX12_mender_124 : List mO := [(.iload 5, 2, (0, 0), []),
  (.ifCond .ge 8, 3, (0, 0), [[134]]),
  (.bipush (-3), 2, ((-3), 0), []),
  (.goto 5, 3, (0, 0), [[136]])]
def qX12_mender_134 : List mO := [(.iload 5, 2, (0, 0), [])]
def qX12_mender_136 : List mO := [(.ireturn, 1, (0, 0), [])]
def pX12_mender : List (Nat × List mO) := [(0, qX12_mender_0), (5, qX12_mender_5), (12, qX12_mender_12), (15, qX12_mender_15), (17, qX12_mender_17), (23, qX12_mender_23), (27, qX12_mender_27), (32, qX12_mender_32), (40, qX12_mender_40), (58, qX12_mender_58), (70, qX12_mender_70), (78, qX12_mender_78), (88, qX12_mender_88), (95, qX12_mender_95), (103, qX12_mender_103), (116, qX12_mender_116), (118, qX12_mender_118), (124, qX12_mender_124), (134, qX12_mender_134), (136, qX12_mender_136)]
def qX12_bestDay_0 : List mO := [(.aload_n 0, 1, (0, 0), []),
  (.iload_n 2, 1, (0, 0), []),
  (.iload_n 3, 1, (0, 0), []),
  (.iload_n 1, 1, (0, 0), []),
  (.invokevirtual 149, 3, (0, 0), [[3, 6095, 0], [12, 187, 50, 6097]])]
def qX12_bestDay_7 : List mO := [(.ifCond .ne 5, 3, (0, 0), [[12]]),
  (.iconst (-1), 1, ((-1), 0), []),
  (.ireturn, 1, (0, 0), [])]
def qX12_bestDay_12 : List mO := [(.aload_n 0, 1, (0, 0), []),
  (.getfield 7, 3, (0, 0), [[0, 5111, 0, 1], [12]]),
  (.iconst 2, 1, (2, 0), []),
  (.iaload, 1, (0, 0), []),
  (.istore 4, 2, (0, 0), []),
  (.iconst (-1), 1, ((-1), 0), []),
  (.istore 5, 2, (0, 0), []),
  (.iconst 0, 1, (0, 0), []),
  (.istore 6, 2, (0, 0), []),
  (.iconst 0, 1, (0, 0), []),
  (.istore 7, 2, (0, 0), [])]
def qX12_bestDay_29 : List mO := [(.iload 7, 2, (0, 0), []),
  (.bipush 7, 2, (7, 0), []),
  (.if_icmp .ge 64, 3, (0, 0), [[97]]),
  (.aload_n 0, 1, (0, 0), []),
  (.getfield 7, 3, (0, 0), [[0, 5111, 0, 1], [12]]),
  (.iconst 2, 1, (2, 0), []),
  (.iload 7, 2, (0, 0), []),
  (.iastore, 1, (0, 0), []),
  (.aload_n 0, 1, (0, 0), []),
  (.iload_n 2, 1, (0, 0), []),
  (.iload_n 3, 1, (0, 0), []),
  (.invokevirtual 152, 3, (0, 0), [[2, 6099, 0], [12, 180, 51, 6101]])]
def qX12_bestDay_50 : List mO := [(.aload_n 0, 1, (0, 0), []),
  (.getfield 22, 3, (0, 0), [[7, 5118, 0, 1], [12]]),
  (.iload_n 1, 1, (0, 0), []),
  (.iaload, 1, (0, 0), []),
  (.ifCond .lt 35, 3, (0, 0), [[91]]),
  (.iload 5, 2, (0, 0), []),
  (.ifCond .lt 16, 3, (0, 0), [[77]]),
  (.aload_n 0, 1, (0, 0), []),
  (.iload_n 1, 1, (0, 0), []),
  (.invokevirtual 156, 3, (0, 0), [[1, 6111, 0], [12, 182, 52, 6113]])]
def qX12_bestDay_69 : List mO := [(.invokestatic 160, 3, (0, 0), [[1, 160, 6119, 6120, 0]])]
def qX12_bestDay_72 : List mO := [(.iload 6, 2, (0, 0), []),
  (.if_icmp .ge 17, 3, (0, 0), [[91]])]
def qX12_bestDay_77 : List mO := [(.iload 7, 2, (0, 0), []),
  (.istore 5, 2, (0, 0), []),
  (.aload_n 0, 1, (0, 0), []),
  (.iload_n 1, 1, (0, 0), []),
  (.invokevirtual 156, 3, (0, 0), [[1, 6111, 0], [12, 182, 52, 6113]])]
def qX12_bestDay_86 : List mO := [(.invokestatic 160, 3, (0, 0), [[1, 160, 6119, 6120, 0]])]
def qX12_bestDay_89 : List mO := [(.istore 6, 2, (0, 0), [])]
def qX12_bestDay_91 : List mO := [(.iinc 7 1, 3, (1, 0), []),
  (.goto (-65), 3, (0, 0), [[29]])]
def qX12_bestDay_97 : List mO := [(.aload_n 0, 1, (0, 0), []),
  (.getfield 7, 3, (0, 0), [[0, 5111, 0, 1], [12]]),
  (.iconst 2, 1, (2, 0), []),
  (.iload 4, 2, (0, 0), []),
  (.iastore, 1, (0, 0), []),
  (.iload 5, 2, (0, 0), []),
  (.ifCond .ge 8, 3, (0, 0), [[115]]),
  (.bipush (-3), 2, ((-3), 0), []),
  (.goto 5, 3, (0, 0), [[117]])]
def qX12_bestDay_115 : List mO := [(.iload 5, 2, (0, 0), [])]
def qX12_bestDay_117 : List mO := [(.ireturn, 1, (0, 0), [])]
def pX12_bestDay : List (Nat × List mO) := [(0, qX12_bestDay_0), (7, qX12_bestDay_7), (12, qX12_bestDay_12), (29, qX12_bestDay_29), (50, qX12_bestDay_50), (69, qX12_bestDay_69), (72, qX12_bestDay_72), (77, qX12_bestDay_77), (86, qX12_bestDay_86), (89, qX12_bestDay_89), (91, qX12_bestDay_91), (97, qX12_bestDay_97), (115, qX12_bestDay_115), (117, qX12_bestDay_117)]
def qX12_latest_0 : List mO := [(.aload_n 0, 1, (0, 0), []),
  (.iload_n 1, 1, (0, 0), []),
  (.invokevirtual 106, 3, (0, 0), [[1, 6001, 0], [12, 156, 41, 6003]])]
def qX12_latest_5 : List mO := [(.ifCond .eq 23, 3, (0, 0), [[28]]),
  (.aload_n 0, 1, (0, 0), []),
  (.iload_n 2, 1, (0, 0), []),
  (.invokevirtual 106, 3, (0, 0), [[1, 6001, 0], [12, 156, 41, 6003]])]
def qX12_latest_13 : List mO := [(.ifCond .eq 15, 3, (0, 0), [[28]]),
  (.iload_n 3, 1, (0, 0), []),
  (.i2l, 1, (0, 0), []),
  (.lconst 0, 1, (0, 0), []),
  (.ldc2_w 144, 3, (0, 9999), [[6082]]),
  (.invokestatic 58, 3, (0, 0), [[3, 155, 5225, 5226, 0]])]
def qX12_latest_25 : List mO := [(.ifCond .ne 5, 3, (0, 0), [[30]])]
def qX12_latest_28 : List mO := [(.iconst (-1), 1, ((-1), 0), []),
  (.ireturn, 1, (0, 0), [])]
def qX12_latest_30 : List mO := [(.sipush 1439, 3, (1439, 0), []),
  (.istore 4, 2, (0, 0), [])]
def qX12_latest_35 : List mO := [(.iload 4, 2, (0, 0), []),
  (.ifCond .lt 38, 3, (0, 0), [[75]]),
  (.aload_n 0, 1, (0, 0), []),
  (.iload_n 1, 1, (0, 0), []),
  (.iload 4, 2, (0, 0), []),
  (.invokevirtual 152, 3, (0, 0), [[2, 6099, 0], [12, 180, 51, 6101]])]
def qX12_latest_47 : List mO := [(.aload_n 0, 1, (0, 0), []),
  (.getfield 22, 3, (0, 0), [[7, 5118, 0, 1], [12]]),
  (.iload_n 2, 1, (0, 0), []),
  (.iaload, 1, (0, 0), []),
  (.ifCond .lt 16, 3, (0, 0), [[69]]),
  (.aload_n 0, 1, (0, 0), []),
  (.getfield 22, 3, (0, 0), [[7, 5118, 0, 1], [12]]),
  (.iload_n 2, 1, (0, 0), []),
  (.iaload, 1, (0, 0), []),
  (.iload_n 3, 1, (0, 0), []),
  (.if_icmp .gt 6, 3, (0, 0), [[69]]),
  (.iload 4, 2, (0, 0), []),
  (.ireturn, 1, (0, 0), [])]
def qX12_latest_69 : List mO := [(.iinc 4 (-1), 3, ((-1), 0), []),
  (.goto (-37), 3, (0, 0), [[35]])]
def qX12_latest_75 : List mO := [(.bipush (-3), 2, ((-3), 0), []),
  (.ireturn, 1, (0, 0), [])]
def pX12_latest : List (Nat × List mO) := [(0, qX12_latest_0), (5, qX12_latest_5), (13, qX12_latest_13), (25, qX12_latest_25), (28, qX12_latest_28), (30, qX12_latest_30), (35, qX12_latest_35), (47, qX12_latest_47), (69, qX12_latest_69), (75, qX12_latest_75)]
def qX12_seed_0 : List mO := [(.aload_n 0, 1, (0, 0), []),
  (.getfield 7, 3, (0, 0), [[0, 5111, 0, 1], [12]]),
  (.iconst 3, 1, (3, 0), []),
  (.iaload, 1, (0, 0), []),
  (.istore_n 2, 1, (0, 0), []),
  (.aload_n 0, 1, (0, 0), []),
  (.getfield 7, 3, (0, 0), [[0, 5111, 0, 1], [12]]),
  (.iconst 3, 1, (3, 0), []),
  (.iload_n 1, 1, (0, 0), []),
  (.iastore, 1, (0, 0), []),
  (.iload_n 2, 1, (0, 0), []),
  (.ireturn, 1, (0, 0), [])]
def pX12_seed : List (Nat × List mO) := [(0, qX12_seed_0)]
def qX12_draws_0 : List mO := [(.aload_n 0, 1, (0, 0), []),
  (.getfield 7, 3, (0, 0), [[0, 5111, 0, 1], [12]]),
  (.iconst 3, 1, (3, 0), []),
  (.aload_n 0, 1, (0, 0), []),
  (.getfield 7, 3, (0, 0), [[0, 5111, 0, 1], [12]]),
  (.iconst 3, 1, (3, 0), []),
  (.iaload, 1, (0, 0), []),
  (.ldc 184, 2, (1103515245, 0), [[0, 6202]]),
  (.imul, 1, (0, 0), []),
  (.sipush 12345, 3, (12345, 0), []),
  (.iadd, 1, (0, 0), []),
  (.iastore, 1, (0, 0), []),
  (.aload_n 0, 1, (0, 0), []),
  (.getfield 7, 3, (0, 0), [[0, 5111, 0, 1], [12]]),
  (.iconst 5, 1, (5, 0), []),
  (.iload_n 1, 1, (0, 0), []),
  (.iadd, 1, (0, 0), []),
  (.aload_n 0, 1, (0, 0), []),
  (.getfield 7, 3, (0, 0), [[0, 5111, 0, 1], [12]]),
  (.iconst 3, 1, (3, 0), []),
  (.iaload, 1, (0, 0), []),
  (.bipush 16, 2, (16, 0), []),
  (.iushr, 1, (0, 0), []),
  (.bipush 7, 2, (7, 0), []),
  (.irem, 1, (0, 0), []),
  (.iconst 3, 1, (3, 0), []),
  (.isub, 1, (0, 0), []),
  (.iastore, 1, (0, 0), []),
  (.return_, 1, (0, 0), [])]
def pX12_draws : List (Nat × List mO) := [(0, qX12_draws_0)]
def qX12_draw_0 : List mO := [(.iload_n 1, 1, (0, 0), []),
  (.invokestatic 116, 3, (0, 0), [[1, 157, 6040, 6041, 0]])]
def qX12_draw_4 : List mO := [(.ifCond .ne 5, 3, (0, 0), [[9]]),
  (.iconst (-1), 1, ((-1), 0), []),
  (.ireturn, 1, (0, 0), [])]
def qX12_draw_9 : List mO := [(.aload_n 0, 1, (0, 0), []),
  (.iload_n 1, 1, (0, 0), []),
  (.invokevirtual 185, 3, (0, 0), [[1, 6198, 0], [12, 210, 58, 6200]])]
def qX12_draw_14 : List mO := [(.aload_n 0, 1, (0, 0), []),
  (.getfield 7, 3, (0, 0), [[0, 5111, 0, 1], [12]]),
  (.iconst 5, 1, (5, 0), []),
  (.iload_n 1, 1, (0, 0), []),
  (.iadd, 1, (0, 0), []),
  (.iaload, 1, (0, 0), []),
  (.bipush 100, 2, (100, 0), []),
  (.iadd, 1, (0, 0), []),
  (.ireturn, 1, (0, 0), [])]
def pX12_draw : List (Nat × List mO) := [(0, qX12_draw_0), (4, qX12_draw_4), (9, qX12_draw_9), (14, qX12_draw_14)]
def qX12_often_0 : List mO := [(.aload_n 0, 1, (0, 0), []),
  (.iload_n 1, 1, (0, 0), []),
  (.invokevirtual 106, 3, (0, 0), [[1, 6001, 0], [12, 156, 41, 6003]])]
def qX12_often_5 : List mO := [(.ifCond .eq 35, 3, (0, 0), [[40]]),
  (.iload_n 2, 1, (0, 0), []),
  (.i2l, 1, (0, 0), []),
  (.lconst 0, 1, (0, 0), []),
  (.ldc2_w 163, 3, (0, 999), [[6126]]),
  (.invokestatic 58, 3, (0, 0), [[3, 155, 5225, 5226, 0]])]
def qX12_often_17 : List mO := [(.ifCond .eq 23, 3, (0, 0), [[40]]),
  (.iload_n 3, 1, (0, 0), []),
  (.invokestatic 137, 3, (0, 0), [[1, 158, 6058, 6059, 0]])]
def qX12_often_24 : List mO := [(.ifCond .eq 16, 3, (0, 0), [[40]]),
  (.iload 4, 2, (0, 0), []),
  (.i2l, 1, (0, 0), []),
  (.lconst 1, 1, (0, 1), []),
  (.ldc2_w 188, 3, (0, 60), [[6207]]),
  (.invokestatic 58, 3, (0, 0), [[3, 155, 5225, 5226, 0]])]
def qX12_often_37 : List mO := [(.ifCond .ne 5, 3, (0, 0), [[42]])]
def qX12_often_40 : List mO := [(.iconst (-1), 1, ((-1), 0), []),
  (.ireturn, 1, (0, 0), [])]
def qX12_often_42 : List mO := [(.aload_n 0, 1, (0, 0), []),
  (.getfield 7, 3, (0, 0), [[0, 5111, 0, 1], [12]]),
  (.iconst 3, 1, (3, 0), []),
  (.iaload, 1, (0, 0), []),
  (.istore 5, 2, (0, 0), []),
  (.aload_n 0, 1, (0, 0), []),
  (.getfield 7, 3, (0, 0), [[0, 5111, 0, 1], [12]]),
  (.iconst 5, 1, (5, 0), []),
  (.aload_n 0, 1, (0, 0), []),
  (.getfield 7, 3, (0, 0), [[0, 5111, 0, 1], [12]]),
  (.iconst 2, 1, (2, 0), []),
  (.iaload, 1, (0, 0), []),
  (.iadd, 1, (0, 0), []),
  (.iaload, 1, (0, 0), []),
  (.istore 6, 2, (0, 0), []),
  (.iconst 0, 1, (0, 0), []),
  (.istore 7, 2, (0, 0), []),
  (.iconst 0, 1, (0, 0), []),
  (.istore 8, 2, (0, 0), [])]
def qX12_often_71 : List mO := [(.iload 8, 2, (0, 0), []),
  (.iload 4, 2, (0, 0), []),
  (.if_icmp .ge 56, 3, (0, 0), [[131]]),
  (.aload_n 0, 1, (0, 0), []),
  (.aload_n 0, 1, (0, 0), []),
  (.getfield 7, 3, (0, 0), [[0, 5111, 0, 1], [12]]),
  (.iconst 2, 1, (2, 0), []),
  (.iaload, 1, (0, 0), []),
  (.invokevirtual 185, 3, (0, 0), [[1, 6198, 0], [12, 210, 58, 6200]])]
def qX12_often_88 : List mO := [(.aload_n 0, 1, (0, 0), []),
  (.iload_n 3, 1, (0, 0), []),
  (.iconst (-1), 1, ((-1), 0), []),
  (.invokevirtual 175, 3, (0, 0), [[2, 6158, 0], [12, 200, 55, 6160]])]
def qX12_often_94 : List mO := [(.iload 7, 2, (0, 0), []),
  (.aload_n 0, 1, (0, 0), []),
  (.getfield 22, 3, (0, 0), [[7, 5118, 0, 1], [12]]),
  (.iload_n 1, 1, (0, 0), []),
  (.iaload, 1, (0, 0), []),
  (.ifCond .lt 19, 3, (0, 0), [[121]]),
  (.aload_n 0, 1, (0, 0), []),
  (.iload_n 1, 1, (0, 0), []),
  (.invokevirtual 156, 3, (0, 0), [[1, 6111, 0], [12, 182, 52, 6113]])]
def qX12_often_110 : List mO := [(.invokestatic 160, 3, (0, 0), [[1, 160, 6119, 6120, 0]])]
def qX12_often_113 : List mO := [(.iload_n 2, 1, (0, 0), []),
  (.if_icmp .gt 7, 3, (0, 0), [[121]]),
  (.iconst 1, 1, (1, 0), []),
  (.goto 4, 3, (0, 0), [[122]])]
def qX12_often_121 : List mO := [(.iconst 0, 1, (0, 0), [])]
def qX12_often_122 : List mO := [(.iadd, 1, (0, 0), []),
  (.istore 7, 2, (0, 0), []),
  (.iinc 8 1, 3, (1, 0), []),
  (.goto (-57), 3, (0, 0), [[71]])]
def qX12_often_131 : List mO := [(.aload_n 0, 1, (0, 0), []),
  (.getfield 7, 3, (0, 0), [[0, 5111, 0, 1], [12]]),
  (.iconst 3, 1, (3, 0), []),
  (.iload 5, 2, (0, 0), []),
  (.iastore, 1, (0, 0), []),
  (.aload_n 0, 1, (0, 0), []),
  (.getfield 7, 3, (0, 0), [[0, 5111, 0, 1], [12]]),
  (.iconst 5, 1, (5, 0), []),
  (.aload_n 0, 1, (0, 0), []),
  (.getfield 7, 3, (0, 0), [[0, 5111, 0, 1], [12]]),
  (.iconst 2, 1, (2, 0), []),
  (.iaload, 1, (0, 0), []),
  (.iadd, 1, (0, 0), []),
  (.iload 6, 2, (0, 0), []),
  (.iastore, 1, (0, 0), []),
  (.iload 7, 2, (0, 0), []),
  (.ireturn, 1, (0, 0), [])]
def pX12_often : List (Nat × List mO) := [(0, qX12_often_0), (5, qX12_often_5), (17, qX12_often_17), (24, qX12_often_24), (37, qX12_often_37), (40, qX12_often_40), (42, qX12_often_42), (71, qX12_often_71), (88, qX12_often_88), (94, qX12_often_94), (110, qX12_often_110), (113, qX12_often_113), (121, qX12_often_121), (122, qX12_often_122), (131, qX12_often_131)]
def qX12_lost_0 : List mO := [(.aload_n 0, 1, (0, 0), []),
  (.iload_n 1, 1, (0, 0), []),
  (.invokevirtual 106, 3, (0, 0), [[1, 6001, 0], [12, 156, 41, 6003]])]
def qX12_lost_5 : List mO := [(.ifCond .eq 10, 3, (0, 0), [[15]]),
  (.iload_n 2, 1, (0, 0), []),
  (.invokestatic 137, 3, (0, 0), [[1, 158, 6058, 6059, 0]])]
def qX12_lost_12 : List mO := [(.ifCond .ne 5, 3, (0, 0), [[17]])]
def qX12_lost_15 : List mO := [(.iconst (-1), 1, ((-1), 0), []),
  (.ireturn, 1, (0, 0), [])]
def qX12_lost_17 : List mO := [(.aload_n 0, 1, (0, 0), []),
  (.iload_n 2, 1, (0, 0), []),
  (.iconst (-1), 1, ((-1), 0), []),
  (.invokevirtual 175, 3, (0, 0), [[2, 6158, 0], [12, 200, 55, 6160]])]
def qX12_lost_23 : List mO := [(.aload_n 0, 1, (0, 0), []),
  (.invokevirtual 140, 3, (0, 0), [[0, 6074, 0], [12, 181, 48, 6076]])]
def qX12_lost_27 : List mO := [(.istore_n 3, 1, (0, 0), []),
  (.aload_n 0, 1, (0, 0), []),
  (.iload_n 2, 1, (0, 0), []),
  (.iload_n 1, 1, (0, 0), []),
  (.invokevirtual 175, 3, (0, 0), [[2, 6158, 0], [12, 200, 55, 6160]])]
def qX12_lost_34 : List mO := [(.iload_n 3, 1, (0, 0), []),
  (.aload_n 0, 1, (0, 0), []),
  (.invokevirtual 140, 3, (0, 0), [[0, 6074, 0], [12, 181, 48, 6076]])]
def qX12_lost_39 : List mO := [(.isub, 1, (0, 0), []),
  (.ireturn, 1, (0, 0), [])]
def pX12_lost : List (Nat × List mO) := [(0, qX12_lost_0), (5, qX12_lost_5), (12, qX12_lost_12), (15, qX12_lost_15), (17, qX12_lost_17), (23, qX12_lost_23), (27, qX12_lost_27), (34, qX12_lost_34), (39, qX12_lost_39)]
def qX12_report_0 : List mO := [(.aload_n 0, 1, (0, 0), []),
  (.iload_n 1, 1, (0, 0), []),
  (.invokevirtual 106, 3, (0, 0), [[1, 6001, 0], [12, 156, 41, 6003]])]
def qX12_report_5 : List mO := [(.ifCond .eq 15, 3, (0, 0), [[20]]),
  (.iload_n 2, 1, (0, 0), []),
  (.i2l, 1, (0, 0), []),
  (.lconst 0, 1, (0, 0), []),
  (.ldc2_w 144, 3, (0, 9999), [[6082]]),
  (.invokestatic 58, 3, (0, 0), [[3, 155, 5225, 5226, 0]])]
def qX12_report_17 : List mO := [(.ifCond .ne 5, 3, (0, 0), [[22]])]
def qX12_report_20 : List mO := [(.iconst (-1), 1, ((-1), 0), []),
  (.ireturn, 1, (0, 0), [])]
def qX12_report_22 : List mO := [(.aload_n 0, 1, (0, 0), []),
  (.getfield 7, 3, (0, 0), [[0, 5111, 0, 1], [12]]),
  (.iconst 1, 1, (1, 0), []),
  (.iaload, 1, (0, 0), []),
  (.bipush 6, 2, (6, 0), []),
  (.if_icmp .ne 6, 3, (0, 0), [[36]]),
  (.bipush (-2), 2, ((-2), 0), []),
  (.ireturn, 1, (0, 0), [])]
def qX12_report_36 : List mO := [(.aload_n 0, 1, (0, 0), []),
  (.getfield 7, 3, (0, 0), [[0, 5111, 0, 1], [12]]),
  (.bipush 66, 2, (66, 0), []),
  (.iconst 2, 1, (2, 0), []),
  (.aload_n 0, 1, (0, 0), []),
  (.getfield 7, 3, (0, 0), [[0, 5111, 0, 1], [12]]),
  (.iconst 1, 1, (1, 0), []),
  (.iaload, 1, (0, 0), []),
  (.imul, 1, (0, 0), []),
  (.iadd, 1, (0, 0), []),
  (.iload_n 1, 1, (0, 0), []),
  (.iastore, 1, (0, 0), []),
  (.aload_n 0, 1, (0, 0), []),
  (.getfield 7, 3, (0, 0), [[0, 5111, 0, 1], [12]]),
  (.bipush 66, 2, (66, 0), []),
  (.iconst 2, 1, (2, 0), []),
  (.aload_n 0, 1, (0, 0), []),
  (.getfield 7, 3, (0, 0), [[0, 5111, 0, 1], [12]]),
  (.iconst 1, 1, (1, 0), []),
  (.iaload, 1, (0, 0), []),
  (.imul, 1, (0, 0), []),
  (.iadd, 1, (0, 0), []),
  (.iconst 1, 1, (1, 0), []),
  (.iadd, 1, (0, 0), []),
  (.iload_n 2, 1, (0, 0), []),
  (.iastore, 1, (0, 0), []),
  (.aload_n 0, 1, (0, 0), []),
  (.getfield 7, 3, (0, 0), [[0, 5111, 0, 1], [12]]),
  (.iconst 1, 1, (1, 0), []),
  (.dup2, 1, (0, 0), []),
  (.iaload, 1, (0, 0), []),
  (.iconst 1, 1, (1, 0), []),
  (.iadd, 1, (0, 0), []),
  (.iastore, 1, (0, 0), []),
  (.aload_n 0, 1, (0, 0), []),
  (.getfield 7, 3, (0, 0), [[0, 5111, 0, 1], [12]]),
  (.iconst 1, 1, (1, 0), []),
  (.iaload, 1, (0, 0), []),
  (.iconst 1, 1, (1, 0), []),
  (.isub, 1, (0, 0), []),
  (.ireturn, 1, (0, 0), [])]
def pX12_report : List (Nat × List mO) := [(0, qX12_report_0), (5, qX12_report_5), (17, qX12_report_17), (20, qX12_report_20), (22, qX12_report_22), (36, qX12_report_36)]
def qX12_forget_0 : List mO := [(.aload_n 0, 1, (0, 0), []),
  (.getfield 7, 3, (0, 0), [[0, 5111, 0, 1], [12]]),
  (.iconst 1, 1, (1, 0), []),
  (.iaload, 1, (0, 0), []),
  (.istore_n 1, 1, (0, 0), []),
  (.aload_n 0, 1, (0, 0), []),
  (.getfield 7, 3, (0, 0), [[0, 5111, 0, 1], [12]]),
  (.iconst 1, 1, (1, 0), []),
  (.iconst 0, 1, (0, 0), []),
  (.iastore, 1, (0, 0), []),
  (.iload_n 1, 1, (0, 0), []),
  (.ireturn, 1, (0, 0), [])]
def pX12_forget : List (Nat × List mO) := [(0, qX12_forget_0)]
def qX12_isFit_0 : List mO := [(.iconst 1, 1, (1, 0), []),
  (.istore_n 2, 1, (0, 0), []),
  (.iconst 0, 1, (0, 0), []),
  (.istore_n 3, 1, (0, 0), [])]
def qX12_isFit_4 : List mO := [(.iload_n 3, 1, (0, 0), []),
  (.aload_n 0, 1, (0, 0), []),
  (.getfield 7, 3, (0, 0), [[0, 5111, 0, 1], [12]]),
  (.iconst 1, 1, (1, 0), []),
  (.iaload, 1, (0, 0), []),
  (.if_icmp .ge 70, 3, (0, 0), [[81]]),
  (.aload_n 0, 1, (0, 0), []),
  (.getfield 7, 3, (0, 0), [[0, 5111, 0, 1], [12]]),
  (.bipush 66, 2, (66, 0), []),
  (.iconst 2, 1, (2, 0), []),
  (.iload_n 3, 1, (0, 0), []),
  (.imul, 1, (0, 0), []),
  (.iadd, 1, (0, 0), []),
  (.iaload, 1, (0, 0), []),
  (.istore 4, 2, (0, 0), []),
  (.iload_n 2, 1, (0, 0), []),
  (.ifCond .eq 45, 3, (0, 0), [[73]]),
  (.iload_n 3, 1, (0, 0), []),
  (.iload_n 1, 1, (0, 0), []),
  (.if_icmp .eq 36, 3, (0, 0), [[69]]),
  (.aload_n 0, 1, (0, 0), []),
  (.getfield 22, 3, (0, 0), [[7, 5118, 0, 1], [12]]),
  (.iload 4, 2, (0, 0), []),
  (.iaload, 1, (0, 0), []),
  (.ifCond .lt 30, 3, (0, 0), [[73]]),
  (.aload_n 0, 1, (0, 0), []),
  (.getfield 25, 3, (0, 0), [[8, 5119, 0, 1], [12]]),
  (.iload 4, 2, (0, 0), []),
  (.iaload, 1, (0, 0), []),
  (.aload_n 0, 1, (0, 0), []),
  (.getfield 7, 3, (0, 0), [[0, 5111, 0, 1], [12]]),
  (.bipush 66, 2, (66, 0), []),
  (.iconst 2, 1, (2, 0), []),
  (.iload_n 3, 1, (0, 0), []),
  (.imul, 1, (0, 0), []),
  (.iadd, 1, (0, 0), []),
  (.iconst 1, 1, (1, 0), []),
  (.iadd, 1, (0, 0), []),
  (.iaload, 1, (0, 0), []),
  (.if_icmp .ne 7, 3, (0, 0), [[73]])]
def qX12_isFit_69 : List mO := [(.iconst 1, 1, (1, 0), []),
  (.goto 4, 3, (0, 0), [[74]])]
def qX12_isFit_73 : List mO := [(.iconst 0, 1, (0, 0), [])]
def qX12_isFit_74 : List mO := [(.istore_n 2, 1, (0, 0), []),
  (.iinc 3 1, 3, (1, 0), []),
  (.goto (-74), 3, (0, 0), [[4]])]
def qX12_isFit_81 : List mO := [(.iload_n 2, 1, (0, 0), []),
  (.ireturn, 1, (0, 0), [[1]])]
def pX12_isFit : List (Nat × List mO) := [(0, qX12_isFit_0), (4, qX12_isFit_4), (69, qX12_isFit_69), (73, qX12_isFit_73), (74, qX12_isFit_74), (81, qX12_isFit_81)]
def qX12_findFits_0 : List mO := [(.aload_n 0, 1, (0, 0), []),
  (.iconst 0, 1, (0, 0), []),
  (.putfield 190, 3, (0, 0), [[10, 5121, 0, 0], [12]]),
  (.aload_n 0, 1, (0, 0), []),
  (.iconst 0, 1, (0, 0), []),
  (.putfield 193, 3, (0, 0), [[13, 5124, 0, 0], [12]]),
  (.iconst 0, 1, (0, 0), []),
  (.istore_n 2, 1, (0, 0), [])]
def qX12_findFits_12 : List mO := [(.iload_n 2, 1, (0, 0), []),
  (.sipush 1439, 3, (1439, 0), []),
  (.if_icmp .gt 99, 3, (0, 0), [[115]]),
  (.aload_n 0, 1, (0, 0), []),
  (.iload_n 1, 1, (0, 0), []),
  (.iload_n 2, 1, (0, 0), []),
  (.invokevirtual 152, 3, (0, 0), [[2, 6099, 0], [12, 180, 51, 6101]])]
def qX12_findFits_25 : List mO := [(.aload_n 0, 1, (0, 0), []),
  (.iconst (-1), 1, ((-1), 0), []),
  (.invokevirtual 196, 3, (0, 0), [[1, 6229, 0], [12, 216, 60, 6231]])]
def qX12_findFits_30 : List mO := [(.ifCond .eq 37, 3, (0, 0), [[67]]),
  (.aload_n 0, 1, (0, 0), []),
  (.aload_n 0, 1, (0, 0), []),
  (.getfield 190, 3, (0, 0), [[10, 5121, 0, 0], [12]]),
  (.ifCond .ne 7, 3, (0, 0), [[45]]),
  (.iload_n 2, 1, (0, 0), []),
  (.goto 7, 3, (0, 0), [[49]])]
def qX12_findFits_45 : List mO := [(.aload_n 0, 1, (0, 0), []),
  (.getfield 199, 3, (0, 0), [[11, 5122, 0, 0], [12]])]
def qX12_findFits_49 : List mO := [(.putfield 199, 3, (0, 0), [[11, 5122, 0, 0], [12]]),
  (.aload_n 0, 1, (0, 0), []),
  (.iload_n 2, 1, (0, 0), []),
  (.putfield 202, 3, (0, 0), [[12, 5123, 0, 0], [12]]),
  (.aload_n 0, 1, (0, 0), []),
  (.dup, 1, (0, 0), []),
  (.getfield 190, 3, (0, 0), [[10, 5121, 0, 0], [12]]),
  (.iconst 1, 1, (1, 0), []),
  (.iadd, 1, (0, 0), []),
  (.putfield 190, 3, (0, 0), [[10, 5121, 0, 0], [12]])]
def qX12_findFits_67 : List mO := [(.iconst 0, 1, (0, 0), []),
  (.istore_n 3, 1, (0, 0), [])]
def qX12_findFits_69 : List mO := [(.iload_n 3, 1, (0, 0), []),
  (.aload_n 0, 1, (0, 0), []),
  (.getfield 7, 3, (0, 0), [[0, 5111, 0, 1], [12]]),
  (.iconst 1, 1, (1, 0), []),
  (.iaload, 1, (0, 0), []),
  (.if_icmp .ge 33, 3, (0, 0), [[109]]),
  (.aload_n 0, 1, (0, 0), []),
  (.dup, 1, (0, 0), []),
  (.getfield 193, 3, (0, 0), [[13, 5124, 0, 0], [12]]),
  (.aload_n 0, 1, (0, 0), []),
  (.iload_n 3, 1, (0, 0), []),
  (.invokevirtual 196, 3, (0, 0), [[1, 6229, 0], [12, 216, 60, 6231]])]
def qX12_findFits_89 : List mO := [(.ifCond .eq 9, 3, (0, 0), [[98]]),
  (.iconst 1, 1, (1, 0), []),
  (.iload_n 3, 1, (0, 0), []),
  (.ishl, 1, (0, 0), []),
  (.goto 4, 3, (0, 0), [[99]])]
def qX12_findFits_98 : List mO := [(.iconst 0, 1, (0, 0), [])]
def qX12_findFits_99 : List mO := [(.ior, 1, (0, 0), []),
  (.putfield 193, 3, (0, 0), [[13, 5124, 0, 0], [12]]),
  (.iinc 3 1, 3, (1, 0), []),
  (.goto (-37), 3, (0, 0), [[69]])]
def qX12_findFits_109 : List mO := [(.iinc 2 1, 3, (1, 0), []),
  (.goto (-100), 3, (0, 0), [[12]])]
def qX12_findFits_115 : List mO := [(.return_, 1, (0, 0), [])]
def pX12_findFits : List (Nat × List mO) := [(0, qX12_findFits_0), (12, qX12_findFits_12), (25, qX12_findFits_25), (30, qX12_findFits_30), (45, qX12_findFits_45), (49, qX12_findFits_49), (67, qX12_findFits_67), (69, qX12_findFits_69), (89, qX12_findFits_89), (98, qX12_findFits_98), (99, qX12_findFits_99), (109, qX12_findFits_109), (115, qX12_findFits_115)]
def qX12_fits_0 : List mO := [(.aload_n 0, 1, (0, 0), []),
  (.iload_n 1, 1, (0, 0), []),
  (.invokevirtual 106, 3, (0, 0), [[1, 6001, 0], [12, 156, 41, 6003]])]
def qX12_fits_5 : List mO := [(.ifCond .eq 15, 3, (0, 0), [[20]]),
  (.iload_n 2, 1, (0, 0), []),
  (.i2l, 1, (0, 0), []),
  (.lconst 0, 1, (0, 0), []),
  (.ldc2_w 205, 3, (0, 2), [[6224]]),
  (.invokestatic 58, 3, (0, 0), [[3, 155, 5225, 5226, 0]])]
def qX12_fits_17 : List mO := [(.ifCond .ne 5, 3, (0, 0), [[22]])]
def qX12_fits_20 : List mO := [(.iconst (-1), 1, ((-1), 0), []),
  (.ireturn, 1, (0, 0), [])]
def qX12_fits_22 : List mO := [(.aload_n 0, 1, (0, 0), []),
  (.iload_n 1, 1, (0, 0), []),
  (.invokevirtual 207, 3, (0, 0), [[1, 6225, 0], [12, 217, 59, 6227]])]
def qX12_fits_27 : List mO := [(.iload_n 2, 1, (0, 0), []),
  (.ifCond .ne 10, 3, (0, 0), [[38]]),
  (.aload_n 0, 1, (0, 0), []),
  (.getfield 190, 3, (0, 0), [[10, 5121, 0, 0], [12]]),
  (.goto 31, 3, (0, 0), [[66]])]
def qX12_fits_38 : List mO := [(.aload_n 0, 1, (0, 0), []),
  (.getfield 190, 3, (0, 0), [[10, 5121, 0, 0], [12]]),
  (.ifCond .ne 8, 3, (0, 0), [[50]]),
  (.bipush (-3), 2, ((-3), 0), []),
  (.goto 19, 3, (0, 0), [[66]])]
def qX12_fits_50 : List mO := [(.iload_n 2, 1, (0, 0), []),
  (.iconst 1, 1, (1, 0), []),
  (.if_icmp .ne 10, 3, (0, 0), [[62]]),
  (.aload_n 0, 1, (0, 0), []),
  (.getfield 199, 3, (0, 0), [[11, 5122, 0, 0], [12]]),
  (.goto 7, 3, (0, 0), [[66]])]
def qX12_fits_62 : List mO := [(.aload_n 0, 1, (0, 0), []),
  (.getfield 202, 3, (0, 0), [[12, 5123, 0, 0], [12]])]
def qX12_fits_66 : List mO := [(.ireturn, 1, (0, 0), [])]
def pX12_fits : List (Nat × List mO) := [(0, qX12_fits_0), (5, qX12_fits_5), (17, qX12_fits_17), (20, qX12_fits_20), (22, qX12_fits_22), (27, qX12_fits_27), (38, qX12_fits_38), (50, qX12_fits_50), (62, qX12_fits_62), (66, qX12_fits_66)]
def qX12_liar_0 : List mO := [(.aload_n 0, 1, (0, 0), []),
  (.iload_n 1, 1, (0, 0), []),
  (.invokevirtual 106, 3, (0, 0), [[1, 6001, 0], [12, 156, 41, 6003]])]
def qX12_liar_5 : List mO := [(.ifCond .ne 5, 3, (0, 0), [[10]]),
  (.iconst (-1), 1, ((-1), 0), []),
  (.ireturn, 1, (0, 0), [])]
def qX12_liar_10 : List mO := [(.aload_n 0, 1, (0, 0), []),
  (.iload_n 1, 1, (0, 0), []),
  (.invokevirtual 207, 3, (0, 0), [[1, 6225, 0], [12, 217, 59, 6227]])]
def qX12_liar_15 : List mO := [(.iconst 0, 1, (0, 0), []),
  (.istore_n 2, 1, (0, 0), [])]
def qX12_liar_17 : List mO := [(.iload_n 2, 1, (0, 0), []),
  (.aload_n 0, 1, (0, 0), []),
  (.getfield 7, 3, (0, 0), [[0, 5111, 0, 1], [12]]),
  (.iconst 1, 1, (1, 0), []),
  (.iaload, 1, (0, 0), []),
  (.if_icmp .ge 29, 3, (0, 0), [[53]]),
  (.aload_n 0, 1, (0, 0), []),
  (.getfield 190, 3, (0, 0), [[10, 5121, 0, 0], [12]]),
  (.ifCond .ne 16, 3, (0, 0), [[47]]),
  (.aload_n 0, 1, (0, 0), []),
  (.getfield 193, 3, (0, 0), [[13, 5124, 0, 0], [12]]),
  (.iload_n 2, 1, (0, 0), []),
  (.invokestatic 123, 3, (0, 0), [[2, 159, 6070, 6071, 0]])]
def qX12_liar_42 : List mO := [(.ifCond .eq 5, 3, (0, 0), [[47]]),
  (.iload_n 2, 1, (0, 0), []),
  (.ireturn, 1, (0, 0), [])]
def qX12_liar_47 : List mO := [(.iinc 2 1, 3, (1, 0), []),
  (.goto (-33), 3, (0, 0), [[17]])]
def qX12_liar_53 : List mO := [(.bipush (-3), 2, ((-3), 0), []),
  (.ireturn, 1, (0, 0), [])]
def pX12_liar : List (Nat × List mO) := [(0, qX12_liar_0), (5, qX12_liar_5), (10, qX12_liar_10), (15, qX12_liar_15), (17, qX12_liar_17), (42, qX12_liar_42), (47, qX12_liar_47), (53, qX12_liar_53)]
def qX12_prove_0 : List mO := [(.aload_n 0, 1, (0, 0), []),
  (.iload_n 1, 1, (0, 0), []),
  (.invokevirtual 106, 3, (0, 0), [[1, 6001, 0], [12, 156, 41, 6003]])]
def qX12_prove_5 : List mO := [(.ifCond .eq 10, 3, (0, 0), [[15]]),
  (.iload_n 2, 1, (0, 0), []),
  (.invokestatic 137, 3, (0, 0), [[1, 158, 6058, 6059, 0]])]
def qX12_prove_12 : List mO := [(.ifCond .ne 5, 3, (0, 0), [[17]])]
def qX12_prove_15 : List mO := [(.iconst (-1), 1, ((-1), 0), []),
  (.ireturn, 1, (0, 0), [])]
def qX12_prove_17 : List mO := [(.aload_n 0, 1, (0, 0), []),
  (.invokevirtual 130, 3, (0, 0), [[0, 6062, 0], [12, 178, 46, 6064]])]
def qX12_prove_21 : List mO := [(.aload_n 0, 1, (0, 0), []),
  (.iload_n 1, 1, (0, 0), []),
  (.iload_n 2, 1, (0, 0), []),
  (.iload_n 3, 1, (0, 0), []),
  (.iconst 0, 1, (0, 0), []),
  (.iconst (-1), 1, ((-1), 0), []),
  (.invokevirtual 133, 3, (0, 0), [[5, 6066, 0], [12, 179, 47, 6068]])]
def qX12_prove_30 : List mO := [(.aload_n 0, 1, (0, 0), []),
  (.iconst 0, 1, (0, 0), []),
  (.putfield 210, 3, (0, 0), [[15, 5126, 0, 0], [12]]),
  (.iload_n 1, 1, (0, 0), []),
  (.istore 4, 2, (0, 0), [])]
def qX12_prove_38 : List mO := [(.aload_n 0, 1, (0, 0), []),
  (.iload 4, 2, (0, 0), []),
  (.invokevirtual 106, 3, (0, 0), [[1, 6001, 0], [12, 156, 41, 6003]])]
def qX12_prove_44 : List mO := [(.ifCond .eq 96, 3, (0, 0), [[140]]),
  (.aload_n 0, 1, (0, 0), []),
  (.getfield 22, 3, (0, 0), [[7, 5118, 0, 1], [12]]),
  (.iload 4, 2, (0, 0), []),
  (.iaload, 1, (0, 0), []),
  (.ifCond .lt 86, 3, (0, 0), [[140]]),
  (.aload_n 0, 1, (0, 0), []),
  (.getfield 31, 3, (0, 0), [[14, 5125, 0, 1], [12]]),
  (.iconst 3, 1, (3, 0), []),
  (.aload_n 0, 1, (0, 0), []),
  (.getfield 210, 3, (0, 0), [[15, 5126, 0, 0], [12]]),
  (.imul, 1, (0, 0), []),
  (.iload 4, 2, (0, 0), []),
  (.iastore, 1, (0, 0), []),
  (.aload_n 0, 1, (0, 0), []),
  (.getfield 31, 3, (0, 0), [[14, 5125, 0, 1], [12]]),
  (.iconst 3, 1, (3, 0), []),
  (.aload_n 0, 1, (0, 0), []),
  (.getfield 210, 3, (0, 0), [[15, 5126, 0, 0], [12]]),
  (.imul, 1, (0, 0), []),
  (.iconst 1, 1, (1, 0), []),
  (.iadd, 1, (0, 0), []),
  (.aload_n 0, 1, (0, 0), []),
  (.getfield 22, 3, (0, 0), [[7, 5118, 0, 1], [12]]),
  (.iload 4, 2, (0, 0), []),
  (.iaload, 1, (0, 0), []),
  (.iastore, 1, (0, 0), []),
  (.aload_n 0, 1, (0, 0), []),
  (.getfield 31, 3, (0, 0), [[14, 5125, 0, 1], [12]]),
  (.iconst 3, 1, (3, 0), []),
  (.aload_n 0, 1, (0, 0), []),
  (.getfield 210, 3, (0, 0), [[15, 5126, 0, 0], [12]]),
  (.imul, 1, (0, 0), []),
  (.iconst 2, 1, (2, 0), []),
  (.iadd, 1, (0, 0), []),
  (.aload_n 0, 1, (0, 0), []),
  (.getfield 25, 3, (0, 0), [[8, 5119, 0, 1], [12]]),
  (.iload 4, 2, (0, 0), []),
  (.iaload, 1, (0, 0), []),
  (.iastore, 1, (0, 0), []),
  (.aload_n 0, 1, (0, 0), []),
  (.dup, 1, (0, 0), []),
  (.getfield 210, 3, (0, 0), [[15, 5126, 0, 0], [12]]),
  (.iconst 1, 1, (1, 0), []),
  (.iadd, 1, (0, 0), []),
  (.putfield 210, 3, (0, 0), [[15, 5126, 0, 0], [12]]),
  (.iload_n 3, 1, (0, 0), []),
  (.ifCond .eq 10, 3, (0, 0), [[131]]),
  (.iload 4, 2, (0, 0), []),
  (.iconst 1, 1, (1, 0), []),
  (.iadd, 1, (0, 0), []),
  (.goto 7, 3, (0, 0), [[135]])]
def qX12_prove_131 : List mO := [(.iload 4, 2, (0, 0), []),
  (.iconst 1, 1, (1, 0), []),
  (.isub, 1, (0, 0), [])]
def qX12_prove_135 : List mO := [(.istore 4, 2, (0, 0), []),
  (.goto (-99), 3, (0, 0), [[38]])]
def qX12_prove_140 : List mO := [(.aload_n 0, 1, (0, 0), []),
  (.getfield 210, 3, (0, 0), [[15, 5126, 0, 0], [12]]),
  (.ireturn, 1, (0, 0), [])]
def pX12_prove : List (Nat × List mO) := [(0, qX12_prove_0), (5, qX12_prove_5), (12, qX12_prove_12), (15, qX12_prove_15), (17, qX12_prove_17), (21, qX12_prove_21), (30, qX12_prove_30), (38, qX12_prove_38), (44, qX12_prove_44), (131, qX12_prove_131), (135, qX12_prove_135), (140, qX12_prove_140)]
def qX12_isRow_0 : List mO := [(.iload_n 1, 1, (0, 0), []),
  (.i2l, 1, (0, 0), []),
  (.lconst 0, 1, (0, 0), []),
  (.aload_n 0, 1, (0, 0), []),
  (.getfield 210, 3, (0, 0), [[15, 5126, 0, 0], [12]]),
  (.iconst 1, 1, (1, 0), []),
  (.isub, 1, (0, 0), []),
  (.i2l, 1, (0, 0), []),
  (.invokestatic 58, 3, (0, 0), [[3, 155, 5225, 5226, 0]])]
def qX12_isRow_13 : List mO := [(.ifCond .eq 19, 3, (0, 0), [[32]]),
  (.iload_n 2, 1, (0, 0), []),
  (.i2l, 1, (0, 0), []),
  (.lconst 0, 1, (0, 0), []),
  (.ldc2_w 205, 3, (0, 2), [[6224]]),
  (.invokestatic 58, 3, (0, 0), [[3, 155, 5225, 5226, 0]])]
def qX12_isRow_25 : List mO := [(.ifCond .eq 7, 3, (0, 0), [[32]]),
  (.iconst 1, 1, (1, 0), []),
  (.goto 4, 3, (0, 0), [[33]])]
def qX12_isRow_32 : List mO := [(.iconst 0, 1, (0, 0), [])]
def qX12_isRow_33 : List mO := [(.ireturn, 1, (0, 0), [[1]])]
def pX12_isRow : List (Nat × List mO) := [(0, qX12_isRow_0), (13, qX12_isRow_13), (25, qX12_isRow_25), (32, qX12_isRow_32), (33, qX12_isRow_33)]
def qX12_row_0 : List mO := [(.aload_n 0, 1, (0, 0), []),
  (.iload_n 1, 1, (0, 0), []),
  (.iload_n 2, 1, (0, 0), []),
  (.invokevirtual 213, 3, (0, 0), [[2, 7005, 0], [12, 221, 61, 7007]])]
def qX12_row_6 : List mO := [(.ifCond .eq 16, 3, (0, 0), [[22]]),
  (.aload_n 0, 1, (0, 0), []),
  (.getfield 31, 3, (0, 0), [[14, 5125, 0, 1], [12]]),
  (.iconst 3, 1, (3, 0), []),
  (.iload_n 1, 1, (0, 0), []),
  (.imul, 1, (0, 0), []),
  (.iload_n 2, 1, (0, 0), []),
  (.iadd, 1, (0, 0), []),
  (.iaload, 1, (0, 0), []),
  (.goto 5, 3, (0, 0), [[24]])]
def qX12_row_22 : List mO := [(.bipush (-9), 2, ((-9), 0), [])]
def qX12_row_24 : List mO := [(.ireturn, 1, (0, 0), [])]
def pX12_row : List (Nat × List mO) := [(0, qX12_row_0), (6, qX12_row_6), (22, qX12_row_22), (24, qX12_row_24)]
def qX12_alterRow_0 : List mO := [(.aload_n 0, 1, (0, 0), []),
  (.iload_n 1, 1, (0, 0), []),
  (.iload_n 2, 1, (0, 0), []),
  (.invokevirtual 213, 3, (0, 0), [[2, 7005, 0], [12, 221, 61, 7007]])]
def qX12_alterRow_6 : List mO := [(.ifCond .ne 6, 3, (0, 0), [[12]]),
  (.bipush (-9), 2, ((-9), 0), []),
  (.ireturn, 1, (0, 0), [])]
def qX12_alterRow_12 : List mO := [(.aload_n 0, 1, (0, 0), []),
  (.getfield 31, 3, (0, 0), [[14, 5125, 0, 1], [12]]),
  (.iconst 3, 1, (3, 0), []),
  (.iload_n 1, 1, (0, 0), []),
  (.imul, 1, (0, 0), []),
  (.iload_n 2, 1, (0, 0), []),
  (.iadd, 1, (0, 0), []),
  (.iaload, 1, (0, 0), []),
  (.istore 4, 2, (0, 0), []),
  (.aload_n 0, 1, (0, 0), []),
  (.getfield 31, 3, (0, 0), [[14, 5125, 0, 1], [12]]),
  (.iconst 3, 1, (3, 0), []),
  (.iload_n 1, 1, (0, 0), []),
  (.imul, 1, (0, 0), []),
  (.iload_n 2, 1, (0, 0), []),
  (.iadd, 1, (0, 0), []),
  (.iload_n 3, 1, (0, 0), []),
  (.iastore, 1, (0, 0), []),
  (.iload 4, 2, (0, 0), []),
  (.ireturn, 1, (0, 0), [])]
def pX12_alterRow : List (Nat × List mO) := [(0, qX12_alterRow_0), (6, qX12_alterRow_6), (12, qX12_alterRow_12)]
def qX12_isBrought_0 : List mO := [(.aload_n 0, 1, (0, 0), []),
  (.getfield 31, 3, (0, 0), [[14, 5125, 0, 1], [12]]),
  (.iconst 3, 1, (3, 0), []),
  (.iload_n 1, 1, (0, 0), []),
  (.imul, 1, (0, 0), []),
  (.iconst 3, 1, (3, 0), []),
  (.isub, 1, (0, 0), []),
  (.iaload, 1, (0, 0), []),
  (.istore_n 3, 1, (0, 0), []),
  (.iload_n 2, 1, (0, 0), []),
  (.ifCond .eq 9, 3, (0, 0), [[21]]),
  (.iload_n 3, 1, (0, 0), []),
  (.iconst 1, 1, (1, 0), []),
  (.iadd, 1, (0, 0), []),
  (.goto 6, 3, (0, 0), [[24]])]
def qX12_isBrought_21 : List mO := [(.iload_n 3, 1, (0, 0), []),
  (.iconst 1, 1, (1, 0), []),
  (.isub, 1, (0, 0), [])]
def qX12_isBrought_24 : List mO := [(.istore 4, 2, (0, 0), []),
  (.aload_n 0, 1, (0, 0), []),
  (.iload 4, 2, (0, 0), []),
  (.invokevirtual 106, 3, (0, 0), [[1, 6001, 0], [12, 156, 41, 6003]])]
def qX12_isBrought_32 : List mO := [(.ifCond .eq 16, 3, (0, 0), [[48]]),
  (.aload_n 0, 1, (0, 0), []),
  (.getfield 31, 3, (0, 0), [[14, 5125, 0, 1], [12]]),
  (.iconst 3, 1, (3, 0), []),
  (.iload_n 1, 1, (0, 0), []),
  (.imul, 1, (0, 0), []),
  (.iaload, 1, (0, 0), []),
  (.iload 4, 2, (0, 0), []),
  (.if_icmp .eq 5, 3, (0, 0), [[50]])]
def qX12_isBrought_48 : List mO := [(.iconst 0, 1, (0, 0), []),
  (.ireturn, 1, (0, 0), [[1]])]
def qX12_isBrought_50 : List mO := [(.aload_n 0, 1, (0, 0), []),
  (.iload_n 3, 1, (0, 0), []),
  (.invokevirtual 112, 3, (0, 0), [[1, 6006, 0], [12, 171, 42, 6008]])]
def qX12_isBrought_55 : List mO := [(.aload_n 0, 1, (0, 0), []),
  (.getfield 31, 3, (0, 0), [[14, 5125, 0, 1], [12]]),
  (.iconst 3, 1, (3, 0), []),
  (.iload_n 1, 1, (0, 0), []),
  (.imul, 1, (0, 0), []),
  (.iconst 2, 1, (2, 0), []),
  (.isub, 1, (0, 0), []),
  (.iaload, 1, (0, 0), []),
  (.iload_n 1, 1, (0, 0), []),
  (.iconst 1, 1, (1, 0), []),
  (.if_icmp .le 12, 3, (0, 0), [[79]]),
  (.aload_n 0, 1, (0, 0), []),
  (.iload_n 3, 1, (0, 0), []),
  (.iconst 2, 1, (2, 0), []),
  (.invokevirtual 82, 3, (0, 0), [[2, 6010, 0], [12, 164, 43, 6012]])]
def qX12_isBrought_76 : List mO := [(.goto 4, 3, (0, 0), [[80]])]
def qX12_isBrought_79 : List mO := [(.iconst 0, 1, (0, 0), [])]
def qX12_isBrought_80 : List mO := [(.iadd, 1, (0, 0), []),
  (.istore 5, 2, (0, 0), []),
  (.iload_n 1, 1, (0, 0), []),
  (.iconst 1, 1, (1, 0), []),
  (.if_icmp .eq 10, 3, (0, 0), [[95]]),
  (.aload_n 0, 1, (0, 0), []),
  (.getfield 102, 3, (0, 0), [[6, 5117, 0, 0], [12]]),
  (.ifCond .ne 7, 3, (0, 0), [[99]])]
def qX12_isBrought_95 : List mO := [(.iconst 1, 1, (1, 0), []),
  (.goto 4, 3, (0, 0), [[100]])]
def qX12_isBrought_99 : List mO := [(.iconst 0, 1, (0, 0), [])]
def qX12_isBrought_100 : List mO := [(.istore 6, 2, (0, 0), []),
  (.iload 5, 2, (0, 0), []),
  (.aload_n 0, 1, (0, 0), []),
  (.iload_n 2, 1, (0, 0), []),
  (.invokevirtual 126, 3, (0, 0), [[1, 6073, 0], [12, 177, 6052, 6051]])]
def qX12_isBrought_109 : List mO := [(.aload_n 0, 1, (0, 0), []),
  (.iload_n 2, 1, (0, 0), []),
  (.ifCond .eq 8, 3, (0, 0), [[119]]),
  (.iload 4, 2, (0, 0), []),
  (.goto 4, 3, (0, 0), [[120]])]
def qX12_isBrought_119 : List mO := [(.iload_n 3, 1, (0, 0), [])]
def qX12_isBrought_120 : List mO := [(.iconst 3, 1, (3, 0), []),
  (.invokevirtual 82, 3, (0, 0), [[2, 6010, 0], [12, 164, 43, 6012]])]
def qX12_isBrought_124 : List mO := [(.imul, 1, (0, 0), []),
  (.iadd, 1, (0, 0), []),
  (.istore 7, 2, (0, 0), []),
  (.aload_n 0, 1, (0, 0), []),
  (.iload 4, 2, (0, 0), []),
  (.invokevirtual 112, 3, (0, 0), [[1, 6006, 0], [12, 171, 42, 6008]])]
def qX12_isBrought_134 : List mO := [(.aload_n 0, 1, (0, 0), []),
  (.iload 4, 2, (0, 0), []),
  (.iconst 0, 1, (0, 0), []),
  (.invokevirtual 82, 3, (0, 0), [[2, 6010, 0], [12, 164, 43, 6012]])]
def qX12_isBrought_141 : List mO := [(.iconst 5, 1, (5, 0), []),
  (.if_icmp .ne 11, 3, (0, 0), [[153]]),
  (.iload 7, 2, (0, 0), []),
  (.sipush 360, 3, (360, 0), []),
  (.if_icmp .lt 7, 3, (0, 0), [[157]])]
def qX12_isBrought_153 : List mO := [(.iconst 1, 1, (1, 0), []),
  (.goto 4, 3, (0, 0), [[158]])]
def qX12_isBrought_157 : List mO := [(.iconst 0, 1, (0, 0), [])]
def qX12_isBrought_158 : List mO := [(.istore 8, 2, (0, 0), []),
  (.iload 6, 2, (0, 0), []),
  (.ifCond .eq 55, 3, (0, 0), [[217]]),
  (.iload 8, 2, (0, 0), []),
  (.ifCond .eq 50, 3, (0, 0), [[217]]),
  (.aload_n 0, 1, (0, 0), []),
  (.getfield 31, 3, (0, 0), [[14, 5125, 0, 1], [12]]),
  (.iconst 3, 1, (3, 0), []),
  (.iload_n 1, 1, (0, 0), []),
  (.imul, 1, (0, 0), []),
  (.iconst 1, 1, (1, 0), []),
  (.iadd, 1, (0, 0), []),
  (.iaload, 1, (0, 0), []),
  (.iload 7, 2, (0, 0), []),
  (.if_icmp .ne 35, 3, (0, 0), [[217]]),
  (.aload_n 0, 1, (0, 0), []),
  (.getfield 31, 3, (0, 0), [[14, 5125, 0, 1], [12]]),
  (.iconst 3, 1, (3, 0), []),
  (.iload_n 1, 1, (0, 0), []),
  (.imul, 1, (0, 0), []),
  (.iconst 2, 1, (2, 0), []),
  (.iadd, 1, (0, 0), []),
  (.iaload, 1, (0, 0), []),
  (.aload_n 0, 1, (0, 0), []),
  (.getfield 31, 3, (0, 0), [[14, 5125, 0, 1], [12]]),
  (.iconst 3, 1, (3, 0), []),
  (.iload_n 1, 1, (0, 0), []),
  (.imul, 1, (0, 0), []),
  (.iconst 1, 1, (1, 0), []),
  (.isub, 1, (0, 0), []),
  (.iaload, 1, (0, 0), []),
  (.aload_n 0, 1, (0, 0), []),
  (.getfield 98, 3, (0, 0), [[5, 5116, 0, 0], [12]]),
  (.iadd, 1, (0, 0), []),
  (.if_icmp .ne 7, 3, (0, 0), [[217]]),
  (.iconst 1, 1, (1, 0), []),
  (.goto 4, 3, (0, 0), [[218]])]
def qX12_isBrought_217 : List mO := [(.iconst 0, 1, (0, 0), [])]
def qX12_isBrought_218 : List mO := [(.ireturn, 1, (0, 0), [[1]])]
def pX12_isBrought : List (Nat × List mO) := [(0, qX12_isBrought_0), (21, qX12_isBrought_21), (24, qX12_isBrought_24), (32, qX12_isBrought_32), (48, qX12_isBrought_48), (50, qX12_isBrought_50), (55, qX12_isBrought_55), (76, qX12_isBrought_76), (79, qX12_isBrought_79), (80, qX12_isBrought_80), (95, qX12_isBrought_95), (99, qX12_isBrought_99), (100, qX12_isBrought_100), (109, qX12_isBrought_109), (119, qX12_isBrought_119), (120, qX12_isBrought_120), (124, qX12_isBrought_124), (134, qX12_isBrought_134), (141, qX12_isBrought_141), (153, qX12_isBrought_153), (157, qX12_isBrought_157), (158, qX12_isBrought_158), (217, qX12_isBrought_217), (218, qX12_isBrought_218)]
def qX12_judge_0 : List mO := [(.iconst 0, 1, (0, 0), []),
  (.istore_n 2, 1, (0, 0), [])]
def qX12_judge_2 : List mO := [(.iload_n 2, 1, (0, 0), []),
  (.aload_n 0, 1, (0, 0), []),
  (.getfield 210, 3, (0, 0), [[15, 5126, 0, 0], [12]]),
  (.if_icmp .ge 93, 3, (0, 0), [[100]]),
  (.aload_n 0, 1, (0, 0), []),
  (.aload_n 0, 1, (0, 0), []),
  (.getfield 31, 3, (0, 0), [[14, 5125, 0, 1], [12]]),
  (.iconst 3, 1, (3, 0), []),
  (.iload_n 2, 1, (0, 0), []),
  (.imul, 1, (0, 0), []),
  (.iaload, 1, (0, 0), []),
  (.invokevirtual 106, 3, (0, 0), [[1, 6001, 0], [12, 156, 41, 6003]])]
def qX12_judge_22 : List mO := [(.ifCond .eq 46, 3, (0, 0), [[68]]),
  (.aload_n 0, 1, (0, 0), []),
  (.getfield 31, 3, (0, 0), [[14, 5125, 0, 1], [12]]),
  (.iconst 3, 1, (3, 0), []),
  (.iload_n 2, 1, (0, 0), []),
  (.imul, 1, (0, 0), []),
  (.iconst 1, 1, (1, 0), []),
  (.iadd, 1, (0, 0), []),
  (.iaload, 1, (0, 0), []),
  (.invokestatic 137, 3, (0, 0), [[1, 158, 6058, 6059, 0]])]
def qX12_judge_38 : List mO := [(.ifCond .eq 30, 3, (0, 0), [[68]]),
  (.aload_n 0, 1, (0, 0), []),
  (.getfield 31, 3, (0, 0), [[14, 5125, 0, 1], [12]]),
  (.iconst 3, 1, (3, 0), []),
  (.iload_n 2, 1, (0, 0), []),
  (.imul, 1, (0, 0), []),
  (.iconst 2, 1, (2, 0), []),
  (.iadd, 1, (0, 0), []),
  (.iaload, 1, (0, 0), []),
  (.aload_n 0, 1, (0, 0), []),
  (.getfield 31, 3, (0, 0), [[14, 5125, 0, 1], [12]]),
  (.iconst 3, 1, (3, 0), []),
  (.iload_n 2, 1, (0, 0), []),
  (.imul, 1, (0, 0), []),
  (.iconst 1, 1, (1, 0), []),
  (.iadd, 1, (0, 0), []),
  (.iaload, 1, (0, 0), []),
  (.if_icmp .ne 7, 3, (0, 0), [[68]]),
  (.iconst 1, 1, (1, 0), []),
  (.goto 4, 3, (0, 0), [[69]])]
def qX12_judge_68 : List mO := [(.iconst 0, 1, (0, 0), [])]
def qX12_judge_69 : List mO := [(.istore_n 3, 1, (0, 0), []),
  (.iload_n 2, 1, (0, 0), []),
  (.ifCond .ne 10, 3, (0, 0), [[81]]),
  (.iload_n 3, 1, (0, 0), []),
  (.ifCond .ne 19, 3, (0, 0), [[94]]),
  (.goto 12, 3, (0, 0), [[90]])]
def qX12_judge_81 : List mO := [(.aload_n 0, 1, (0, 0), []),
  (.iload_n 2, 1, (0, 0), []),
  (.iload_n 1, 1, (0, 0), []),
  (.invokevirtual 216, 3, (0, 0), [[2, 7017, 0], [12, 224, 62, 7019]])]
def qX12_judge_87 : List mO := [(.ifCond .ne 7, 3, (0, 0), [[94]])]
def qX12_judge_90 : List mO := [(.iload_n 2, 1, (0, 0), []),
  (.iconst 1, 1, (1, 0), []),
  (.iadd, 1, (0, 0), []),
  (.ireturn, 1, (0, 0), [])]
def qX12_judge_94 : List mO := [(.iinc 2 1, 3, (1, 0), []),
  (.goto (-95), 3, (0, 0), [[2]])]
def qX12_judge_100 : List mO := [(.iconst 0, 1, (0, 0), []),
  (.ireturn, 1, (0, 0), [])]
def pX12_judge : List (Nat × List mO) := [(0, qX12_judge_0), (2, qX12_judge_2), (22, qX12_judge_22), (38, qX12_judge_38), (68, qX12_judge_68), (69, qX12_judge_69), (81, qX12_judge_81), (87, qX12_judge_87), (90, qX12_judge_90), (94, qX12_judge_94), (100, qX12_judge_100)]
def qX12_feed_0 : List mO := [(.iload_n 3, 1, (0, 0), []),
  (.i2l, 1, (0, 0), []),
  (.lconst 1, 1, (0, 1), []),
  (.ldc2_w 220, 3, (0, 8), [[7025]]),
  (.invokestatic 58, 3, (0, 0), [[3, 155, 5225, 5226, 0]])]
def qX12_feed_9 : List mO := [(.ifCond .ne 5, 3, (0, 0), [[14]]),
  (.iconst (-1), 1, ((-1), 0), []),
  (.ireturn, 1, (0, 0), [])]
def qX12_feed_14 : List mO := [(.aload_n 0, 1, (0, 0), []),
  (.getfield 222, 3, (0, 0), [[17, 5128, 0, 0], [12]]),
  (.iload_n 3, 1, (0, 0), []),
  (.iadd, 1, (0, 0), []),
  (.sipush 200, 3, (200, 0), []),
  (.if_icmp .le 6, 3, (0, 0), [[29]]),
  (.bipush (-2), 2, ((-2), 0), []),
  (.ireturn, 1, (0, 0), [])]
def qX12_feed_29 : List mO := [(.iconst 0, 1, (0, 0), []),
  (.istore 4, 2, (0, 0), [])]
def qX12_feed_32 : List mO := [(.iload 4, 2, (0, 0), []),
  (.iload_n 3, 1, (0, 0), []),
  (.if_icmp .ge 40, 3, (0, 0), [[75]]),
  (.aload_n 0, 1, (0, 0), []),
  (.getfield 34, 3, (0, 0), [[16, 5127, 0, 1], [12]]),
  (.aload_n 0, 1, (0, 0), []),
  (.getfield 222, 3, (0, 0), [[17, 5128, 0, 0], [12]]),
  (.lload_n 1, 1, (0, 0), []),
  (.bipush 8, 2, (8, 0), []),
  (.iload 4, 2, (0, 0), []),
  (.imul, 1, (0, 0), []),
  (.lshr, 1, (0, 0), []),
  (.ldc2_w 225, 3, (0, 255), [[7026]]),
  (.land, 1, (0, 0), []),
  (.l2i, 1, (0, 0), []),
  (.iastore, 1, (0, 0), []),
  (.aload_n 0, 1, (0, 0), []),
  (.dup, 1, (0, 0), []),
  (.getfield 222, 3, (0, 0), [[17, 5128, 0, 0], [12]]),
  (.iconst 1, 1, (1, 0), []),
  (.iadd, 1, (0, 0), []),
  (.putfield 222, 3, (0, 0), [[17, 5128, 0, 0], [12]]),
  (.iinc 4 1, 3, (1, 0), []),
  (.goto (-40), 3, (0, 0), [[32]])]
def qX12_feed_75 : List mO := [(.aload_n 0, 1, (0, 0), []),
  (.getfield 222, 3, (0, 0), [[17, 5128, 0, 0], [12]]),
  (.ireturn, 1, (0, 0), [])]
def pX12_feed : List (Nat × List mO) := [(0, qX12_feed_0), (9, qX12_feed_9), (14, qX12_feed_14), (29, qX12_feed_29), (32, qX12_feed_32), (75, qX12_feed_75)]
def qX12_byteAt_0 : List mO := [(.iload_n 1, 1, (0, 0), []),
  (.aload_n 0, 1, (0, 0), []),
  (.getfield 222, 3, (0, 0), [[17, 5128, 0, 0], [12]]),
  (.if_icmp .ge 12, 3, (0, 0), [[17]]),
  (.aload_n 0, 1, (0, 0), []),
  (.getfield 34, 3, (0, 0), [[16, 5127, 0, 1], [12]]),
  (.iload_n 1, 1, (0, 0), []),
  (.iaload, 1, (0, 0), []),
  (.goto 4, 3, (0, 0), [[18]])]
def qX12_byteAt_17 : List mO := [(.iconst (-1), 1, ((-1), 0), [])]
def qX12_byteAt_18 : List mO := [(.ireturn, 1, (0, 0), [])]
def pX12_byteAt : List (Nat × List mO) := [(0, qX12_byteAt_0), (17, qX12_byteAt_17), (18, qX12_byteAt_18)]
def qX12_isLetter_0 : List mO := [(.iload_n 0, 1, (0, 0), []),
  (.i2l, 1, (0, 0), []),
  (.ldc2_w 227, 3, (0, 97), [[7046]]),
  (.ldc2_w 229, 3, (0, 122), [[7047]]),
  (.invokestatic 58, 3, (0, 0), [[3, 155, 5225, 5226, 0]])]
def qX12_isLetter_11 : List mO := [(.ireturn, 1, (0, 0), [[1]])]
def pX12_isLetter : List (Nat × List mO) := [(0, qX12_isLetter_0), (11, qX12_isLetter_11)]
def qX12_isDigit_0 : List mO := [(.iload_n 0, 1, (0, 0), []),
  (.i2l, 1, (0, 0), []),
  (.ldc2_w 231, 3, (0, 48), [[7051]]),
  (.ldc2_w 233, 3, (0, 57), [[7052]]),
  (.invokestatic 58, 3, (0, 0), [[3, 155, 5225, 5226, 0]])]
def qX12_isDigit_11 : List mO := [(.ireturn, 1, (0, 0), [[1]])]
def pX12_isDigit : List (Nat × List mO) := [(0, qX12_isDigit_0), (11, qX12_isDigit_11)]
def qX12_token_0 : List mO := [(.aload_n 0, 1, (0, 0), []),
  (.aload_n 0, 1, (0, 0), []),
  (.getfield 235, 3, (0, 0), [[19, 5130, 0, 0], [12]]),
  (.putfield 238, 3, (0, 0), [[18, 5129, 0, 0], [12]])]
def qX12_token_8 : List mO := [(.aload_n 0, 1, (0, 0), []),
  (.aload_n 0, 1, (0, 0), []),
  (.getfield 238, 3, (0, 0), [[18, 5129, 0, 0], [12]]),
  (.invokevirtual 241, 3, (0, 0), [[1, 7039, 0], [12, 227, 65, 7041]])]
def qX12_token_16 : List mO := [(.bipush 32, 2, (32, 0), []),
  (.if_icmp .ne 16, 3, (0, 0), [[34]]),
  (.aload_n 0, 1, (0, 0), []),
  (.dup, 1, (0, 0), []),
  (.getfield 238, 3, (0, 0), [[18, 5129, 0, 0], [12]]),
  (.iconst 1, 1, (1, 0), []),
  (.iadd, 1, (0, 0), []),
  (.putfield 238, 3, (0, 0), [[18, 5129, 0, 0], [12]]),
  (.goto (-23), 3, (0, 0), [[8]])]
def qX12_token_34 : List mO := [(.aload_n 0, 1, (0, 0), []),
  (.aload_n 0, 1, (0, 0), []),
  (.getfield 238, 3, (0, 0), [[18, 5129, 0, 0], [12]]),
  (.invokevirtual 241, 3, (0, 0), [[1, 7039, 0], [12, 227, 65, 7041]])]
def qX12_token_42 : List mO := [(.invokestatic 244, 3, (0, 0), [[1, 228, 7043, 7044, 0]])]
def qX12_token_45 : List mO := [(.istore_n 1, 1, (0, 0), []),
  (.aload_n 0, 1, (0, 0), []),
  (.aload_n 0, 1, (0, 0), []),
  (.getfield 238, 3, (0, 0), [[18, 5129, 0, 0], [12]]),
  (.invokevirtual 241, 3, (0, 0), [[1, 7039, 0], [12, 227, 65, 7041]])]
def qX12_token_54 : List mO := [(.invokestatic 247, 3, (0, 0), [[1, 229, 7048, 7049, 0]])]
def qX12_token_57 : List mO := [(.istore_n 2, 1, (0, 0), []),
  (.aload_n 0, 1, (0, 0), []),
  (.aload_n 0, 1, (0, 0), []),
  (.getfield 238, 3, (0, 0), [[18, 5129, 0, 0], [12]]),
  (.aload_n 0, 1, (0, 0), []),
  (.getfield 222, 3, (0, 0), [[17, 5128, 0, 0], [12]]),
  (.if_icmp .ge 12, 3, (0, 0), [[79]]),
  (.aload_n 0, 1, (0, 0), []),
  (.getfield 238, 3, (0, 0), [[18, 5129, 0, 0], [12]]),
  (.iconst 1, 1, (1, 0), []),
  (.iadd, 1, (0, 0), []),
  (.goto 7, 3, (0, 0), [[83]])]
def qX12_token_79 : List mO := [(.aload_n 0, 1, (0, 0), []),
  (.getfield 238, 3, (0, 0), [[18, 5129, 0, 0], [12]])]
def qX12_token_83 : List mO := [(.putfield 235, 3, (0, 0), [[19, 5130, 0, 0], [12]])]
def qX12_token_86 : List mO := [(.iload_n 1, 1, (0, 0), []),
  (.ifCond .eq 17, 3, (0, 0), [[104]]),
  (.aload_n 0, 1, (0, 0), []),
  (.aload_n 0, 1, (0, 0), []),
  (.getfield 235, 3, (0, 0), [[19, 5130, 0, 0], [12]]),
  (.invokevirtual 241, 3, (0, 0), [[1, 7039, 0], [12, 227, 65, 7041]])]
def qX12_token_98 : List mO := [(.invokestatic 244, 3, (0, 0), [[1, 228, 7043, 7044, 0]])]
def qX12_token_101 : List mO := [(.ifCond .ne 21, 3, (0, 0), [[122]])]
def qX12_token_104 : List mO := [(.iload_n 2, 1, (0, 0), []),
  (.ifCond .eq 30, 3, (0, 0), [[135]]),
  (.aload_n 0, 1, (0, 0), []),
  (.aload_n 0, 1, (0, 0), []),
  (.getfield 235, 3, (0, 0), [[19, 5130, 0, 0], [12]]),
  (.invokevirtual 241, 3, (0, 0), [[1, 7039, 0], [12, 227, 65, 7041]])]
def qX12_token_116 : List mO := [(.invokestatic 247, 3, (0, 0), [[1, 229, 7048, 7049, 0]])]
def qX12_token_119 : List mO := [(.ifCond .eq 16, 3, (0, 0), [[135]])]
def qX12_token_122 : List mO := [(.aload_n 0, 1, (0, 0), []),
  (.dup, 1, (0, 0), []),
  (.getfield 235, 3, (0, 0), [[19, 5130, 0, 0], [12]]),
  (.iconst 1, 1, (1, 0), []),
  (.iadd, 1, (0, 0), []),
  (.putfield 235, 3, (0, 0), [[19, 5130, 0, 0], [12]]),
  (.goto (-46), 3, (0, 0), [[86]])]
def qX12_token_135 : List mO := [(.return_, 1, (0, 0), [])]
def pX12_token : List (Nat × List mO) := [(0, qX12_token_0), (8, qX12_token_8), (16, qX12_token_16), (34, qX12_token_34), (42, qX12_token_42), (45, qX12_token_45), (54, qX12_token_54), (57, qX12_token_57), (79, qX12_token_79), (83, qX12_token_83), (86, qX12_token_86), (98, qX12_token_98), (101, qX12_token_101), (104, qX12_token_104), (116, qX12_token_116), (119, qX12_token_119), (122, qX12_token_122), (135, qX12_token_135)]
def qX12_needs_0 : List mO := [(.aload_n 0, 1, (0, 0), []),
  (.aload_n 0, 1, (0, 0), []),
  (.getfield 250, 3, (0, 0), [[23, 5134, 0, 0], [12]]),
  (.ifCond .ne 7, 3, (0, 0), [[12]]),
  (.iload_n 1, 1, (0, 0), []),
  (.ifCond .ne 7, 3, (0, 0), [[16]])]
def qX12_needs_12 : List mO := [(.iconst 1, 1, (1, 0), []),
  (.goto 4, 3, (0, 0), [[17]])]
def qX12_needs_16 : List mO := [(.iconst 0, 1, (0, 0), [])]
def qX12_needs_17 : List mO := [(.putfield 250, 3, (0, 0), [[23, 5134, 0, 0], [12]]),
  (.aload_n 0, 1, (0, 0), []),
  (.getfield 250, 3, (0, 0), [[23, 5134, 0, 0], [12]]),
  (.ifCond .ne 7, 3, (0, 0), [[31]]),
  (.aload_n 0, 1, (0, 0), []),
  (.invokevirtual 253, 3, (0, 0), [[0, 7035, 0], [12, 230, 64, 7037]])]
def qX12_needs_31 : List mO := [(.return_, 1, (0, 0), [])]
def pX12_needs : List (Nat × List mO) := [(0, qX12_needs_0), (12, qX12_needs_12), (16, qX12_needs_16), (17, qX12_needs_17), (31, qX12_needs_31)]
def qX12_word_0 : List mO := [(.lconst 0, 1, (0, 0), []),
  (.lstore_n 1, 1, (0, 0), []),
  (.aload_n 0, 1, (0, 0), []),
  (.getfield 238, 3, (0, 0), [[18, 5129, 0, 0], [12]]),
  (.istore_n 3, 1, (0, 0), [])]
def qX12_word_7 : List mO := [(.iload_n 3, 1, (0, 0), []),
  (.aload_n 0, 1, (0, 0), []),
  (.getfield 235, 3, (0, 0), [[19, 5130, 0, 0], [12]]),
  (.if_icmp .ge 38, 3, (0, 0), [[50]]),
  (.lload_n 1, 1, (0, 0), []),
  (.ldc2_w 256, 3, (0, 36028797018963967), [[7065]]),
  (.lcmp, 1, (0, 0), []),
  (.ifCond .le 7, 3, (0, 0), [[27]]),
  (.lload_n 1, 1, (0, 0), []),
  (.goto 19, 3, (0, 0), [[43]])]
def qX12_word_27 : List mO := [(.ldc2_w 258, 3, (0, 32), [[7066]]),
  (.lload_n 1, 1, (0, 0), []),
  (.lmul, 1, (0, 0), []),
  (.aload_n 0, 1, (0, 0), []),
  (.getfield 34, 3, (0, 0), [[16, 5127, 0, 1], [12]]),
  (.iload_n 3, 1, (0, 0), []),
  (.iaload, 1, (0, 0), []),
  (.bipush 96, 2, (96, 0), []),
  (.isub, 1, (0, 0), []),
  (.i2l, 1, (0, 0), []),
  (.ladd, 1, (0, 0), [])]
def qX12_word_43 : List mO := [(.lstore_n 1, 1, (0, 0), []),
  (.iinc 3 1, 3, (1, 0), []),
  (.goto (-40), 3, (0, 0), [[7]])]
def qX12_word_50 : List mO := [(.aload_n 0, 1, (0, 0), []),
  (.getfield 250, 3, (0, 0), [[23, 5134, 0, 0], [12]]),
  (.ifCond .ne 17, 3, (0, 0), [[71]]),
  (.aload_n 0, 1, (0, 0), []),
  (.aload_n 0, 1, (0, 0), []),
  (.getfield 238, 3, (0, 0), [[18, 5129, 0, 0], [12]]),
  (.invokevirtual 241, 3, (0, 0), [[1, 7039, 0], [12, 227, 65, 7041]])]
def qX12_word_65 : List mO := [(.invokestatic 244, 3, (0, 0), [[1, 228, 7043, 7044, 0]])]
def qX12_word_68 : List mO := [(.ifCond .ne 7, 3, (0, 0), [[75]])]
def qX12_word_71 : List mO := [(.lconst 0, 1, (0, 0), []),
  (.goto 4, 3, (0, 0), [[76]])]
def qX12_word_75 : List mO := [(.lload_n 1, 1, (0, 0), [])]
def qX12_word_76 : List mO := [(.lreturn, 1, (0, 0), [])]
def pX12_word : List (Nat × List mO) := [(0, qX12_word_0), (7, qX12_word_7), (27, qX12_word_27), (43, qX12_word_43), (50, qX12_word_50), (65, qX12_word_65), (68, qX12_word_68), (71, qX12_word_71), (75, qX12_word_75), (76, qX12_word_76)]
def qX12_number_0 : List mO := [(.aload_n 0, 1, (0, 0), []),
  (.aload_n 0, 1, (0, 0), []),
  (.getfield 238, 3, (0, 0), [[18, 5129, 0, 0], [12]]),
  (.invokevirtual 241, 3, (0, 0), [[1, 7039, 0], [12, 227, 65, 7041]])]
def qX12_number_8 : List mO := [(.invokestatic 247, 3, (0, 0), [[1, 229, 7048, 7049, 0]])]
def qX12_number_11 : List mO := [(.ifCond .eq 20, 3, (0, 0), [[31]]),
  (.aload_n 0, 1, (0, 0), []),
  (.getfield 235, 3, (0, 0), [[19, 5130, 0, 0], [12]]),
  (.aload_n 0, 1, (0, 0), []),
  (.getfield 238, 3, (0, 0), [[18, 5129, 0, 0], [12]]),
  (.isub, 1, (0, 0), []),
  (.iconst 5, 1, (5, 0), []),
  (.if_icmp .ge 7, 3, (0, 0), [[31]]),
  (.iconst 1, 1, (1, 0), []),
  (.goto 4, 3, (0, 0), [[32]])]
def qX12_number_31 : List mO := [(.iconst 0, 1, (0, 0), [])]
def qX12_number_32 : List mO := [(.istore_n 2, 1, (0, 0), []),
  (.aload_n 0, 1, (0, 0), []),
  (.iconst 0, 1, (0, 0), []),
  (.putfield 260, 3, (0, 0), [[20, 5131, 0, 0], [12]]),
  (.aload_n 0, 1, (0, 0), []),
  (.getfield 238, 3, (0, 0), [[18, 5129, 0, 0], [12]]),
  (.istore_n 3, 1, (0, 0), [])]
def qX12_number_43 : List mO := [(.iload_n 3, 1, (0, 0), []),
  (.aload_n 0, 1, (0, 0), []),
  (.getfield 235, 3, (0, 0), [[19, 5130, 0, 0], [12]]),
  (.if_icmp .ge 34, 3, (0, 0), [[82]]),
  (.iload_n 2, 1, (0, 0), []),
  (.ifCond .eq 30, 3, (0, 0), [[82]]),
  (.aload_n 0, 1, (0, 0), []),
  (.bipush 10, 2, (10, 0), []),
  (.aload_n 0, 1, (0, 0), []),
  (.getfield 260, 3, (0, 0), [[20, 5131, 0, 0], [12]]),
  (.imul, 1, (0, 0), []),
  (.aload_n 0, 1, (0, 0), []),
  (.getfield 34, 3, (0, 0), [[16, 5127, 0, 1], [12]]),
  (.iload_n 3, 1, (0, 0), []),
  (.iaload, 1, (0, 0), []),
  (.iadd, 1, (0, 0), []),
  (.bipush 48, 2, (48, 0), []),
  (.isub, 1, (0, 0), []),
  (.putfield 260, 3, (0, 0), [[20, 5131, 0, 0], [12]]),
  (.iinc 3 1, 3, (1, 0), []),
  (.goto (-36), 3, (0, 0), [[43]])]
def qX12_number_82 : List mO := [(.aload_n 0, 1, (0, 0), []),
  (.iload_n 2, 1, (0, 0), []),
  (.ifCond .eq 15, 3, (0, 0), [[99]]),
  (.aload_n 0, 1, (0, 0), []),
  (.getfield 260, 3, (0, 0), [[20, 5131, 0, 0], [12]]),
  (.iload_n 1, 1, (0, 0), []),
  (.if_icmp .gt 7, 3, (0, 0), [[99]]),
  (.iconst 1, 1, (1, 0), []),
  (.goto 4, 3, (0, 0), [[100]])]
def qX12_number_99 : List mO := [(.iconst 0, 1, (0, 0), [])]
def qX12_number_100 : List mO := [(.invokevirtual 263, 3, (0, 0), [[1, 7073, 0], [12, 231, 69, 7075]])]
def qX12_number_103 : List mO := [(.return_, 1, (0, 0), [])]
def pX12_number : List (Nat × List mO) := [(0, qX12_number_0), (8, qX12_number_8), (11, qX12_number_11), (31, qX12_number_31), (32, qX12_number_32), (43, qX12_number_43), (82, qX12_number_82), (99, qX12_number_99), (100, qX12_number_100), (103, qX12_number_103)]
def qX12_kindHere_0 : List mO := [(.aload_n 0, 1, (0, 0), []),
  (.invokevirtual 267, 3, (0, 0), [[0, 7061, 0], [12, 232, 68, 7063]])]
def qX12_kindHere_4 : List mO := [(.lstore_n 1, 1, (0, 0), []),
  (.lload_n 1, 1, (0, 0), []),
  (.ldc2_w 271, 3, (0, 792022234158), [[7067]]),
  (.lcmp, 1, (0, 0), []),
  (.ifCond .ne 7, 3, (0, 0), [[17]]),
  (.iconst 0, 1, (0, 0), []),
  (.goto 64, 3, (0, 0), [[78]])]
def qX12_kindHere_17 : List mO := [(.lload_n 1, 1, (0, 0), []),
  (.ldc2_w 273, 3, (0, 17171758), [[7068]]),
  (.lcmp, 1, (0, 0), []),
  (.ifCond .ne 7, 3, (0, 0), [[29]]),
  (.iconst 1, 1, (1, 0), []),
  (.goto 52, 3, (0, 0), [[78]])]
def qX12_kindHere_29 : List mO := [(.lload_n 1, 1, (0, 0), []),
  (.ldc2_w 275, 3, (0, 17383076), [[7069]]),
  (.lcmp, 1, (0, 0), []),
  (.ifCond .ne 7, 3, (0, 0), [[41]]),
  (.iconst 2, 1, (2, 0), []),
  (.goto 40, 3, (0, 0), [[78]])]
def qX12_kindHere_41 : List mO := [(.lload_n 1, 1, (0, 0), []),
  (.ldc2_w 277, 3, (0, 4806091), [[7070]]),
  (.lcmp, 1, (0, 0), []),
  (.ifCond .ne 7, 3, (0, 0), [[53]]),
  (.iconst 3, 1, (3, 0), []),
  (.goto 28, 3, (0, 0), [[78]])]
def qX12_kindHere_53 : List mO := [(.lload_n 1, 1, (0, 0), []),
  (.ldc2_w 279, 3, (0, 441913522), [[7071]]),
  (.lcmp, 1, (0, 0), []),
  (.ifCond .ne 7, 3, (0, 0), [[65]]),
  (.iconst 4, 1, (4, 0), []),
  (.goto 16, 3, (0, 0), [[78]])]
def qX12_kindHere_65 : List mO := [(.lload_n 1, 1, (0, 0), []),
  (.ldc2_w 281, 3, (0, 20809171122), [[7072]]),
  (.lcmp, 1, (0, 0), []),
  (.ifCond .ne 7, 3, (0, 0), [[77]]),
  (.iconst 5, 1, (5, 0), []),
  (.goto 4, 3, (0, 0), [[78]])]
def qX12_kindHere_77 : List mO := [(.iconst (-1), 1, ((-1), 0), [])]
def qX12_kindHere_78 : List mO := [(.ireturn, 1, (0, 0), [])]
def pX12_kindHere : List (Nat × List mO) := [(0, qX12_kindHere_0), (4, qX12_kindHere_4), (17, qX12_kindHere_17), (29, qX12_kindHere_29), (41, qX12_kindHere_41), (53, qX12_kindHere_53), (65, qX12_kindHere_65), (77, qX12_kindHere_77), (78, qX12_kindHere_78)]
def qX12_factHere_0 : List mO := [(.aload_n 0, 1, (0, 0), []),
  (.invokevirtual 267, 3, (0, 0), [[0, 7061, 0], [12, 232, 68, 7063]])]
def qX12_factHere_4 : List mO := [(.lstore_n 1, 1, (0, 0), []),
  (.lload_n 1, 1, (0, 0), []),
  (.ldc2_w 283, 3, (0, 4153), [[7103]]),
  (.lcmp, 1, (0, 0), []),
  (.ifCond .ne 7, 3, (0, 0), [[17]]),
  (.iconst (-1), 1, ((-1), 0), []),
  (.goto 69, 3, (0, 0), [[83]])]
def qX12_factHere_17 : List mO := [(.lload_n 1, 1, (0, 0), []),
  (.ldc2_w 285, 3, (0, 763332), [[7104]]),
  (.lcmp, 1, (0, 0), []),
  (.ifCond .ne 8, 3, (0, 0), [[30]]),
  (.bipush (-2), 2, ((-2), 0), []),
  (.goto 56, 3, (0, 0), [[83]])]
def qX12_factHere_30 : List mO := [(.lload_n 1, 1, (0, 0), []),
  (.ldc2_w 287, 3, (0, 1156), [[7105]]),
  (.lcmp, 1, (0, 0), []),
  (.ifCond .ne 8, 3, (0, 0), [[43]]),
  (.bipush (-3), 2, ((-3), 0), []),
  (.goto 43, 3, (0, 0), [[83]])]
def qX12_factHere_43 : List mO := [(.lload_n 1, 1, (0, 0), []),
  (.ldc2_w 289, 3, (0, 4370489), [[7106]]),
  (.lcmp, 1, (0, 0), []),
  (.ifCond .ne 8, 3, (0, 0), [[56]]),
  (.bipush (-4), 2, ((-4), 0), []),
  (.goto 30, 3, (0, 0), [[83]])]
def qX12_factHere_56 : List mO := [(.lload_n 1, 1, (0, 0), []),
  (.ldc2_w 291, 3, (0, 13938867), [[7107]]),
  (.lcmp, 1, (0, 0), []),
  (.ifCond .ne 8, 3, (0, 0), [[69]]),
  (.bipush (-5), 2, ((-5), 0), []),
  (.goto 17, 3, (0, 0), [[83]])]
def qX12_factHere_69 : List mO := [(.lload_n 1, 1, (0, 0), []),
  (.ldc2_w 293, 3, (0, 492210354), [[7108]]),
  (.lcmp, 1, (0, 0), []),
  (.ifCond .ne 8, 3, (0, 0), [[82]]),
  (.bipush (-6), 2, ((-6), 0), []),
  (.goto 4, 3, (0, 0), [[83]])]
def qX12_factHere_82 : List mO := [(.iconst 0, 1, (0, 0), [])]
def qX12_factHere_83 : List mO := [(.ireturn, 1, (0, 0), [])]
def pX12_factHere : List (Nat × List mO) := [(0, qX12_factHere_0), (4, qX12_factHere_4), (17, qX12_factHere_17), (30, qX12_factHere_30), (43, qX12_factHere_43), (56, qX12_factHere_56), (69, qX12_factHere_69), (82, qX12_factHere_82), (83, qX12_factHere_83)]
def qX12_writes_0 : List mO := [(.aload_n 0, 1, (0, 0), []),
  (.getfield 250, 3, (0, 0), [[23, 5134, 0, 0], [12]]),
  (.ifCond .ne 26, 3, (0, 0), [[30]]),
  (.aload_n 0, 1, (0, 0), []),
  (.getfield 7, 3, (0, 0), [[0, 5111, 0, 1], [12]]),
  (.bipush 110, 2, (110, 0), []),
  (.aload_n 0, 1, (0, 0), []),
  (.getfield 295, 3, (0, 0), [[22, 5133, 0, 0], [12]]),
  (.iadd, 1, (0, 0), []),
  (.iload_n 1, 1, (0, 0), []),
  (.iastore, 1, (0, 0), []),
  (.aload_n 0, 1, (0, 0), []),
  (.dup, 1, (0, 0), []),
  (.getfield 295, 3, (0, 0), [[22, 5133, 0, 0], [12]]),
  (.iconst 1, 1, (1, 0), []),
  (.iadd, 1, (0, 0), []),
  (.putfield 295, 3, (0, 0), [[22, 5133, 0, 0], [12]])]
def qX12_writes_30 : List mO := [(.return_, 1, (0, 0), [])]
def pX12_writes : List (Nat × List mO) := [(0, qX12_writes_0), (30, qX12_writes_30)]
def qX12_valueHere_0 : List mO := [(.aload_n 0, 1, (0, 0), []),
  (.invokevirtual 298, 3, (0, 0), [[0, 7099, 0], [12, 235, 75, 7101]])]
def qX12_valueHere_4 : List mO := [(.istore_n 1, 1, (0, 0), []),
  (.iload_n 1, 1, (0, 0), []),
  (.ifCond .ge 16, 3, (0, 0), [[22]]),
  (.aload_n 0, 1, (0, 0), []),
  (.iconst 1, 1, (1, 0), []),
  (.invokevirtual 263, 3, (0, 0), [[1, 7073, 0], [12, 231, 69, 7075]])]
def qX12_valueHere_14 : List mO := [(.aload_n 0, 1, (0, 0), []),
  (.iload_n 1, 1, (0, 0), []),
  (.invokevirtual 301, 3, (0, 0), [[1, 7109, 0], [12, 236, 76, 7111]])]
def qX12_valueHere_19 : List mO := [(.goto 25, 3, (0, 0), [[44]])]
def qX12_valueHere_22 : List mO := [(.aload_n 0, 1, (0, 0), []),
  (.getfield 250, 3, (0, 0), [[23, 5134, 0, 0], [12]]),
  (.ifCond .ne 18, 3, (0, 0), [[44]]),
  (.aload_n 0, 1, (0, 0), []),
  (.sipush 9999, 3, (9999, 0), []),
  (.invokevirtual 304, 3, (0, 0), [[1, 7113, 0], [12, 233, 77, 7115]])]
def qX12_valueHere_36 : List mO := [(.aload_n 0, 1, (0, 0), []),
  (.aload_n 0, 1, (0, 0), []),
  (.getfield 260, 3, (0, 0), [[20, 5131, 0, 0], [12]]),
  (.invokevirtual 301, 3, (0, 0), [[1, 7109, 0], [12, 236, 76, 7111]])]
def qX12_valueHere_44 : List mO := [(.return_, 1, (0, 0), [])]
def pX12_valueHere : List (Nat × List mO) := [(0, qX12_valueHere_0), (4, qX12_valueHere_4), (14, qX12_valueHere_14), (19, qX12_valueHere_19), (22, qX12_valueHere_22), (36, qX12_valueHere_36), (44, qX12_valueHere_44)]
def qX12_comparison_0 : List mO := [(.aload_n 0, 1, (0, 0), []),
  (.invokevirtual 307, 3, (0, 0), [[0, 7095, 0], [12, 237, 74, 7097]])]
def qX12_comparison_4 : List mO := [(.aload_n 0, 1, (0, 0), []),
  (.getfield 250, 3, (0, 0), [[23, 5134, 0, 0], [12]]),
  (.ifCond .eq 7, 3, (0, 0), [[15]]),
  (.iconst (-1), 1, ((-1), 0), []),
  (.goto 11, 3, (0, 0), [[23]])]
def qX12_comparison_15 : List mO := [(.aload_n 0, 1, (0, 0), []),
  (.aload_n 0, 1, (0, 0), []),
  (.getfield 238, 3, (0, 0), [[18, 5129, 0, 0], [12]]),
  (.invokevirtual 241, 3, (0, 0), [[1, 7039, 0], [12, 227, 65, 7041]])]
def qX12_comparison_23 : List mO := [(.istore_n 1, 1, (0, 0), []),
  (.aload_n 0, 1, (0, 0), []),
  (.iload_n 1, 1, (0, 0), []),
  (.bipush 60, 2, (60, 0), []),
  (.if_icmp .eq 15, 3, (0, 0), [[43]]),
  (.iload_n 1, 1, (0, 0), []),
  (.bipush 61, 2, (61, 0), []),
  (.if_icmp .eq 9, 3, (0, 0), [[43]]),
  (.iload_n 1, 1, (0, 0), []),
  (.bipush 62, 2, (62, 0), []),
  (.if_icmp .ne 7, 3, (0, 0), [[47]])]
def qX12_comparison_43 : List mO := [(.iconst 1, 1, (1, 0), []),
  (.goto 4, 3, (0, 0), [[48]])]
def qX12_comparison_47 : List mO := [(.iconst 0, 1, (0, 0), [])]
def qX12_comparison_48 : List mO := [(.invokevirtual 263, 3, (0, 0), [[1, 7073, 0], [12, 231, 69, 7075]])]
def qX12_comparison_51 : List mO := [(.aload_n 0, 1, (0, 0), []),
  (.invokevirtual 307, 3, (0, 0), [[0, 7095, 0], [12, 237, 74, 7097]])]
def qX12_comparison_55 : List mO := [(.aload_n 0, 1, (0, 0), []),
  (.iload_n 1, 1, (0, 0), []),
  (.bipush 60, 2, (60, 0), []),
  (.if_icmp .ne 8, 3, (0, 0), [[67]]),
  (.bipush (-11), 2, ((-11), 0), []),
  (.goto 16, 3, (0, 0), [[80]])]
def qX12_comparison_67 : List mO := [(.iload_n 1, 1, (0, 0), []),
  (.bipush 61, 2, (61, 0), []),
  (.if_icmp .ne 8, 3, (0, 0), [[78]]),
  (.bipush (-12), 2, ((-12), 0), []),
  (.goto 5, 3, (0, 0), [[80]])]
def qX12_comparison_78 : List mO := [(.bipush (-13), 2, ((-13), 0), [])]
def qX12_comparison_80 : List mO := [(.invokevirtual 301, 3, (0, 0), [[1, 7109, 0], [12, 236, 76, 7111]])]
def qX12_comparison_83 : List mO := [(.return_, 1, (0, 0), [])]
def pX12_comparison : List (Nat × List mO) := [(0, qX12_comparison_0), (4, qX12_comparison_4), (15, qX12_comparison_15), (23, qX12_comparison_23), (43, qX12_comparison_43), (47, qX12_comparison_47), (48, qX12_comparison_48), (51, qX12_comparison_51), (55, qX12_comparison_55), (67, qX12_comparison_67), (78, qX12_comparison_78), (80, qX12_comparison_80), (83, qX12_comparison_83)]
def qX12_one_0 : List mO := [(.iconst 0, 1, (0, 0), []),
  (.istore_n 1, 1, (0, 0), [])]
def qX12_one_2 : List mO := [(.aload_n 0, 1, (0, 0), []),
  (.invokevirtual 267, 3, (0, 0), [[0, 7061, 0], [12, 232, 68, 7063]])]
def qX12_one_6 : List mO := [(.ldc2_w 310, 3, (0, 14836), [[7090]]),
  (.lcmp, 1, (0, 0), []),
  (.ifCond .ne 21, 3, (0, 0), [[31]]),
  (.iload_n 1, 1, (0, 0), []),
  (.ifCond .ne 7, 3, (0, 0), [[21]]),
  (.iconst 1, 1, (1, 0), []),
  (.goto 4, 3, (0, 0), [[22]])]
def qX12_one_21 : List mO := [(.iconst 0, 1, (0, 0), [])]
def qX12_one_22 : List mO := [(.istore_n 1, 1, (0, 0), []),
  (.aload_n 0, 1, (0, 0), []),
  (.iconst 1, 1, (1, 0), []),
  (.invokevirtual 263, 3, (0, 0), [[1, 7073, 0], [12, 231, 69, 7075]])]
def qX12_one_28 : List mO := [(.goto (-26), 3, (0, 0), [[2]])]
def qX12_one_31 : List mO := [(.aload_n 0, 1, (0, 0), []),
  (.getfield 250, 3, (0, 0), [[23, 5134, 0, 0], [12]]),
  (.ifCond .ne 89, 3, (0, 0), [[124]]),
  (.aload_n 0, 1, (0, 0), []),
  (.aload_n 0, 1, (0, 0), []),
  (.getfield 238, 3, (0, 0), [[18, 5129, 0, 0], [12]]),
  (.invokevirtual 241, 3, (0, 0), [[1, 7039, 0], [12, 227, 65, 7041]])]
def qX12_one_46 : List mO := [(.bipush 40, 2, (40, 0), []),
  (.if_icmp .ne 76, 3, (0, 0), [[124]]),
  (.aload_n 0, 1, (0, 0), []),
  (.aload_n 0, 1, (0, 0), []),
  (.getfield 312, 3, (0, 0), [[21, 5132, 0, 0], [12]]),
  (.iconst 3, 1, (3, 0), []),
  (.if_icmp .ge 7, 3, (0, 0), [[64]]),
  (.iconst 1, 1, (1, 0), []),
  (.goto 4, 3, (0, 0), [[65]])]
def qX12_one_64 : List mO := [(.iconst 0, 1, (0, 0), [])]
def qX12_one_65 : List mO := [(.invokevirtual 263, 3, (0, 0), [[1, 7073, 0], [12, 231, 69, 7075]])]
def qX12_one_68 : List mO := [(.aload_n 0, 1, (0, 0), []),
  (.dup, 1, (0, 0), []),
  (.getfield 312, 3, (0, 0), [[21, 5132, 0, 0], [12]]),
  (.iconst 1, 1, (1, 0), []),
  (.iadd, 1, (0, 0), []),
  (.putfield 312, 3, (0, 0), [[21, 5132, 0, 0], [12]]),
  (.aload_n 0, 1, (0, 0), []),
  (.invokevirtual 315, 3, (0, 0), [[0, 7078, 0], [12, 241, 70, 7080]])]
def qX12_one_82 : List mO := [(.aload_n 0, 1, (0, 0), []),
  (.dup, 1, (0, 0), []),
  (.getfield 312, 3, (0, 0), [[21, 5132, 0, 0], [12]]),
  (.iconst 1, 1, (1, 0), []),
  (.isub, 1, (0, 0), []),
  (.putfield 312, 3, (0, 0), [[21, 5132, 0, 0], [12]]),
  (.aload_n 0, 1, (0, 0), []),
  (.aload_n 0, 1, (0, 0), []),
  (.getfield 250, 3, (0, 0), [[23, 5134, 0, 0], [12]]),
  (.ifCond .ne 20, 3, (0, 0), [[117]]),
  (.aload_n 0, 1, (0, 0), []),
  (.aload_n 0, 1, (0, 0), []),
  (.getfield 238, 3, (0, 0), [[18, 5129, 0, 0], [12]]),
  (.invokevirtual 241, 3, (0, 0), [[1, 7039, 0], [12, 227, 65, 7041]])]
def qX12_one_108 : List mO := [(.bipush 41, 2, (41, 0), []),
  (.if_icmp .ne 7, 3, (0, 0), [[117]]),
  (.iconst 1, 1, (1, 0), []),
  (.goto 4, 3, (0, 0), [[118]])]
def qX12_one_117 : List mO := [(.iconst 0, 1, (0, 0), [])]
def qX12_one_118 : List mO := [(.invokevirtual 263, 3, (0, 0), [[1, 7073, 0], [12, 231, 69, 7075]])]
def qX12_one_121 : List mO := [(.goto 7, 3, (0, 0), [[128]])]
def qX12_one_124 : List mO := [(.aload_n 0, 1, (0, 0), []),
  (.invokevirtual 318, 3, (0, 0), [[0, 7091, 0], [12, 238, 73, 7093]])]
def qX12_one_128 : List mO := [(.iload_n 1, 1, (0, 0), []),
  (.ifCond .eq 9, 3, (0, 0), [[138]]),
  (.aload_n 0, 1, (0, 0), []),
  (.bipush (-20), 2, ((-20), 0), []),
  (.invokevirtual 301, 3, (0, 0), [[1, 7109, 0], [12, 236, 76, 7111]])]
def qX12_one_138 : List mO := [(.return_, 1, (0, 0), [])]
def pX12_one : List (Nat × List mO) := [(0, qX12_one_0), (2, qX12_one_2), (6, qX12_one_6), (21, qX12_one_21), (22, qX12_one_22), (28, qX12_one_28), (31, qX12_one_31), (46, qX12_one_46), (64, qX12_one_64), (65, qX12_one_65), (68, qX12_one_68), (82, qX12_one_82), (108, qX12_one_108), (117, qX12_one_117), (118, qX12_one_118), (121, qX12_one_121), (124, qX12_one_124), (128, qX12_one_128), (138, qX12_one_138)]
def qX12_all_0 : List mO := [(.aload_n 0, 1, (0, 0), []),
  (.invokevirtual 321, 3, (0, 0), [[0, 7086, 0], [12, 239, 72, 7088]])]
def qX12_all_4 : List mO := [(.aload_n 0, 1, (0, 0), []),
  (.invokevirtual 267, 3, (0, 0), [[0, 7061, 0], [12, 232, 68, 7063]])]
def qX12_all_8 : List mO := [(.ldc2_w 324, 3, (0, 1476), [[7117]]),
  (.lcmp, 1, (0, 0), []),
  (.ifCond .ne 21, 3, (0, 0), [[33]]),
  (.aload_n 0, 1, (0, 0), []),
  (.iconst 1, 1, (1, 0), []),
  (.invokevirtual 263, 3, (0, 0), [[1, 7073, 0], [12, 231, 69, 7075]])]
def qX12_all_20 : List mO := [(.aload_n 0, 1, (0, 0), []),
  (.invokevirtual 321, 3, (0, 0), [[0, 7086, 0], [12, 239, 72, 7088]])]
def qX12_all_24 : List mO := [(.aload_n 0, 1, (0, 0), []),
  (.bipush (-21), 2, ((-21), 0), []),
  (.invokevirtual 301, 3, (0, 0), [[1, 7109, 0], [12, 236, 76, 7111]])]
def qX12_all_30 : List mO := [(.goto (-26), 3, (0, 0), [[4]])]
def qX12_all_33 : List mO := [(.return_, 1, (0, 0), [])]
def pX12_all : List (Nat × List mO) := [(0, qX12_all_0), (4, qX12_all_4), (8, qX12_all_8), (20, qX12_all_20), (24, qX12_all_24), (30, qX12_all_30), (33, qX12_all_33)]
def qX12_condition_0 : List mO := [(.aload_n 0, 1, (0, 0), []),
  (.getfield 250, 3, (0, 0), [[23, 5134, 0, 0], [12]]),
  (.ifCond .eq 4, 3, (0, 0), [[8]]),
  (.return_, 1, (0, 0), [])]
def qX12_condition_8 : List mO := [(.aload_n 0, 1, (0, 0), []),
  (.invokevirtual 326, 3, (0, 0), [[0, 7082, 0], [12, 240, 71, 7084]])]
def qX12_condition_12 : List mO := [(.aload_n 0, 1, (0, 0), []),
  (.invokevirtual 267, 3, (0, 0), [[0, 7061, 0], [12, 232, 68, 7063]])]
def qX12_condition_16 : List mO := [(.ldc2_w 329, 3, (0, 498), [[7118]]),
  (.lcmp, 1, (0, 0), []),
  (.ifCond .ne 21, 3, (0, 0), [[41]]),
  (.aload_n 0, 1, (0, 0), []),
  (.iconst 1, 1, (1, 0), []),
  (.invokevirtual 263, 3, (0, 0), [[1, 7073, 0], [12, 231, 69, 7075]])]
def qX12_condition_28 : List mO := [(.aload_n 0, 1, (0, 0), []),
  (.invokevirtual 326, 3, (0, 0), [[0, 7082, 0], [12, 240, 71, 7084]])]
def qX12_condition_32 : List mO := [(.aload_n 0, 1, (0, 0), []),
  (.bipush (-22), 2, ((-22), 0), []),
  (.invokevirtual 301, 3, (0, 0), [[1, 7109, 0], [12, 236, 76, 7111]])]
def qX12_condition_38 : List mO := [(.goto (-26), 3, (0, 0), [[12]])]
def qX12_condition_41 : List mO := [(.return_, 1, (0, 0), [])]
def pX12_condition : List (Nat × List mO) := [(0, qX12_condition_0), (8, qX12_condition_8), (12, qX12_condition_12), (16, qX12_condition_16), (28, qX12_condition_28), (32, qX12_condition_32), (38, qX12_condition_38), (41, qX12_condition_41)]
def qX12_rule_0 : List mO := [(.aload_n 0, 1, (0, 0), []),
  (.invokevirtual 331, 3, (0, 0), [[0, 7057, 0], [12, 234, 67, 7059]])]
def qX12_rule_4 : List mO := [(.istore_n 1, 1, (0, 0), []),
  (.aload_n 0, 1, (0, 0), []),
  (.iload_n 1, 1, (0, 0), []),
  (.ifCond .lt 18, 3, (0, 0), [[25]]),
  (.aload_n 0, 1, (0, 0), []),
  (.getfield 7, 3, (0, 0), [[0, 5111, 0, 1], [12]]),
  (.iconst 4, 1, (4, 0), []),
  (.iaload, 1, (0, 0), []),
  (.bipush 8, 2, (8, 0), []),
  (.if_icmp .ge 7, 3, (0, 0), [[25]]),
  (.iconst 1, 1, (1, 0), []),
  (.goto 4, 3, (0, 0), [[26]])]
def qX12_rule_25 : List mO := [(.iconst 0, 1, (0, 0), [])]
def qX12_rule_26 : List mO := [(.invokevirtual 263, 3, (0, 0), [[1, 7073, 0], [12, 231, 69, 7075]])]
def qX12_rule_29 : List mO := [(.aload_n 0, 1, (0, 0), []),
  (.invokevirtual 267, 3, (0, 0), [[0, 7061, 0], [12, 232, 68, 7063]])]
def qX12_rule_33 : List mO := [(.ldc2_w 334, 3, (0, 294), [[7077]]),
  (.lcmp, 1, (0, 0), []),
  (.ifCond .ne 12, 3, (0, 0), [[49]]),
  (.aload_n 0, 1, (0, 0), []),
  (.iconst 1, 1, (1, 0), []),
  (.invokevirtual 263, 3, (0, 0), [[1, 7073, 0], [12, 231, 69, 7075]])]
def qX12_rule_45 : List mO := [(.aload_n 0, 1, (0, 0), []),
  (.invokevirtual 315, 3, (0, 0), [[0, 7078, 0], [12, 241, 70, 7080]])]
def qX12_rule_49 : List mO := [(.aload_n 0, 1, (0, 0), []),
  (.invokevirtual 267, 3, (0, 0), [[0, 7061, 0], [12, 232, 68, 7063]])]
def qX12_rule_53 : List mO := [(.lstore_n 2, 1, (0, 0), []),
  (.lload_n 2, 1, (0, 0), []),
  (.ldc2_w 287, 3, (0, 1156), [[7105]]),
  (.lcmp, 1, (0, 0), []),
  (.ifCond .ne 7, 3, (0, 0), [[66]]),
  (.iconst 0, 1, (0, 0), []),
  (.goto 40, 3, (0, 0), [[103]])]
def qX12_rule_66 : List mO := [(.lload_n 2, 1, (0, 0), []),
  (.ldc2_w 336, 3, (0, 441925), [[7119]]),
  (.lcmp, 1, (0, 0), []),
  (.ifCond .ne 7, 3, (0, 0), [[78]]),
  (.iconst 1, 1, (1, 0), []),
  (.goto 28, 3, (0, 0), [[103]])]
def qX12_rule_78 : List mO := [(.lload_n 2, 1, (0, 0), []),
  (.ldc2_w 338, 3, (0, 435589), [[7120]]),
  (.lcmp, 1, (0, 0), []),
  (.ifCond .ne 7, 3, (0, 0), [[90]]),
  (.iconst 2, 1, (2, 0), []),
  (.goto 16, 3, (0, 0), [[103]])]
def qX12_rule_90 : List mO := [(.lload_n 2, 1, (0, 0), []),
  (.ldc2_w 340, 3, (0, 647370196), [[7121]]),
  (.lcmp, 1, (0, 0), []),
  (.ifCond .ne 7, 3, (0, 0), [[102]]),
  (.iconst 3, 1, (3, 0), []),
  (.goto 4, 3, (0, 0), [[103]])]
def qX12_rule_102 : List mO := [(.iconst (-1), 1, ((-1), 0), [])]
def qX12_rule_103 : List mO := [(.istore 4, 2, (0, 0), []),
  (.aload_n 0, 1, (0, 0), []),
  (.iload 4, 2, (0, 0), []),
  (.ifCond .lt 7, 3, (0, 0), [[115]]),
  (.iconst 1, 1, (1, 0), []),
  (.goto 4, 3, (0, 0), [[116]])]
def qX12_rule_115 : List mO := [(.iconst 0, 1, (0, 0), [])]
def qX12_rule_116 : List mO := [(.invokevirtual 263, 3, (0, 0), [[1, 7073, 0], [12, 231, 69, 7075]])]
def qX12_rule_119 : List mO := [(.aload_n 0, 1, (0, 0), []),
  (.iconst 0, 1, (0, 0), []),
  (.putfield 260, 3, (0, 0), [[20, 5131, 0, 0], [12]]),
  (.iload 4, 2, (0, 0), []),
  (.ifCond .lt 33, 3, (0, 0), [[159]]),
  (.iload 4, 2, (0, 0), []),
  (.iconst 3, 1, (3, 0), []),
  (.if_icmp .eq 27, 3, (0, 0), [[159]]),
  (.aload_n 0, 1, (0, 0), []),
  (.getfield 250, 3, (0, 0), [[23, 5134, 0, 0], [12]]),
  (.ifCond .ne 20, 3, (0, 0), [[159]]),
  (.aload_n 0, 1, (0, 0), []),
  (.iload 4, 2, (0, 0), []),
  (.iconst 2, 1, (2, 0), []),
  (.if_icmp .ne 8, 3, (0, 0), [[154]]),
  (.bipush 9, 2, (9, 0), []),
  (.goto 5, 3, (0, 0), [[156]])]
def qX12_rule_154 : List mO := [(.bipush 99, 2, (99, 0), [])]
def qX12_rule_156 : List mO := [(.invokevirtual 304, 3, (0, 0), [[1, 7113, 0], [12, 233, 77, 7115]])]
def qX12_rule_159 : List mO := [(.aload_n 0, 1, (0, 0), []),
  (.getfield 260, 3, (0, 0), [[20, 5131, 0, 0], [12]]),
  (.istore 5, 2, (0, 0), []),
  (.aload_n 0, 1, (0, 0), []),
  (.aload_n 0, 1, (0, 0), []),
  (.getfield 250, 3, (0, 0), [[23, 5134, 0, 0], [12]]),
  (.ifCond .ne 20, 3, (0, 0), [[190]]),
  (.aload_n 0, 1, (0, 0), []),
  (.aload_n 0, 1, (0, 0), []),
  (.getfield 238, 3, (0, 0), [[18, 5129, 0, 0], [12]]),
  (.invokevirtual 241, 3, (0, 0), [[1, 7039, 0], [12, 227, 65, 7041]])]
def qX12_rule_181 : List mO := [(.bipush 59, 2, (59, 0), []),
  (.if_icmp .ne 7, 3, (0, 0), [[190]]),
  (.iconst 1, 1, (1, 0), []),
  (.goto 4, 3, (0, 0), [[191]])]
def qX12_rule_190 : List mO := [(.iconst 0, 1, (0, 0), [])]
def qX12_rule_191 : List mO := [(.invokevirtual 263, 3, (0, 0), [[1, 7073, 0], [12, 231, 69, 7075]])]
def qX12_rule_194 : List mO := [(.aload_n 0, 1, (0, 0), []),
  (.getfield 250, 3, (0, 0), [[23, 5134, 0, 0], [12]]),
  (.ifCond .ne 71, 3, (0, 0), [[269]]),
  (.bipush 78, 2, (78, 0), []),
  (.iconst 4, 1, (4, 0), []),
  (.aload_n 0, 1, (0, 0), []),
  (.getfield 7, 3, (0, 0), [[0, 5111, 0, 1], [12]]),
  (.iconst 4, 1, (4, 0), []),
  (.iaload, 1, (0, 0), []),
  (.imul, 1, (0, 0), []),
  (.iadd, 1, (0, 0), []),
  (.istore 6, 2, (0, 0), []),
  (.aload_n 0, 1, (0, 0), []),
  (.getfield 7, 3, (0, 0), [[0, 5111, 0, 1], [12]]),
  (.iload 6, 2, (0, 0), []),
  (.iconst 0, 1, (0, 0), []),
  (.iadd, 1, (0, 0), []),
  (.iload_n 1, 1, (0, 0), []),
  (.iastore, 1, (0, 0), []),
  (.aload_n 0, 1, (0, 0), []),
  (.getfield 7, 3, (0, 0), [[0, 5111, 0, 1], [12]]),
  (.iload 6, 2, (0, 0), []),
  (.iconst 1, 1, (1, 0), []),
  (.iadd, 1, (0, 0), []),
  (.iload 4, 2, (0, 0), []),
  (.iastore, 1, (0, 0), []),
  (.aload_n 0, 1, (0, 0), []),
  (.getfield 7, 3, (0, 0), [[0, 5111, 0, 1], [12]]),
  (.iload 6, 2, (0, 0), []),
  (.iconst 2, 1, (2, 0), []),
  (.iadd, 1, (0, 0), []),
  (.iload 5, 2, (0, 0), []),
  (.iastore, 1, (0, 0), []),
  (.aload_n 0, 1, (0, 0), []),
  (.getfield 7, 3, (0, 0), [[0, 5111, 0, 1], [12]]),
  (.iload 6, 2, (0, 0), []),
  (.iconst 3, 1, (3, 0), []),
  (.iadd, 1, (0, 0), []),
  (.aload_n 0, 1, (0, 0), []),
  (.getfield 295, 3, (0, 0), [[22, 5133, 0, 0], [12]]),
  (.iastore, 1, (0, 0), []),
  (.aload_n 0, 1, (0, 0), []),
  (.getfield 7, 3, (0, 0), [[0, 5111, 0, 1], [12]]),
  (.iconst 4, 1, (4, 0), []),
  (.dup2, 1, (0, 0), []),
  (.iaload, 1, (0, 0), []),
  (.iconst 1, 1, (1, 0), []),
  (.iadd, 1, (0, 0), []),
  (.iastore, 1, (0, 0), [])]
def qX12_rule_269 : List mO := [(.return_, 1, (0, 0), [])]
def pX12_rule : List (Nat × List mO) := [(0, qX12_rule_0), (4, qX12_rule_4), (25, qX12_rule_25), (26, qX12_rule_26), (29, qX12_rule_29), (33, qX12_rule_33), (45, qX12_rule_45), (49, qX12_rule_49), (53, qX12_rule_53), (66, qX12_rule_66), (78, qX12_rule_78), (90, qX12_rule_90), (102, qX12_rule_102), (103, qX12_rule_103), (115, qX12_rule_115), (116, qX12_rule_116), (119, qX12_rule_119), (154, qX12_rule_154), (156, qX12_rule_156), (159, qX12_rule_159), (181, qX12_rule_181), (190, qX12_rule_190), (191, qX12_rule_191), (194, qX12_rule_194), (269, qX12_rule_269)]
def qX12_rules_0 : List mO := [(.aload_n 0, 1, (0, 0), []),
  (.invokevirtual 342, 3, (0, 0), [[0, 7031, 0], [12, 161, 63, 7033]])]
def qX12_rules_4 : List mO := [(.aload_n 0, 1, (0, 0), []),
  (.getfield 7, 3, (0, 0), [[0, 5111, 0, 1], [12]]),
  (.iconst 4, 1, (4, 0), []),
  (.iconst 0, 1, (0, 0), []),
  (.iastore, 1, (0, 0), []),
  (.aload_n 0, 1, (0, 0), []),
  (.iconst 0, 1, (0, 0), []),
  (.putfield 295, 3, (0, 0), [[22, 5133, 0, 0], [12]]),
  (.aload_n 0, 1, (0, 0), []),
  (.iconst 0, 1, (0, 0), []),
  (.putfield 312, 3, (0, 0), [[21, 5132, 0, 0], [12]]),
  (.aload_n 0, 1, (0, 0), []),
  (.iconst 0, 1, (0, 0), []),
  (.putfield 235, 3, (0, 0), [[19, 5130, 0, 0], [12]]),
  (.aload_n 0, 1, (0, 0), []),
  (.iconst 0, 1, (0, 0), []),
  (.putfield 250, 3, (0, 0), [[23, 5134, 0, 0], [12]]),
  (.aload_n 0, 1, (0, 0), []),
  (.invokevirtual 253, 3, (0, 0), [[0, 7035, 0], [12, 230, 64, 7037]])]
def qX12_rules_35 : List mO := [(.aload_n 0, 1, (0, 0), []),
  (.getfield 250, 3, (0, 0), [[23, 5134, 0, 0], [12]]),
  (.ifCond .ne 21, 3, (0, 0), [[60]]),
  (.aload_n 0, 1, (0, 0), []),
  (.getfield 238, 3, (0, 0), [[18, 5129, 0, 0], [12]]),
  (.aload_n 0, 1, (0, 0), []),
  (.getfield 222, 3, (0, 0), [[17, 5128, 0, 0], [12]]),
  (.if_icmp .ge 10, 3, (0, 0), [[60]]),
  (.aload_n 0, 1, (0, 0), []),
  (.invokevirtual 345, 3, (0, 0), [[0, 7053, 0], [12, 242, 66, 7055]])]
def qX12_rules_57 : List mO := [(.goto (-22), 3, (0, 0), [[35]])]
def qX12_rules_60 : List mO := [(.aload_n 0, 1, (0, 0), []),
  (.iconst 0, 1, (0, 0), []),
  (.putfield 222, 3, (0, 0), [[17, 5128, 0, 0], [12]]),
  (.aload_n 0, 1, (0, 0), []),
  (.getfield 250, 3, (0, 0), [[23, 5134, 0, 0], [12]]),
  (.ifCond .eq 15, 3, (0, 0), [[84]]),
  (.aload_n 0, 1, (0, 0), []),
  (.invokevirtual 348, 3, (0, 0), [[0, 7122, 0], [12, 162, 78, 7124]])]
def qX12_rules_76 : List mO := [(.bipush (-100), 2, ((-100), 0), []),
  (.aload_n 0, 1, (0, 0), []),
  (.getfield 238, 3, (0, 0), [[18, 5129, 0, 0], [12]]),
  (.isub, 1, (0, 0), []),
  (.ireturn, 1, (0, 0), [])]
def qX12_rules_84 : List mO := [(.aload_n 0, 1, (0, 0), []),
  (.getfield 7, 3, (0, 0), [[0, 5111, 0, 1], [12]]),
  (.iconst 4, 1, (4, 0), []),
  (.iaload, 1, (0, 0), []),
  (.ireturn, 1, (0, 0), [])]
def pX12_rules : List (Nat × List mO) := [(0, qX12_rules_0), (4, qX12_rules_4), (35, qX12_rules_35), (57, qX12_rules_57), (60, qX12_rules_60), (76, qX12_rules_76), (84, qX12_rules_84)]
def qX12_isOne_0 : List mO := [(.iload_n 0, 1, (0, 0), []),
  (.i2l, 1, (0, 0), []),
  (.lconst 0, 1, (0, 0), []),
  (.ldc2_w 121, 3, (0, 3), [[6049]]),
  (.invokestatic 58, 3, (0, 0), [[3, 155, 5225, 5226, 0]])]
def qX12_isOne_9 : List mO := [(.ireturn, 1, (0, 0), [[1]])]
def pX12_isOne : List (Nat × List mO) := [(0, qX12_isOne_0), (9, qX12_isOne_9)]
def qX12_sheet_0 : List mO := [(.iload_n 1, 1, (0, 0), []),
  (.invokestatic 351, 3, (0, 0), [[1, 244, 7130, 7131, 0]])]
def qX12_sheet_4 : List mO := [(.ifCond .eq 27, 3, (0, 0), [[31]]),
  (.iload_n 2, 1, (0, 0), []),
  (.i2l, 1, (0, 0), []),
  (.ldc2_w 354, 3, (0, (-1)), [[7133]]),
  (.ldc2_w 356, 3, (0, 4), [[7134]]),
  (.invokestatic 58, 3, (0, 0), [[3, 155, 5225, 5226, 0]])]
def qX12_sheet_18 : List mO := [(.ifCond .eq 13, 3, (0, 0), [[31]]),
  (.iload_n 2, 1, (0, 0), []),
  (.ifCond .lt 11, 3, (0, 0), [[33]]),
  (.iload_n 3, 1, (0, 0), []),
  (.bipush 40, 2, (40, 0), []),
  (.if_icmp .le 5, 3, (0, 0), [[33]])]
def qX12_sheet_31 : List mO := [(.iconst (-1), 1, ((-1), 0), []),
  (.ireturn, 1, (0, 0), [])]
def qX12_sheet_33 : List mO := [(.iload_n 2, 1, (0, 0), []),
  (.ifCond .lt 10, 3, (0, 0), [[44]]),
  (.iload_n 3, 1, (0, 0), []),
  (.ifCond .ge 6, 3, (0, 0), [[44]]),
  (.bipush (-14), 2, ((-14), 0), []),
  (.ireturn, 1, (0, 0), [])]
def qX12_sheet_44 : List mO := [(.aload_n 0, 1, (0, 0), []),
  (.getfield 37, 3, (0, 0), [[24, 5135, 0, 1], [12]]),
  (.iload_n 1, 1, (0, 0), []),
  (.iload_n 2, 1, (0, 0), []),
  (.iastore, 1, (0, 0), []),
  (.aload_n 0, 1, (0, 0), []),
  (.getfield 40, 3, (0, 0), [[25, 5136, 0, 1], [12]]),
  (.iload_n 1, 1, (0, 0), []),
  (.iload_n 2, 1, (0, 0), []),
  (.ifCond .ge 7, 3, (0, 0), [[64]]),
  (.iconst 0, 1, (0, 0), []),
  (.goto 4, 3, (0, 0), [[65]])]
def qX12_sheet_64 : List mO := [(.iload_n 3, 1, (0, 0), [])]
def qX12_sheet_65 : List mO := [(.iastore, 1, (0, 0), []),
  (.iconst 0, 1, (0, 0), []),
  (.istore 4, 2, (0, 0), [])]
def qX12_sheet_69 : List mO := [(.iload 4, 2, (0, 0), []),
  (.bipush 40, 2, (40, 0), []),
  (.if_icmp .ge 22, 3, (0, 0), [[95]]),
  (.aload_n 0, 1, (0, 0), []),
  (.getfield 43, 3, (0, 0), [[26, 5137, 0, 1], [12]]),
  (.bipush 40, 2, (40, 0), []),
  (.iload_n 1, 1, (0, 0), []),
  (.imul, 1, (0, 0), []),
  (.iload 4, 2, (0, 0), []),
  (.iadd, 1, (0, 0), []),
  (.iconst 0, 1, (0, 0), []),
  (.iastore, 1, (0, 0), []),
  (.iinc 4 1, 3, (1, 0), []),
  (.goto (-23), 3, (0, 0), [[69]])]
def qX12_sheet_95 : List mO := [(.iconst 1, 1, (1, 0), []),
  (.ireturn, 1, (0, 0), [])]
def pX12_sheet : List (Nat × List mO) := [(0, qX12_sheet_0), (4, qX12_sheet_4), (18, qX12_sheet_18), (31, qX12_sheet_31), (33, qX12_sheet_33), (44, qX12_sheet_44), (64, qX12_sheet_64), (65, qX12_sheet_65), (69, qX12_sheet_69), (95, qX12_sheet_95)]
def qX12_narrowed_0 : List mO := [(.iload_n 0, 1, (0, 0), []),
  (.ifCond .ne 8, 3, (0, 0), [[9]]),
  (.iload_n 1, 1, (0, 0), []),
  (.i2b, 1, (0, 0), []),
  (.goto 31, 3, (0, 0), [[37]])]
def qX12_narrowed_9 : List mO := [(.iload_n 0, 1, (0, 0), []),
  (.iconst 1, 1, (1, 0), []),
  (.if_icmp .ne 8, 3, (0, 0), [[19]]),
  (.iload_n 1, 1, (0, 0), []),
  (.i2s, 1, (0, 0), []),
  (.goto 21, 3, (0, 0), [[37]])]
def qX12_narrowed_19 : List mO := [(.iload_n 0, 1, (0, 0), []),
  (.iconst 4, 1, (4, 0), []),
  (.if_icmp .ne 15, 3, (0, 0), [[36]]),
  (.iload_n 1, 1, (0, 0), []),
  (.ifCond .ne 7, 3, (0, 0), [[32]]),
  (.iconst 0, 1, (0, 0), []),
  (.goto 8, 3, (0, 0), [[37]])]
def qX12_narrowed_32 : List mO := [(.iconst 1, 1, (1, 0), []),
  (.goto 4, 3, (0, 0), [[37]])]
def qX12_narrowed_36 : List mO := [(.iload_n 1, 1, (0, 0), [])]
def qX12_narrowed_37 : List mO := [(.ireturn, 1, (0, 0), [])]
def pX12_narrowed : List (Nat × List mO) := [(0, qX12_narrowed_0), (9, qX12_narrowed_9), (19, qX12_narrowed_19), (32, qX12_narrowed_32), (36, qX12_narrowed_36), (37, qX12_narrowed_37)]
def qX12_write_0 : List mO := [(.iload_n 1, 1, (0, 0), []),
  (.invokestatic 351, 3, (0, 0), [[1, 244, 7130, 7131, 0]])]
def qX12_write_4 : List mO := [(.ifCond .ne 5, 3, (0, 0), [[9]]),
  (.iconst (-1), 1, ((-1), 0), []),
  (.ireturn, 1, (0, 0), [])]
def qX12_write_9 : List mO := [(.aload_n 0, 1, (0, 0), []),
  (.getfield 37, 3, (0, 0), [[24, 5135, 0, 1], [12]]),
  (.iload_n 1, 1, (0, 0), []),
  (.iaload, 1, (0, 0), []),
  (.ifCond .ge 6, 3, (0, 0), [[21]]),
  (.bipush (-11), 2, ((-11), 0), []),
  (.ireturn, 1, (0, 0), [])]
def qX12_write_21 : List mO := [(.iload_n 2, 1, (0, 0), []),
  (.i2l, 1, (0, 0), []),
  (.lconst 0, 1, (0, 0), []),
  (.aload_n 0, 1, (0, 0), []),
  (.getfield 40, 3, (0, 0), [[25, 5136, 0, 1], [12]]),
  (.iload_n 1, 1, (0, 0), []),
  (.iaload, 1, (0, 0), []),
  (.iconst 1, 1, (1, 0), []),
  (.isub, 1, (0, 0), []),
  (.i2l, 1, (0, 0), []),
  (.invokestatic 58, 3, (0, 0), [[3, 155, 5225, 5226, 0]])]
def qX12_write_36 : List mO := [(.ifCond .ne 6, 3, (0, 0), [[42]]),
  (.bipush (-12), 2, ((-12), 0), []),
  (.ireturn, 1, (0, 0), [])]
def qX12_write_42 : List mO := [(.aload_n 0, 1, (0, 0), []),
  (.getfield 43, 3, (0, 0), [[26, 5137, 0, 1], [12]]),
  (.bipush 40, 2, (40, 0), []),
  (.iload_n 1, 1, (0, 0), []),
  (.imul, 1, (0, 0), []),
  (.iload_n 2, 1, (0, 0), []),
  (.iadd, 1, (0, 0), []),
  (.aload_n 0, 1, (0, 0), []),
  (.getfield 37, 3, (0, 0), [[24, 5135, 0, 1], [12]]),
  (.iload_n 1, 1, (0, 0), []),
  (.iaload, 1, (0, 0), []),
  (.iload_n 3, 1, (0, 0), []),
  (.invokestatic 358, 3, (0, 0), [[2, 246, 7139, 7140, 0]])]
def qX12_write_62 : List mO := [(.iastore, 1, (0, 0), []),
  (.iconst 1, 1, (1, 0), []),
  (.ireturn, 1, (0, 0), [])]
def pX12_write : List (Nat × List mO) := [(0, qX12_write_0), (4, qX12_write_4), (9, qX12_write_9), (21, qX12_write_21), (36, qX12_write_36), (42, qX12_write_42), (62, qX12_write_62)]
def qX12_wrong_0 : List mO := [(.aload_n 0, 1, (0, 0), []),
  (.getfield 37, 3, (0, 0), [[24, 5135, 0, 1], [12]]),
  (.iload_n 1, 1, (0, 0), []),
  (.iaload, 1, (0, 0), []),
  (.ifCond .ge 8, 3, (0, 0), [[14]]),
  (.bipush (-11), 2, ((-11), 0), []),
  (.goto 19, 3, (0, 0), [[30]])]
def qX12_wrong_14 : List mO := [(.aload_n 0, 1, (0, 0), []),
  (.getfield 37, 3, (0, 0), [[24, 5135, 0, 1], [12]]),
  (.iload_n 1, 1, (0, 0), []),
  (.iaload, 1, (0, 0), []),
  (.iload_n 2, 1, (0, 0), []),
  (.if_icmp .eq 8, 3, (0, 0), [[29]]),
  (.bipush (-13), 2, ((-13), 0), []),
  (.goto 4, 3, (0, 0), [[30]])]
def qX12_wrong_29 : List mO := [(.iconst 0, 1, (0, 0), [])]
def qX12_wrong_30 : List mO := [(.ireturn, 1, (0, 0), [])]
def pX12_wrong : List (Nat × List mO) := [(0, qX12_wrong_0), (14, qX12_wrong_14), (29, qX12_wrong_29), (30, qX12_wrong_30)]
def qX12_item_0 : List mO := [(.iload_n 1, 1, (0, 0), []),
  (.invokestatic 351, 3, (0, 0), [[1, 244, 7130, 7131, 0]])]
def qX12_item_4 : List mO := [(.ifCond .eq 15, 3, (0, 0), [[19]]),
  (.iload_n 2, 1, (0, 0), []),
  (.i2l, 1, (0, 0), []),
  (.lconst 0, 1, (0, 0), []),
  (.ldc2_w 356, 3, (0, 4), [[7134]]),
  (.invokestatic 58, 3, (0, 0), [[3, 155, 5225, 5226, 0]])]
def qX12_item_16 : List mO := [(.ifCond .ne 5, 3, (0, 0), [[21]])]
def qX12_item_19 : List mO := [(.iconst (-1), 1, ((-1), 0), []),
  (.ireturn, 1, (0, 0), [])]
def qX12_item_21 : List mO := [(.aload_n 0, 1, (0, 0), []),
  (.iload_n 1, 1, (0, 0), []),
  (.iload_n 2, 1, (0, 0), []),
  (.invokevirtual 361, 3, (0, 0), [[2, 7146, 0], [12, 248, 79, 7148]])]
def qX12_item_27 : List mO := [(.istore 4, 2, (0, 0), []),
  (.iload 4, 2, (0, 0), []),
  (.ifCond .eq 8, 3, (0, 0), [[39]]),
  (.iload 4, 2, (0, 0), []),
  (.goto 37, 3, (0, 0), [[73]])]
def qX12_item_39 : List mO := [(.iload_n 3, 1, (0, 0), []),
  (.i2l, 1, (0, 0), []),
  (.lconst 0, 1, (0, 0), []),
  (.aload_n 0, 1, (0, 0), []),
  (.getfield 40, 3, (0, 0), [[25, 5136, 0, 1], [12]]),
  (.iload_n 1, 1, (0, 0), []),
  (.iaload, 1, (0, 0), []),
  (.iconst 1, 1, (1, 0), []),
  (.isub, 1, (0, 0), []),
  (.i2l, 1, (0, 0), []),
  (.invokestatic 58, 3, (0, 0), [[3, 155, 5225, 5226, 0]])]
def qX12_item_54 : List mO := [(.ifCond .eq 17, 3, (0, 0), [[71]]),
  (.aload_n 0, 1, (0, 0), []),
  (.getfield 43, 3, (0, 0), [[26, 5137, 0, 1], [12]]),
  (.bipush 40, 2, (40, 0), []),
  (.iload_n 1, 1, (0, 0), []),
  (.imul, 1, (0, 0), []),
  (.iload_n 3, 1, (0, 0), []),
  (.iadd, 1, (0, 0), []),
  (.iaload, 1, (0, 0), []),
  (.goto 5, 3, (0, 0), [[73]])]
def qX12_item_71 : List mO := [(.bipush (-12), 2, ((-12), 0), [])]
def qX12_item_73 : List mO := [(.ireturn, 1, (0, 0), [])]
def pX12_item : List (Nat × List mO) := [(0, qX12_item_0), (4, qX12_item_4), (16, qX12_item_16), (19, qX12_item_19), (21, qX12_item_21), (27, qX12_item_27), (39, qX12_item_39), (54, qX12_item_54), (71, qX12_item_71), (73, qX12_item_73)]
def qX12_adds_0 : List mO := [(.iload_n 1, 1, (0, 0), []),
  (.invokestatic 351, 3, (0, 0), [[1, 244, 7130, 7131, 0]])]
def qX12_adds_4 : List mO := [(.ifCond .eq 15, 3, (0, 0), [[19]]),
  (.iload_n 3, 1, (0, 0), []),
  (.i2l, 1, (0, 0), []),
  (.lconst 0, 1, (0, 0), []),
  (.ldc2_w 72, 3, (0, 9), [[5232]]),
  (.invokestatic 58, 3, (0, 0), [[3, 155, 5225, 5226, 0]])]
def qX12_adds_16 : List mO := [(.ifCond .ne 5, 3, (0, 0), [[21]])]
def qX12_adds_19 : List mO := [(.iconst (-1), 1, ((-1), 0), []),
  (.ireturn, 1, (0, 0), [])]
def qX12_adds_21 : List mO := [(.aload_n 0, 1, (0, 0), []),
  (.iload_n 1, 1, (0, 0), []),
  (.iconst 0, 1, (0, 0), []),
  (.invokevirtual 361, 3, (0, 0), [[2, 7146, 0], [12, 248, 79, 7148]])]
def qX12_adds_27 : List mO := [(.istore 4, 2, (0, 0), []),
  (.iload 4, 2, (0, 0), []),
  (.ifCond .eq 6, 3, (0, 0), [[37]]),
  (.iload 4, 2, (0, 0), []),
  (.ireturn, 1, (0, 0), [])]
def qX12_adds_37 : List mO := [(.iconst 0, 1, (0, 0), []),
  (.istore 5, 2, (0, 0), []),
  (.iconst 0, 1, (0, 0), []),
  (.istore 6, 2, (0, 0), [])]
def qX12_adds_43 : List mO := [(.iload 6, 2, (0, 0), []),
  (.iload_n 3, 1, (0, 0), []),
  (.if_icmp .ge 68, 3, (0, 0), [[114]]),
  (.iload_n 2, 1, (0, 0), []),
  (.i2l, 1, (0, 0), []),
  (.iload 6, 2, (0, 0), []),
  (.i2l, 1, (0, 0), []),
  (.ladd, 1, (0, 0), []),
  (.lconst 0, 1, (0, 0), []),
  (.aload_n 0, 1, (0, 0), []),
  (.getfield 40, 3, (0, 0), [[25, 5136, 0, 1], [12]]),
  (.iload_n 1, 1, (0, 0), []),
  (.iaload, 1, (0, 0), []),
  (.iconst 1, 1, (1, 0), []),
  (.isub, 1, (0, 0), []),
  (.i2l, 1, (0, 0), []),
  (.invokestatic 58, 3, (0, 0), [[3, 155, 5225, 5226, 0]])]
def qX12_adds_68 : List mO := [(.ifCond .ne 6, 3, (0, 0), [[74]]),
  (.bipush (-12), 2, ((-12), 0), []),
  (.ireturn, 1, (0, 0), [])]
def qX12_adds_74 : List mO := [(.iload 5, 2, (0, 0), []),
  (.aload_n 0, 1, (0, 0), []),
  (.iload 6, 2, (0, 0), []),
  (.iconst 1, 1, (1, 0), []),
  (.aload_n 0, 1, (0, 0), []),
  (.getfield 43, 3, (0, 0), [[26, 5137, 0, 1], [12]]),
  (.bipush 40, 2, (40, 0), []),
  (.iload_n 1, 1, (0, 0), []),
  (.imul, 1, (0, 0), []),
  (.iload_n 2, 1, (0, 0), []),
  (.iadd, 1, (0, 0), []),
  (.iload 6, 2, (0, 0), []),
  (.iadd, 1, (0, 0), []),
  (.iaload, 1, (0, 0), []),
  (.invokevirtual 364, 3, (0, 0), [[3, 7154, 0], [12, 173, 6030, 6029]])]
def qX12_adds_97 : List mO := [(.ifCond .lt 7, 3, (0, 0), [[104]]),
  (.iconst 1, 1, (1, 0), []),
  (.goto 4, 3, (0, 0), [[105]])]
def qX12_adds_104 : List mO := [(.iconst 0, 1, (0, 0), [])]
def qX12_adds_105 : List mO := [(.iadd, 1, (0, 0), []),
  (.istore 5, 2, (0, 0), []),
  (.iinc 6 1, 3, (1, 0), []),
  (.goto (-68), 3, (0, 0), [[43]])]
def qX12_adds_114 : List mO := [(.iload 5, 2, (0, 0), []),
  (.ireturn, 1, (0, 0), [])]
def pX12_adds : List (Nat × List mO) := [(0, qX12_adds_0), (4, qX12_adds_4), (16, qX12_adds_16), (19, qX12_adds_19), (21, qX12_adds_21), (27, qX12_adds_27), (37, qX12_adds_37), (43, qX12_adds_43), (68, qX12_adds_68), (74, qX12_adds_74), (97, qX12_adds_97), (104, qX12_adds_104), (105, qX12_adds_105), (114, qX12_adds_114)]
def qX12_shelf_0 : List mO := [(.iload_n 1, 1, (0, 0), []),
  (.invokestatic 351, 3, (0, 0), [[1, 244, 7130, 7131, 0]])]
def qX12_shelf_4 : List mO := [(.ifCond .eq 39, 3, (0, 0), [[43]]),
  (.iload_n 2, 1, (0, 0), []),
  (.i2l, 1, (0, 0), []),
  (.lconst 0, 1, (0, 0), []),
  (.ldc2_w 205, 3, (0, 2), [[6224]]),
  (.invokestatic 58, 3, (0, 0), [[3, 155, 5225, 5226, 0]])]
def qX12_shelf_16 : List mO := [(.ifCond .eq 27, 3, (0, 0), [[43]]),
  (.iload_n 2, 1, (0, 0), []),
  (.ifCond .ne 11, 3, (0, 0), [[31]]),
  (.aload_n 0, 1, (0, 0), []),
  (.iload_n 3, 1, (0, 0), []),
  (.invokevirtual 106, 3, (0, 0), [[1, 6001, 0], [12, 156, 41, 6003]])]
def qX12_shelf_28 : List mO := [(.ifCond .eq 15, 3, (0, 0), [[43]])]
def qX12_shelf_31 : List mO := [(.iload_n 2, 1, (0, 0), []),
  (.iconst 1, 1, (1, 0), []),
  (.if_icmp .ne 12, 3, (0, 0), [[45]]),
  (.iload_n 3, 1, (0, 0), []),
  (.invokestatic 351, 3, (0, 0), [[1, 244, 7130, 7131, 0]])]
def qX12_shelf_40 : List mO := [(.ifCond .ne 5, 3, (0, 0), [[45]])]
def qX12_shelf_43 : List mO := [(.iconst (-1), 1, ((-1), 0), []),
  (.ireturn, 1, (0, 0), [])]
def qX12_shelf_45 : List mO := [(.aload_n 0, 1, (0, 0), []),
  (.getfield 46, 3, (0, 0), [[27, 5138, 0, 1], [12]]),
  (.iload_n 1, 1, (0, 0), []),
  (.iload_n 2, 1, (0, 0), []),
  (.ifCond .ne 7, 3, (0, 0), [[58]]),
  (.iconst 1, 1, (1, 0), []),
  (.goto 22, 3, (0, 0), [[77]])]
def qX12_shelf_58 : List mO := [(.iload_n 2, 1, (0, 0), []),
  (.iconst 1, 1, (1, 0), []),
  (.if_icmp .ne 16, 3, (0, 0), [[76]]),
  (.aload_n 0, 1, (0, 0), []),
  (.getfield 37, 3, (0, 0), [[24, 5135, 0, 1], [12]]),
  (.iload_n 3, 1, (0, 0), []),
  (.iaload, 1, (0, 0), []),
  (.ifCond .lt 7, 3, (0, 0), [[76]]),
  (.iconst 2, 1, (2, 0), []),
  (.goto 4, 3, (0, 0), [[77]])]
def qX12_shelf_76 : List mO := [(.iconst 0, 1, (0, 0), [])]
def qX12_shelf_77 : List mO := [(.iastore, 1, (0, 0), []),
  (.aload_n 0, 1, (0, 0), []),
  (.getfield 49, 3, (0, 0), [[28, 5139, 0, 1], [12]]),
  (.iload_n 1, 1, (0, 0), []),
  (.iload_n 2, 1, (0, 0), []),
  (.ifCond .ne 7, 3, (0, 0), [[91]]),
  (.iload_n 3, 1, (0, 0), []),
  (.goto 18, 3, (0, 0), [[106]])]
def qX12_shelf_91 : List mO := [(.iload_n 2, 1, (0, 0), []),
  (.iconst 1, 1, (1, 0), []),
  (.if_icmp .ne 12, 3, (0, 0), [[105]]),
  (.aload_n 0, 1, (0, 0), []),
  (.getfield 40, 3, (0, 0), [[25, 5136, 0, 1], [12]]),
  (.iload_n 3, 1, (0, 0), []),
  (.iaload, 1, (0, 0), []),
  (.goto 4, 3, (0, 0), [[106]])]
def qX12_shelf_105 : List mO := [(.iconst 0, 1, (0, 0), [])]
def qX12_shelf_106 : List mO := [(.iastore, 1, (0, 0), []),
  (.aload_n 0, 1, (0, 0), []),
  (.getfield 52, 3, (0, 0), [[29, 5140, 0, 1], [12]]),
  (.iload_n 1, 1, (0, 0), []),
  (.iload_n 2, 1, (0, 0), []),
  (.iconst 1, 1, (1, 0), []),
  (.if_icmp .ne 12, 3, (0, 0), [[126]]),
  (.aload_n 0, 1, (0, 0), []),
  (.getfield 37, 3, (0, 0), [[24, 5135, 0, 1], [12]]),
  (.iload_n 3, 1, (0, 0), []),
  (.iaload, 1, (0, 0), []),
  (.goto 4, 3, (0, 0), [[127]])]
def qX12_shelf_126 : List mO := [(.iconst 0, 1, (0, 0), [])]
def qX12_shelf_127 : List mO := [(.iastore, 1, (0, 0), []),
  (.iconst 1, 1, (1, 0), []),
  (.ireturn, 1, (0, 0), [])]
def pX12_shelf : List (Nat × List mO) := [(0, qX12_shelf_0), (4, qX12_shelf_4), (16, qX12_shelf_16), (28, qX12_shelf_28), (31, qX12_shelf_31), (40, qX12_shelf_40), (43, qX12_shelf_43), (45, qX12_shelf_45), (58, qX12_shelf_58), (76, qX12_shelf_76), (77, qX12_shelf_77), (91, qX12_shelf_91), (105, qX12_shelf_105), (106, qX12_shelf_106), (126, qX12_shelf_126), (127, qX12_shelf_127)]
def qX12_onShelf_0 : List mO := [(.iload_n 1, 1, (0, 0), []),
  (.invokestatic 351, 3, (0, 0), [[1, 244, 7130, 7131, 0]])]
def qX12_onShelf_4 : List mO := [(.ifCond .eq 35, 3, (0, 0), [[39]]),
  (.aload_n 0, 1, (0, 0), []),
  (.getfield 46, 3, (0, 0), [[27, 5138, 0, 1], [12]]),
  (.iload_n 1, 1, (0, 0), []),
  (.iaload, 1, (0, 0), []),
  (.iconst 1, 1, (1, 0), []),
  (.if_icmp .ne 25, 3, (0, 0), [[39]]),
  (.aload_n 0, 1, (0, 0), []),
  (.aload_n 0, 1, (0, 0), []),
  (.getfield 49, 3, (0, 0), [[28, 5139, 0, 1], [12]]),
  (.iload_n 1, 1, (0, 0), []),
  (.iaload, 1, (0, 0), []),
  (.invokevirtual 106, 3, (0, 0), [[1, 6001, 0], [12, 156, 41, 6003]])]
def qX12_onShelf_27 : List mO := [(.ifCond .eq 12, 3, (0, 0), [[39]]),
  (.aload_n 0, 1, (0, 0), []),
  (.getfield 49, 3, (0, 0), [[28, 5139, 0, 1], [12]]),
  (.iload_n 1, 1, (0, 0), []),
  (.iaload, 1, (0, 0), []),
  (.goto 4, 3, (0, 0), [[40]])]
def qX12_onShelf_39 : List mO := [(.iconst (-1), 1, ((-1), 0), [])]
def qX12_onShelf_40 : List mO := [(.ireturn, 1, (0, 0), [])]
def pX12_onShelf : List (Nat × List mO) := [(0, qX12_onShelf_0), (4, qX12_onShelf_4), (27, qX12_onShelf_27), (39, qX12_onShelf_39), (40, qX12_onShelf_40)]
def qX12_taken_0 : List mO := [(.iload_n 1, 1, (0, 0), []),
  (.invokestatic 351, 3, (0, 0), [[1, 244, 7130, 7131, 0]])]
def qX12_taken_4 : List mO := [(.ifCond .eq 29, 3, (0, 0), [[33]]),
  (.iload_n 2, 1, (0, 0), []),
  (.i2l, 1, (0, 0), []),
  (.lconst 0, 1, (0, 0), []),
  (.ldc2_w 76, 3, (0, 5), [[5224]]),
  (.invokestatic 58, 3, (0, 0), [[3, 155, 5225, 5226, 0]])]
def qX12_taken_16 : List mO := [(.ifCond .ne 19, 3, (0, 0), [[35]]),
  (.iload_n 2, 1, (0, 0), []),
  (.i2l, 1, (0, 0), []),
  (.ldc2_w 367, 3, (0, 10), [[7163]]),
  (.ldc2_w 369, 3, (0, 14), [[7164]]),
  (.invokestatic 58, 3, (0, 0), [[3, 155, 5225, 5226, 0]])]
def qX12_taken_30 : List mO := [(.ifCond .ne 5, 3, (0, 0), [[35]])]
def qX12_taken_33 : List mO := [(.iconst (-1), 1, ((-1), 0), []),
  (.ireturn, 1, (0, 0), [])]
def qX12_taken_35 : List mO := [(.aload_n 0, 1, (0, 0), []),
  (.iload_n 1, 1, (0, 0), []),
  (.invokevirtual 371, 3, (0, 0), [[1, 7165, 0], [12, 252, 80, 7167]])]
def qX12_taken_40 : List mO := [(.istore_n 3, 1, (0, 0), []),
  (.iload_n 3, 1, (0, 0), []),
  (.ifCond .ge 16, 3, (0, 0), [[58]]),
  (.aload_n 0, 1, (0, 0), []),
  (.getfield 46, 3, (0, 0), [[27, 5138, 0, 1], [12]]),
  (.iload_n 1, 1, (0, 0), []),
  (.iaload, 1, (0, 0), []),
  (.iconst 2, 1, (2, 0), []),
  (.if_icmp .ge 6, 3, (0, 0), [[58]]),
  (.bipush (-11), 2, ((-11), 0), []),
  (.ireturn, 1, (0, 0), [])]
def qX12_taken_58 : List mO := [(.iload_n 3, 1, (0, 0), []),
  (.ifCond .lt 30, 3, (0, 0), [[89]]),
  (.iload_n 2, 1, (0, 0), []),
  (.bipush 6, 2, (6, 0), []),
  (.if_icmp .ge 20, 3, (0, 0), [[85]]),
  (.aload_n 0, 1, (0, 0), []),
  (.iload_n 3, 1, (0, 0), []),
  (.iconst 0, 1, (0, 0), []),
  (.invokevirtual 82, 3, (0, 0), [[2, 6010, 0], [12, 164, 43, 6012]])]
def qX12_taken_74 : List mO := [(.iload_n 2, 1, (0, 0), []),
  (.invokestatic 92, 3, (0, 0), [[2, 167, 6014, 6015, 0]])]
def qX12_taken_78 : List mO := [(.ifCond .eq 7, 3, (0, 0), [[85]]),
  (.iconst 1, 1, (1, 0), []),
  (.goto 25, 3, (0, 0), [[107]])]
def qX12_taken_85 : List mO := [(.iconst 0, 1, (0, 0), []),
  (.goto 21, 3, (0, 0), [[107]])]
def qX12_taken_89 : List mO := [(.iload_n 2, 1, (0, 0), []),
  (.bipush 10, 2, (10, 0), []),
  (.isub, 1, (0, 0), []),
  (.aload_n 0, 1, (0, 0), []),
  (.getfield 52, 3, (0, 0), [[29, 5140, 0, 1], [12]]),
  (.iload_n 1, 1, (0, 0), []),
  (.iaload, 1, (0, 0), []),
  (.if_icmp .ne 7, 3, (0, 0), [[106]]),
  (.iconst 1, 1, (1, 0), []),
  (.goto 4, 3, (0, 0), [[107]])]
def qX12_taken_106 : List mO := [(.iconst 0, 1, (0, 0), [])]
def qX12_taken_107 : List mO := [(.istore 4, 2, (0, 0), []),
  (.iload 4, 2, (0, 0), []),
  (.ifCond .eq 12, 3, (0, 0), [[123]]),
  (.aload_n 0, 1, (0, 0), []),
  (.getfield 49, 3, (0, 0), [[28, 5139, 0, 1], [12]]),
  (.iload_n 1, 1, (0, 0), []),
  (.iaload, 1, (0, 0), []),
  (.goto 5, 3, (0, 0), [[125]])]
def qX12_taken_123 : List mO := [(.bipush (-13), 2, ((-13), 0), [])]
def qX12_taken_125 : List mO := [(.ireturn, 1, (0, 0), [])]
def pX12_taken : List (Nat × List mO) := [(0, qX12_taken_0), (4, qX12_taken_4), (16, qX12_taken_16), (30, qX12_taken_30), (33, qX12_taken_33), (35, qX12_taken_35), (40, qX12_taken_40), (58, qX12_taken_58), (74, qX12_taken_74), (78, qX12_taken_78), (85, qX12_taken_85), (89, qX12_taken_89), (106, qX12_taken_106), (107, qX12_taken_107), (123, qX12_taken_123), (125, qX12_taken_125)]
def qX12_runs_0 : List mO := [(.aload_n 0, 1, (0, 0), []),
  (.getfield 374, 3, (0, 0), [[35, 5146, 0, 0], [12]]),
  (.ifCond .ne 32, 3, (0, 0), [[36]]),
  (.aload_n 0, 1, (0, 0), []),
  (.getfield 377, 3, (0, 0), [[31, 5142, 0, 0], [12]]),
  (.bipush 30, 2, (30, 0), []),
  (.if_icmp .ge 13, 3, (0, 0), [[26]]),
  (.aload_n 0, 1, (0, 0), []),
  (.getfield 55, 3, (0, 0), [[30, 5141, 0, 1], [12]]),
  (.aload_n 0, 1, (0, 0), []),
  (.getfield 377, 3, (0, 0), [[31, 5142, 0, 0], [12]]),
  (.iload_n 1, 1, (0, 0), []),
  (.iastore, 1, (0, 0), [])]
def qX12_runs_26 : List mO := [(.aload_n 0, 1, (0, 0), []),
  (.dup, 1, (0, 0), []),
  (.getfield 377, 3, (0, 0), [[31, 5142, 0, 0], [12]]),
  (.iconst 1, 1, (1, 0), []),
  (.iadd, 1, (0, 0), []),
  (.putfield 377, 3, (0, 0), [[31, 5142, 0, 0], [12]])]
def qX12_runs_36 : List mO := [(.return_, 1, (0, 0), [])]
def pX12_runs : List (Nat × List mO) := [(0, qX12_runs_0), (26, qX12_runs_26), (36, qX12_runs_36)]
def qX12_cries_0 : List mO := [(.aload_n 0, 1, (0, 0), []),
  (.getfield 380, 3, (0, 0), [[34, 5145, 0, 0], [12]]),
  (.iconst 1, 1, (1, 0), []),
  (.if_icmp .ne 24, 3, (0, 0), [[29]]),
  (.aload_n 0, 1, (0, 0), []),
  (.bipush 20, 2, (20, 0), []),
  (.invokevirtual 383, 3, (0, 0), [[1, 7177, 0], [12, 254, 82, 7179]])]
def qX12_cries_14 : List mO := [(.aload_n 0, 1, (0, 0), []),
  (.bipush 10, 2, (10, 0), []),
  (.invokevirtual 383, 3, (0, 0), [[1, 7177, 0], [12, 254, 82, 7179]])]
def qX12_cries_20 : List mO := [(.iload_n 1, 1, (0, 0), []),
  (.aload_n 0, 1, (0, 0), []),
  (.getfield 386, 3, (0, 0), [[32, 5143, 0, 0], [12]]),
  (.iadd, 1, (0, 0), []),
  (.iconst 3, 1, (3, 0), []),
  (.imul, 1, (0, 0), []),
  (.ireturn, 1, (0, 0), [])]
def qX12_cries_29 : List mO := [(.aload_n 0, 1, (0, 0), []),
  (.getfield 380, 3, (0, 0), [[34, 5145, 0, 0], [12]]),
  (.iconst 3, 1, (3, 0), []),
  (.if_icmp .ne 27, 3, (0, 0), [[61]]),
  (.aload_n 0, 1, (0, 0), []),
  (.bipush 50, 2, (50, 0), []),
  (.invokevirtual 383, 3, (0, 0), [[1, 7177, 0], [12, 254, 82, 7179]])]
def qX12_cries_43 : List mO := [(.aload_n 0, 1, (0, 0), []),
  (.bipush 10, 2, (10, 0), []),
  (.invokevirtual 383, 3, (0, 0), [[1, 7177, 0], [12, 254, 82, 7179]])]
def qX12_cries_49 : List mO := [(.iload_n 1, 1, (0, 0), []),
  (.aload_n 0, 1, (0, 0), []),
  (.getfield 386, 3, (0, 0), [[32, 5143, 0, 0], [12]]),
  (.iadd, 1, (0, 0), []),
  (.aload_n 0, 1, (0, 0), []),
  (.getfield 386, 3, (0, 0), [[32, 5143, 0, 0], [12]]),
  (.ixor, 1, (0, 0), []),
  (.ireturn, 1, (0, 0), [])]
def qX12_cries_61 : List mO := [(.aload_n 0, 1, (0, 0), []),
  (.bipush 10, 2, (10, 0), []),
  (.invokevirtual 383, 3, (0, 0), [[1, 7177, 0], [12, 254, 82, 7179]])]
def qX12_cries_67 : List mO := [(.iload_n 1, 1, (0, 0), []),
  (.aload_n 0, 1, (0, 0), []),
  (.getfield 386, 3, (0, 0), [[32, 5143, 0, 0], [12]]),
  (.iadd, 1, (0, 0), []),
  (.ireturn, 1, (0, 0), [])]
def pX12_cries : List (Nat × List mO) := [(0, qX12_cries_0), (14, qX12_cries_14), (20, qX12_cries_20), (29, qX12_cries_29), (43, qX12_cries_43), (49, qX12_cries_49), (61, qX12_cries_61), (67, qX12_cries_67)]
def qX12_hears_0 : List mO := [(.aload_n 0, 1, (0, 0), []),
  (.getfield 380, 3, (0, 0), [[34, 5145, 0, 0], [12]]),
  (.iconst 2, 1, (2, 0), []),
  (.if_icmp .eq 11, 3, (0, 0), [[16]]),
  (.aload_n 0, 1, (0, 0), []),
  (.getfield 380, 3, (0, 0), [[34, 5145, 0, 0], [12]]),
  (.iconst 3, 1, (3, 0), []),
  (.if_icmp .ne 7, 3, (0, 0), [[20]])]
def qX12_hears_16 : List mO := [(.iconst 1, 1, (1, 0), []),
  (.goto 4, 3, (0, 0), [[21]])]
def qX12_hears_20 : List mO := [(.iconst 0, 1, (0, 0), [])]
def qX12_hears_21 : List mO := [(.istore_n 2, 1, (0, 0), []),
  (.iload_n 2, 1, (0, 0), []),
  (.ifCond .eq 9, 3, (0, 0), [[32]]),
  (.aload_n 0, 1, (0, 0), []),
  (.bipush 30, 2, (30, 0), []),
  (.invokevirtual 383, 3, (0, 0), [[1, 7177, 0], [12, 254, 82, 7179]])]
def qX12_hears_32 : List mO := [(.aload_n 0, 1, (0, 0), []),
  (.getfield 380, 3, (0, 0), [[34, 5145, 0, 0], [12]]),
  (.iconst 5, 1, (5, 0), []),
  (.if_icmp .ne 9, 3, (0, 0), [[46]]),
  (.aload_n 0, 1, (0, 0), []),
  (.bipush 60, 2, (60, 0), []),
  (.invokevirtual 383, 3, (0, 0), [[1, 7177, 0], [12, 254, 82, 7179]])]
def qX12_hears_46 : List mO := [(.aload_n 0, 1, (0, 0), []),
  (.bipush 11, 2, (11, 0), []),
  (.invokevirtual 383, 3, (0, 0), [[1, 7177, 0], [12, 254, 82, 7179]])]
def qX12_hears_52 : List mO := [(.aload_n 0, 1, (0, 0), []),
  (.iload_n 1, 1, (0, 0), []),
  (.invokevirtual 389, 3, (0, 0), [[1, 7173, 0], [12, 255, 81, 7175]])]
def qX12_hears_57 : List mO := [(.iconst 2, 1, (2, 0), []),
  (.imul, 1, (0, 0), []),
  (.istore_n 3, 1, (0, 0), []),
  (.iload_n 2, 1, (0, 0), []),
  (.ifCond .eq 12, 3, (0, 0), [[73]]),
  (.iload_n 3, 1, (0, 0), []),
  (.aload_n 0, 1, (0, 0), []),
  (.getfield 392, 3, (0, 0), [[33, 5144, 0, 0], [12]]),
  (.isub, 1, (0, 0), []),
  (.goto 18, 3, (0, 0), [[88]])]
def qX12_hears_73 : List mO := [(.aload_n 0, 1, (0, 0), []),
  (.getfield 380, 3, (0, 0), [[34, 5145, 0, 0], [12]]),
  (.iconst 5, 1, (5, 0), []),
  (.if_icmp .ne 9, 3, (0, 0), [[87]]),
  (.iconst 0, 1, (0, 0), []),
  (.iload_n 3, 1, (0, 0), []),
  (.isub, 1, (0, 0), []),
  (.goto 4, 3, (0, 0), [[88]])]
def qX12_hears_87 : List mO := [(.iload_n 3, 1, (0, 0), [])]
def qX12_hears_88 : List mO := [(.ireturn, 1, (0, 0), [])]
def pX12_hears : List (Nat × List mO) := [(0, qX12_hears_0), (16, qX12_hears_16), (20, qX12_hears_20), (21, qX12_hears_21), (32, qX12_hears_32), (46, qX12_hears_46), (52, qX12_hears_52), (57, qX12_hears_57), (73, qX12_hears_73), (87, qX12_hears_87), (88, qX12_hears_88)]
def qX12_parts_0 : List mO := [(.aload_n 0, 1, (0, 0), []),
  (.bipush 12, 2, (12, 0), []),
  (.invokevirtual 383, 3, (0, 0), [[1, 7177, 0], [12, 254, 82, 7179]])]
def qX12_parts_6 : List mO := [(.aload_n 0, 1, (0, 0), []),
  (.getfield 392, 3, (0, 0), [[33, 5144, 0, 0], [12]]),
  (.aload_n 0, 1, (0, 0), []),
  (.getfield 386, 3, (0, 0), [[32, 5143, 0, 0], [12]]),
  (.if_icmp .ne 10, 3, (0, 0), [[24]]),
  (.aload_n 0, 1, (0, 0), []),
  (.iconst 1, 1, (1, 0), []),
  (.putfield 374, 3, (0, 0), [[35, 5146, 0, 0], [12]]),
  (.iconst 0, 1, (0, 0), []),
  (.ireturn, 1, (0, 0), [])]
def qX12_parts_24 : List mO := [(.iload_n 1, 1, (0, 0), []),
  (.aload_n 0, 1, (0, 0), []),
  (.getfield 392, 3, (0, 0), [[33, 5144, 0, 0], [12]]),
  (.aload_n 0, 1, (0, 0), []),
  (.getfield 386, 3, (0, 0), [[32, 5143, 0, 0], [12]]),
  (.isub, 1, (0, 0), []),
  (.idiv, 1, (0, 0), []),
  (.ireturn, 1, (0, 0), [])]
def pX12_parts : List (Nat × List mO) := [(0, qX12_parts_0), (6, qX12_parts_6), (24, qX12_parts_24)]
def qX12_shares_0 : List mO := [(.aload_n 0, 1, (0, 0), []),
  (.getfield 380, 3, (0, 0), [[34, 5145, 0, 0], [12]]),
  (.iconst 4, 1, (4, 0), []),
  (.if_icmp .ne 17, 3, (0, 0), [[22]]),
  (.aload_n 0, 1, (0, 0), []),
  (.bipush 40, 2, (40, 0), []),
  (.invokevirtual 383, 3, (0, 0), [[1, 7177, 0], [12, 254, 82, 7179]])]
def qX12_shares_14 : List mO := [(.aload_n 0, 1, (0, 0), []),
  (.iload_n 1, 1, (0, 0), []),
  (.iconst 1, 1, (1, 0), []),
  (.iadd, 1, (0, 0), []),
  (.invokevirtual 395, 3, (0, 0), [[1, 7189, 0], [12, 257, 85, 7191]])]
def qX12_shares_21 : List mO := [(.ireturn, 1, (0, 0), [])]
def qX12_shares_22 : List mO := [(.aload_n 0, 1, (0, 0), []),
  (.getfield 380, 3, (0, 0), [[34, 5145, 0, 0], [12]]),
  (.iconst 5, 1, (5, 0), []),
  (.if_icmp .ne 45, 3, (0, 0), [[72]]),
  (.aload_n 0, 1, (0, 0), []),
  (.bipush 61, 2, (61, 0), []),
  (.invokevirtual 383, 3, (0, 0), [[1, 7177, 0], [12, 254, 82, 7179]])]
def qX12_shares_36 : List mO := [(.aload_n 0, 1, (0, 0), []),
  (.bipush 40, 2, (40, 0), []),
  (.invokevirtual 383, 3, (0, 0), [[1, 7177, 0], [12, 254, 82, 7179]])]
def qX12_shares_42 : List mO := [(.aload_n 0, 1, (0, 0), []),
  (.iload_n 1, 1, (0, 0), []),
  (.iconst 1, 1, (1, 0), []),
  (.iadd, 1, (0, 0), []),
  (.invokevirtual 395, 3, (0, 0), [[1, 7189, 0], [12, 257, 85, 7191]])]
def qX12_shares_49 : List mO := [(.istore_n 2, 1, (0, 0), []),
  (.aload_n 0, 1, (0, 0), []),
  (.getfield 374, 3, (0, 0), [[35, 5146, 0, 0], [12]]),
  (.ifCond .eq 7, 3, (0, 0), [[61]]),
  (.iconst 0, 1, (0, 0), []),
  (.goto 13, 3, (0, 0), [[71]])]
def qX12_shares_61 : List mO := [(.iload_n 2, 1, (0, 0), []),
  (.aload_n 0, 1, (0, 0), []),
  (.aload_n 0, 1, (0, 0), []),
  (.getfield 392, 3, (0, 0), [[33, 5144, 0, 0], [12]]),
  (.invokevirtual 389, 3, (0, 0), [[1, 7173, 0], [12, 255, 81, 7175]])]
def qX12_shares_70 : List mO := [(.iadd, 1, (0, 0), [])]
def qX12_shares_71 : List mO := [(.ireturn, 1, (0, 0), [])]
def qX12_shares_72 : List mO := [(.aload_n 0, 1, (0, 0), []),
  (.iload_n 1, 1, (0, 0), []),
  (.invokevirtual 395, 3, (0, 0), [[1, 7189, 0], [12, 257, 85, 7191]])]
def qX12_shares_77 : List mO := [(.ireturn, 1, (0, 0), [])]
def pX12_shares : List (Nat × List mO) := [(0, qX12_shares_0), (14, qX12_shares_14), (21, qX12_shares_21), (22, qX12_shares_22), (36, qX12_shares_36), (42, qX12_shares_42), (49, qX12_shares_49), (61, qX12_shares_61), (70, qX12_shares_70), (71, qX12_shares_71), (72, qX12_shares_72), (77, qX12_shares_77)]
def qX12_tells_0 : List mO := [(.aload_n 0, 1, (0, 0), []),
  (.getfield 380, 3, (0, 0), [[34, 5145, 0, 0], [12]]),
  (.iconst 3, 1, (3, 0), []),
  (.if_icmp .ne 9, 3, (0, 0), [[14]]),
  (.aload_n 0, 1, (0, 0), []),
  (.bipush 51, 2, (51, 0), []),
  (.invokevirtual 383, 3, (0, 0), [[1, 7177, 0], [12, 254, 82, 7179]])]
def qX12_tells_14 : List mO := [(.aload_n 0, 1, (0, 0), []),
  (.bipush 13, 2, (13, 0), []),
  (.invokevirtual 383, 3, (0, 0), [[1, 7177, 0], [12, 254, 82, 7179]])]
def qX12_tells_20 : List mO := [(.aload_n 0, 1, (0, 0), []),
  (.iload_n 1, 1, (0, 0), []),
  (.invokevirtual 398, 3, (0, 0), [[1, 7181, 0], [12, 256, 83, 7183]])]
def qX12_tells_25 : List mO := [(.aload_n 0, 1, (0, 0), []),
  (.getfield 392, 3, (0, 0), [[33, 5144, 0, 0], [12]]),
  (.ixor, 1, (0, 0), []),
  (.istore_n 2, 1, (0, 0), []),
  (.aload_n 0, 1, (0, 0), []),
  (.getfield 380, 3, (0, 0), [[34, 5145, 0, 0], [12]]),
  (.iconst 3, 1, (3, 0), []),
  (.if_icmp .ne 16, 3, (0, 0), [[52]]),
  (.iload_n 2, 1, (0, 0), []),
  (.aload_n 0, 1, (0, 0), []),
  (.aload_n 0, 1, (0, 0), []),
  (.getfield 386, 3, (0, 0), [[32, 5143, 0, 0], [12]]),
  (.invokevirtual 401, 3, (0, 0), [[1, 7185, 0], [12, 258, 84, 7187]])]
def qX12_tells_48 : List mO := [(.iadd, 1, (0, 0), []),
  (.goto 4, 3, (0, 0), [[53]])]
def qX12_tells_52 : List mO := [(.iload_n 2, 1, (0, 0), [])]
def qX12_tells_53 : List mO := [(.ireturn, 1, (0, 0), [])]
def pX12_tells : List (Nat × List mO) := [(0, qX12_tells_0), (14, qX12_tells_14), (20, qX12_tells_20), (25, qX12_tells_25), (48, qX12_tells_48), (52, qX12_tells_52), (53, qX12_tells_53)]
def qX12_act_0 : List mO := [(.aload_n 0, 1, (0, 0), []),
  (.iconst 0, 1, (0, 0), []),
  (.putfield 377, 3, (0, 0), [[31, 5142, 0, 0], [12]]),
  (.aload_n 0, 1, (0, 0), []),
  (.iconst 0, 1, (0, 0), []),
  (.putfield 374, 3, (0, 0), [[35, 5146, 0, 0], [12]]),
  (.aload_n 0, 1, (0, 0), []),
  (.aload_n 0, 1, (0, 0), []),
  (.iload_n 1, 1, (0, 0), []),
  (.invokevirtual 371, 3, (0, 0), [[1, 7165, 0], [12, 252, 80, 7167]])]
def qX12_act_16 : List mO := [(.putfield 386, 3, (0, 0), [[32, 5143, 0, 0], [12]]),
  (.aload_n 0, 1, (0, 0), []),
  (.getfield 386, 3, (0, 0), [[32, 5143, 0, 0], [12]]),
  (.ifCond .lt 15, 3, (0, 0), [[38]]),
  (.iload_n 2, 1, (0, 0), []),
  (.i2l, 1, (0, 0), []),
  (.lconst 0, 1, (0, 0), []),
  (.ldc2_w 121, 3, (0, 3), [[6049]]),
  (.invokestatic 58, 3, (0, 0), [[3, 155, 5225, 5226, 0]])]
def qX12_act_35 : List mO := [(.ifCond .ne 5, 3, (0, 0), [[40]])]
def qX12_act_38 : List mO := [(.iconst 0, 1, (0, 0), []),
  (.ireturn, 1, (0, 0), [])]
def qX12_act_40 : List mO := [(.aload_n 0, 1, (0, 0), []),
  (.aload_n 0, 1, (0, 0), []),
  (.aload_n 0, 1, (0, 0), []),
  (.getfield 386, 3, (0, 0), [[32, 5143, 0, 0], [12]]),
  (.iconst 2, 1, (2, 0), []),
  (.invokevirtual 82, 3, (0, 0), [[2, 6010, 0], [12, 164, 43, 6012]])]
def qX12_act_50 : List mO := [(.putfield 392, 3, (0, 0), [[33, 5144, 0, 0], [12]]),
  (.aload_n 0, 1, (0, 0), []),
  (.aload_n 0, 1, (0, 0), []),
  (.aload_n 0, 1, (0, 0), []),
  (.getfield 386, 3, (0, 0), [[32, 5143, 0, 0], [12]]),
  (.iconst 0, 1, (0, 0), []),
  (.invokevirtual 82, 3, (0, 0), [[2, 6010, 0], [12, 164, 43, 6012]])]
def qX12_act_63 : List mO := [(.putfield 380, 3, (0, 0), [[34, 5145, 0, 0], [12]]),
  (.iload_n 2, 1, (0, 0), []),
  (.ifCond .ne 11, 3, (0, 0), [[78]]),
  (.aload_n 0, 1, (0, 0), []),
  (.iload_n 3, 1, (0, 0), []),
  (.invokevirtual 389, 3, (0, 0), [[1, 7173, 0], [12, 255, 81, 7175]])]
def qX12_act_75 : List mO := [(.goto 34, 3, (0, 0), [[109]])]
def qX12_act_78 : List mO := [(.iload_n 2, 1, (0, 0), []),
  (.iconst 1, 1, (1, 0), []),
  (.if_icmp .ne 11, 3, (0, 0), [[91]]),
  (.aload_n 0, 1, (0, 0), []),
  (.iload_n 3, 1, (0, 0), []),
  (.invokevirtual 398, 3, (0, 0), [[1, 7181, 0], [12, 256, 83, 7183]])]
def qX12_act_88 : List mO := [(.goto 21, 3, (0, 0), [[109]])]
def qX12_act_91 : List mO := [(.iload_n 2, 1, (0, 0), []),
  (.iconst 2, 1, (2, 0), []),
  (.if_icmp .ne 11, 3, (0, 0), [[104]]),
  (.aload_n 0, 1, (0, 0), []),
  (.iload_n 3, 1, (0, 0), []),
  (.invokevirtual 401, 3, (0, 0), [[1, 7185, 0], [12, 258, 84, 7187]])]
def qX12_act_101 : List mO := [(.goto 8, 3, (0, 0), [[109]])]
def qX12_act_104 : List mO := [(.aload_n 0, 1, (0, 0), []),
  (.iload_n 3, 1, (0, 0), []),
  (.invokevirtual 404, 3, (0, 0), [[1, 7193, 0], [12, 259, 86, 7195]])]
def qX12_act_109 : List mO := [(.istore 4, 2, (0, 0), []),
  (.aload_n 0, 1, (0, 0), []),
  (.getfield 374, 3, (0, 0), [[35, 5146, 0, 0], [12]]),
  (.ifCond .eq 8, 3, (0, 0), [[123]]),
  (.bipush (-15), 2, ((-15), 0), []),
  (.goto 5, 3, (0, 0), [[125]])]
def qX12_act_123 : List mO := [(.iload 4, 2, (0, 0), [])]
def qX12_act_125 : List mO := [(.ireturn, 1, (0, 0), [])]
def pX12_act : List (Nat × List mO) := [(0, qX12_act_0), (16, qX12_act_16), (35, qX12_act_35), (38, qX12_act_38), (40, qX12_act_40), (50, qX12_act_50), (63, qX12_act_63), (75, qX12_act_75), (78, qX12_act_78), (88, qX12_act_88), (91, qX12_act_91), (101, qX12_act_101), (104, qX12_act_104), (109, qX12_act_109), (123, qX12_act_123), (125, qX12_act_125)]
def qX12_traced_0 : List mO := [(.aload_n 0, 1, (0, 0), []),
  (.getfield 377, 3, (0, 0), [[31, 5142, 0, 0], [12]]),
  (.bipush 30, 2, (30, 0), []),
  (.if_icmp .ge 10, 3, (0, 0), [[16]]),
  (.aload_n 0, 1, (0, 0), []),
  (.getfield 377, 3, (0, 0), [[31, 5142, 0, 0], [12]]),
  (.goto 5, 3, (0, 0), [[18]])]
def qX12_traced_16 : List mO := [(.bipush 30, 2, (30, 0), [])]
def qX12_traced_18 : List mO := [(.ireturn, 1, (0, 0), [])]
def pX12_traced : List (Nat × List mO) := [(0, qX12_traced_0), (16, qX12_traced_16), (18, qX12_traced_18)]
def qX12_trace_0 : List mO := [(.iload_n 1, 1, (0, 0), []),
  (.i2l, 1, (0, 0), []),
  (.lconst 0, 1, (0, 0), []),
  (.aload_n 0, 1, (0, 0), []),
  (.invokevirtual 407, 3, (0, 0), [[0, 7201, 0], [12, 261, 87, 7203]])]
def qX12_trace_7 : List mO := [(.iconst 1, 1, (1, 0), []),
  (.isub, 1, (0, 0), []),
  (.i2l, 1, (0, 0), []),
  (.invokestatic 58, 3, (0, 0), [[3, 155, 5225, 5226, 0]])]
def qX12_trace_13 : List mO := [(.ifCond .eq 12, 3, (0, 0), [[25]]),
  (.aload_n 0, 1, (0, 0), []),
  (.getfield 55, 3, (0, 0), [[30, 5141, 0, 1], [12]]),
  (.iload_n 1, 1, (0, 0), []),
  (.iaload, 1, (0, 0), []),
  (.goto 5, 3, (0, 0), [[27]])]
def qX12_trace_25 : List mO := [(.bipush (-3), 2, ((-3), 0), [])]
def qX12_trace_27 : List mO := [(.ireturn, 1, (0, 0), [])]
def pX12_trace : List (Nat × List mO) := [(0, qX12_trace_0), (7, qX12_trace_7), (13, qX12_trace_13), (25, qX12_trace_25), (27, qX12_trace_27)]
def qX12_many_0 : List mO := [(.iload_n 1, 1, (0, 0), []),
  (.tableswitch 84 0 6 #[43, 50, 57, 64, 69, 74, 79], 43, (0, 0), [[85], [0, 44], [1, 51], [2, 58], [3, 65], [4, 70], [5, 75], [6, 80]])]
def qX12_many_44 : List mO := [(.aload_n 0, 1, (0, 0), []),
  (.getfield 7, 3, (0, 0), [[0, 5111, 0, 1], [12]]),
  (.iconst 0, 1, (0, 0), []),
  (.iaload, 1, (0, 0), []),
  (.ireturn, 1, (0, 0), [])]
def qX12_many_51 : List mO := [(.aload_n 0, 1, (0, 0), []),
  (.getfield 7, 3, (0, 0), [[0, 5111, 0, 1], [12]]),
  (.iconst 4, 1, (4, 0), []),
  (.iaload, 1, (0, 0), []),
  (.ireturn, 1, (0, 0), [])]
def qX12_many_58 : List mO := [(.aload_n 0, 1, (0, 0), []),
  (.getfield 7, 3, (0, 0), [[0, 5111, 0, 1], [12]]),
  (.iconst 1, 1, (1, 0), []),
  (.iaload, 1, (0, 0), []),
  (.ireturn, 1, (0, 0), [])]
def qX12_many_65 : List mO := [(.aload_n 0, 1, (0, 0), []),
  (.getfield 210, 3, (0, 0), [[15, 5126, 0, 0], [12]]),
  (.ireturn, 1, (0, 0), [])]
def qX12_many_70 : List mO := [(.aload_n 0, 1, (0, 0), []),
  (.invokevirtual 146, 3, (0, 0), [[0, 6087, 0], [12, 185, 49, 6089]])]
def qX12_many_74 : List mO := [(.ireturn, 1, (0, 0), [])]
def qX12_many_75 : List mO := [(.aload_n 0, 1, (0, 0), []),
  (.getfield 222, 3, (0, 0), [[17, 5128, 0, 0], [12]]),
  (.ireturn, 1, (0, 0), [])]
def qX12_many_80 : List mO := [(.aload_n 0, 1, (0, 0), []),
  (.invokevirtual 407, 3, (0, 0), [[0, 7201, 0], [12, 261, 87, 7203]])]
def qX12_many_84 : List mO := [(.ireturn, 1, (0, 0), [])]
def qX12_many_85 : List mO := [(.iconst (-1), 1, ((-1), 0), []),
  (.ireturn, 1, (0, 0), [])]
def pX12_many : List (Nat × List mO) := [(0, qX12_many_0), (44, qX12_many_44), (51, qX12_many_51), (58, qX12_many_58), (65, qX12_many_65), (70, qX12_many_70), (74, qX12_many_74), (75, qX12_many_75), (80, qX12_many_80), (84, qX12_many_84), (85, qX12_many_85)]
def qX12_keep_0 : List mO := [(.iconst 0, 1, (0, 0), []),
  (.istore_n 1, 1, (0, 0), [])]
def qX12_keep_2 : List mO := [(.iload_n 1, 1, (0, 0), []),
  (.sipush 310, 3, (310, 0), []),
  (.if_icmp .ge 21, 3, (0, 0), [[27]]),
  (.aload_n 0, 1, (0, 0), []),
  (.getfield 13, 3, (0, 0), [[1, 5112, 0, 1], [12]]),
  (.iload_n 1, 1, (0, 0), []),
  (.aload_n 0, 1, (0, 0), []),
  (.getfield 7, 3, (0, 0), [[0, 5111, 0, 1], [12]]),
  (.iload_n 1, 1, (0, 0), []),
  (.iaload, 1, (0, 0), []),
  (.iastore, 1, (0, 0), []),
  (.iinc 1 1, 3, (1, 0), []),
  (.goto (-22), 3, (0, 0), [[2]])]
def qX12_keep_27 : List mO := [(.aload_n 0, 1, (0, 0), []),
  (.iconst 1, 1, (1, 0), []),
  (.putfield 410, 3, (0, 0), [[3, 5114, 0, 0], [12]]),
  (.iconst 1, 1, (1, 0), []),
  (.ireturn, 1, (0, 0), [])]
def pX12_keep : List (Nat × List mO) := [(0, qX12_keep_0), (2, qX12_keep_2), (27, qX12_keep_27)]
def qX12_again_0 : List mO := [(.aload_n 0, 1, (0, 0), []),
  (.getfield 410, 3, (0, 0), [[3, 5114, 0, 0], [12]]),
  (.ifCond .ne 6, 3, (0, 0), [[10]]),
  (.bipush (-3), 2, ((-3), 0), []),
  (.ireturn, 1, (0, 0), [])]
def qX12_again_10 : List mO := [(.iconst 0, 1, (0, 0), []),
  (.istore_n 1, 1, (0, 0), [])]
def qX12_again_12 : List mO := [(.iload_n 1, 1, (0, 0), []),
  (.sipush 310, 3, (310, 0), []),
  (.if_icmp .ge 21, 3, (0, 0), [[37]]),
  (.aload_n 0, 1, (0, 0), []),
  (.getfield 7, 3, (0, 0), [[0, 5111, 0, 1], [12]]),
  (.iload_n 1, 1, (0, 0), []),
  (.aload_n 0, 1, (0, 0), []),
  (.getfield 13, 3, (0, 0), [[1, 5112, 0, 1], [12]]),
  (.iload_n 1, 1, (0, 0), []),
  (.iaload, 1, (0, 0), []),
  (.iastore, 1, (0, 0), []),
  (.iinc 1 1, 3, (1, 0), []),
  (.goto (-22), 3, (0, 0), [[12]])]
def qX12_again_37 : List mO := [(.aload_n 0, 1, (0, 0), []),
  (.getfield 7, 3, (0, 0), [[0, 5111, 0, 1], [12]]),
  (.iconst 0, 1, (0, 0), []),
  (.iaload, 1, (0, 0), []),
  (.ireturn, 1, (0, 0), [])]
def pX12_again : List (Nat × List mO) := [(0, qX12_again_0), (10, qX12_again_10), (12, qX12_again_12), (37, qX12_again_37)]
def qJ6_bitCount_0f7a4_0 : List mO := [(.iload_n 0, 1, (0, 0), []),
  (.iload_n 0, 1, (0, 0), []),
  (.iconst 1, 1, (1, 0), []),
  (.iushr, 1, (0, 0), []),
  (.ldc_w 265, 3, (1431655765, 0), [[0, 4075]]),
  (.iand, 1, (0, 0), []),
  (.isub, 1, (0, 0), []),
  (.istore_n 0, 1, (0, 0), []),
  (.iload_n 0, 1, (0, 0), []),
  (.ldc_w 266, 3, (858993459, 0), [[0, 4076]]),
  (.iand, 1, (0, 0), []),
  (.iload_n 0, 1, (0, 0), []),
  (.iconst 2, 1, (2, 0), []),
  (.iushr, 1, (0, 0), []),
  (.ldc_w 266, 3, (858993459, 0), [[0, 4076]]),
  (.iand, 1, (0, 0), []),
  (.iadd, 1, (0, 0), []),
  (.istore_n 0, 1, (0, 0), []),
  (.iload_n 0, 1, (0, 0), []),
  (.iload_n 0, 1, (0, 0), []),
  (.iconst 4, 1, (4, 0), []),
  (.iushr, 1, (0, 0), []),
  (.iadd, 1, (0, 0), []),
  (.ldc_w 267, 3, (252645135, 0), [[0, 4077]]),
  (.iand, 1, (0, 0), []),
  (.istore_n 0, 1, (0, 0), []),
  (.iload_n 0, 1, (0, 0), []),
  (.iload_n 0, 1, (0, 0), []),
  (.bipush 8, 2, (8, 0), []),
  (.iushr, 1, (0, 0), []),
  (.iadd, 1, (0, 0), []),
  (.istore_n 0, 1, (0, 0), []),
  (.iload_n 0, 1, (0, 0), []),
  (.iload_n 0, 1, (0, 0), []),
  (.bipush 16, 2, (16, 0), []),
  (.iushr, 1, (0, 0), []),
  (.iadd, 1, (0, 0), []),
  (.istore_n 0, 1, (0, 0), []),
  (.iload_n 0, 1, (0, 0), []),
  (.bipush 63, 2, (63, 0), []),
  (.iand, 1, (0, 0), []),
  (.ireturn, 1, (0, 0), [])]
def pJ6_bitCount_0f7a4 : List (Nat × List mO) := [(0, qJ6_bitCount_0f7a4_0)]
def qJ7_fill_53178_0 : List mO := [(.iconst 0, 1, (0, 0), []),
  (.istore_n 2, 1, (0, 0), []),
  (.aload_n 0, 1, (0, 0), []),
  (.arraylength, 1, (0, 0), []),
  (.istore_n 3, 1, (0, 0), [])]
def qJ7_fill_53178_5 : List mO := [(.iload_n 2, 1, (0, 0), []),
  (.iload_n 3, 1, (0, 0), []),
  (.if_icmp .ge 13, 3, (0, 0), [[20]]),
  (.aload_n 0, 1, (0, 0), []),
  (.iload_n 2, 1, (0, 0), []),
  (.iload_n 1, 1, (0, 0), []),
  (.iastore, 1, (0, 0), []),
  (.iinc 2 1, 3, (1, 0), []),
  (.goto (-12), 3, (0, 0), [[5]])]
def qJ7_fill_53178_20 : List mO := [(.return_, 1, (0, 0), [])]
def pJ7_fill_53178 : List (Nat × List mO) := [(0, qJ7_fill_53178_0), (5, qJ7_fill_53178_5), (20, qJ7_fill_53178_20)]
def qL_law_0 : List mO := [(.new 7, 3, (0, 0), [[11, 18, 1022, 1023, 1001]]),
  (.dup, 1, (0, 0), []),
  (.invokespecial 9, 3, (0, 0), [[0, 79, 1024, 1025, 0]])]
def qL_law_7 : List mO := [(.astore_n 1, 1, (0, 0), []),
  (.new 10, 3, (0, 0), [[12, 36, 5105, 5106, 1013]]),
  (.dup, 1, (0, 0), []),
  (.invokespecial 12, 3, (0, 0), [[0, 154, 5107, 5108, 0]])]
def qL_law_15 : List mO := [(.astore_n 2, 1, (0, 0), []),
  (.iconst 0, 1, (0, 0), []),
  (.istore_n 3, 1, (0, 0), [])]
def qL_law_18 : List mO := [(.iload_n 3, 1, (0, 0), []),
  (.aload_n 0, 1, (0, 0), []),
  (.arraylength, 1, (0, 0), []),
  (.iconst 5, 1, (5, 0), []),
  (.isub, 1, (0, 0), []),
  (.if_icmp .gt 2005, 3, (0, 0), [[2028]]),
  (.aload_n 0, 1, (0, 0), []),
  (.iload_n 3, 1, (0, 0), []),
  (.iaload, 1, (0, 0), []),
  (.bipush 63, 2, (63, 0), []),
  (.iand, 1, (0, 0), []),
  (.tableswitch 1990 0 49 #[216, 269, 302, 345, 378, 401, 434, 473, 536, 549, 608, 641, 654, 697, 740, 783, 816, 859, 902, 935, 968, 1001, 1034, 1057, 1100, 1133, 1176, 1219, 1242, 1265, 1318, 1351, 1384, 1397, 1430, 1453, 1512, 1545, 1588, 1627, 1670, 1713, 1756, 1799, 1842, 1875, 1918, 1941, 1964, 1977], 216, (0, 0), [[2022], [0, 248], [1, 301], [2, 334], [3, 377], [4, 410], [5, 433], [6, 466], [7, 505], [8, 568], [9, 581], [10, 640], [11, 673], [12, 686], [13, 729], [14, 772], [15, 815], [16, 848], [17, 891], [18, 934], [19, 967], [20, 1000], [21, 1033], [22, 1066], [23, 1089], [24, 1132], [25, 1165], [26, 1208], [27, 1251], [28, 1274], [29, 1297], [30, 1350], [31, 1383], [32, 1416], [33, 1429], [34, 1462], [35, 1485], [36, 1544], [37, 1577], [38, 1620], [39, 1659], [40, 1702], [41, 1745], [42, 1788], [43, 1831], [44, 1874], [45, 1907], [46, 1950], [47, 1973], [48, 1996], [49, 2009]])]
def qL_law_248 : List mO := [(.aload_n 1, 1, (0, 0), []),
  (.aload_n 0, 1, (0, 0), []),
  (.iload_n 3, 1, (0, 0), []),
  (.iconst 1, 1, (1, 0), []),
  (.iadd, 1, (0, 0), []),
  (.iaload, 1, (0, 0), []),
  (.aload_n 0, 1, (0, 0), []),
  (.iload_n 3, 1, (0, 0), []),
  (.iconst 2, 1, (2, 0), []),
  (.iadd, 1, (0, 0), []),
  (.iaload, 1, (0, 0), []),
  (.aload_n 0, 1, (0, 0), []),
  (.iload_n 3, 1, (0, 0), []),
  (.iconst 3, 1, (3, 0), []),
  (.iadd, 1, (0, 0), []),
  (.iaload, 1, (0, 0), []),
  (.aload_n 0, 1, (0, 0), []),
  (.iload_n 3, 1, (0, 0), []),
  (.iconst 4, 1, (4, 0), []),
  (.iadd, 1, (0, 0), []),
  (.iaload, 1, (0, 0), []),
  (.invokevirtual 13, 3, (0, 0), [[4, 2146, 0], [11, 80, 2148, 2147]])]
def qL_law_272 : List mO := [(.aload_n 2, 1, (0, 0), []),
  (.aload_n 0, 1, (0, 0), []),
  (.iload_n 3, 1, (0, 0), []),
  (.iconst 1, 1, (1, 0), []),
  (.iadd, 1, (0, 0), []),
  (.iaload, 1, (0, 0), []),
  (.aload_n 0, 1, (0, 0), []),
  (.iload_n 3, 1, (0, 0), []),
  (.iconst 2, 1, (2, 0), []),
  (.iadd, 1, (0, 0), []),
  (.iaload, 1, (0, 0), []),
  (.aload_n 0, 1, (0, 0), []),
  (.iload_n 3, 1, (0, 0), []),
  (.iconst 3, 1, (3, 0), []),
  (.iadd, 1, (0, 0), []),
  (.iaload, 1, (0, 0), []),
  (.aload_n 0, 1, (0, 0), []),
  (.iload_n 3, 1, (0, 0), []),
  (.iconst 4, 1, (4, 0), []),
  (.iadd, 1, (0, 0), []),
  (.iaload, 1, (0, 0), []),
  (.invokevirtual 17, 3, (0, 0), [[4, 5220, 0], [12, 166, 5222, 5221]])]
def qL_law_296 : List mO := [(.if_icmp .eq 1726, 3, (0, 0), [[2022]]),
  (.iconst 0, 1, (0, 0), []),
  (.ireturn, 1, (0, 0), [[1]])]
def qL_law_301 : List mO := [(.aload_n 1, 1, (0, 0), []),
  (.aload_n 0, 1, (0, 0), []),
  (.iload_n 3, 1, (0, 0), []),
  (.iconst 1, 1, (1, 0), []),
  (.iadd, 1, (0, 0), []),
  (.iaload, 1, (0, 0), []),
  (.aload_n 0, 1, (0, 0), []),
  (.iload_n 3, 1, (0, 0), []),
  (.iconst 2, 1, (2, 0), []),
  (.iadd, 1, (0, 0), []),
  (.iaload, 1, (0, 0), []),
  (.invokevirtual 18, 3, (0, 0), [[2, 2156, 0], [11, 81, 2158, 2157]])]
def qL_law_315 : List mO := [(.aload_n 2, 1, (0, 0), []),
  (.aload_n 0, 1, (0, 0), []),
  (.iload_n 3, 1, (0, 0), []),
  (.iconst 1, 1, (1, 0), []),
  (.iadd, 1, (0, 0), []),
  (.iaload, 1, (0, 0), []),
  (.aload_n 0, 1, (0, 0), []),
  (.iload_n 3, 1, (0, 0), []),
  (.iconst 2, 1, (2, 0), []),
  (.iadd, 1, (0, 0), []),
  (.iaload, 1, (0, 0), []),
  (.invokevirtual 22, 3, (0, 0), [[2, 5237, 0], [12, 172, 5239, 5238]])]
def qL_law_329 : List mO := [(.if_icmp .eq 1693, 3, (0, 0), [[2022]]),
  (.iconst 0, 1, (0, 0), []),
  (.ireturn, 1, (0, 0), [[1]])]
def qL_law_334 : List mO := [(.aload_n 1, 1, (0, 0), []),
  (.aload_n 0, 1, (0, 0), []),
  (.iload_n 3, 1, (0, 0), []),
  (.iconst 1, 1, (1, 0), []),
  (.iadd, 1, (0, 0), []),
  (.iaload, 1, (0, 0), []),
  (.aload_n 0, 1, (0, 0), []),
  (.iload_n 3, 1, (0, 0), []),
  (.iconst 2, 1, (2, 0), []),
  (.iadd, 1, (0, 0), []),
  (.iaload, 1, (0, 0), []),
  (.aload_n 0, 1, (0, 0), []),
  (.iload_n 3, 1, (0, 0), []),
  (.iconst 3, 1, (3, 0), []),
  (.iadd, 1, (0, 0), []),
  (.iaload, 1, (0, 0), []),
  (.invokevirtual 23, 3, (0, 0), [[3, 2194, 0], [11, 82, 2196, 2195]])]
def qL_law_353 : List mO := [(.aload_n 2, 1, (0, 0), []),
  (.aload_n 0, 1, (0, 0), []),
  (.iload_n 3, 1, (0, 0), []),
  (.iconst 1, 1, (1, 0), []),
  (.iadd, 1, (0, 0), []),
  (.iaload, 1, (0, 0), []),
  (.aload_n 0, 1, (0, 0), []),
  (.iload_n 3, 1, (0, 0), []),
  (.iconst 2, 1, (2, 0), []),
  (.iadd, 1, (0, 0), []),
  (.iaload, 1, (0, 0), []),
  (.aload_n 0, 1, (0, 0), []),
  (.iload_n 3, 1, (0, 0), []),
  (.iconst 3, 1, (3, 0), []),
  (.iadd, 1, (0, 0), []),
  (.iaload, 1, (0, 0), []),
  (.invokevirtual 27, 3, (0, 0), [[3, 6028, 0], [12, 173, 6030, 6029]])]
def qL_law_372 : List mO := [(.if_icmp .eq 1650, 3, (0, 0), [[2022]]),
  (.iconst 0, 1, (0, 0), []),
  (.ireturn, 1, (0, 0), [[1]])]
def qL_law_377 : List mO := [(.aload_n 1, 1, (0, 0), []),
  (.aload_n 0, 1, (0, 0), []),
  (.iload_n 3, 1, (0, 0), []),
  (.iconst 1, 1, (1, 0), []),
  (.iadd, 1, (0, 0), []),
  (.iaload, 1, (0, 0), []),
  (.aload_n 0, 1, (0, 0), []),
  (.iload_n 3, 1, (0, 0), []),
  (.iconst 2, 1, (2, 0), []),
  (.iadd, 1, (0, 0), []),
  (.iaload, 1, (0, 0), []),
  (.invokevirtual 28, 3, (0, 0), [[2, 2198, 0], [11, 83, 2200, 2199]])]
def qL_law_391 : List mO := [(.aload_n 2, 1, (0, 0), []),
  (.aload_n 0, 1, (0, 0), []),
  (.iload_n 3, 1, (0, 0), []),
  (.iconst 1, 1, (1, 0), []),
  (.iadd, 1, (0, 0), []),
  (.iaload, 1, (0, 0), []),
  (.aload_n 0, 1, (0, 0), []),
  (.iload_n 3, 1, (0, 0), []),
  (.iconst 2, 1, (2, 0), []),
  (.iadd, 1, (0, 0), []),
  (.iaload, 1, (0, 0), []),
  (.invokevirtual 31, 3, (0, 0), [[2, 6032, 0], [12, 174, 6034, 6033]])]
def qL_law_405 : List mO := [(.if_icmp .eq 1617, 3, (0, 0), [[2022]]),
  (.iconst 0, 1, (0, 0), []),
  (.ireturn, 1, (0, 0), [[1]])]
def qL_law_410 : List mO := [(.aload_n 1, 1, (0, 0), []),
  (.aload_n 0, 1, (0, 0), []),
  (.iload_n 3, 1, (0, 0), []),
  (.iconst 1, 1, (1, 0), []),
  (.iadd, 1, (0, 0), []),
  (.iaload, 1, (0, 0), []),
  (.invokevirtual 32, 3, (0, 0), [[1, 2202, 0], [11, 84, 2204, 2203]])]
def qL_law_419 : List mO := [(.aload_n 2, 1, (0, 0), []),
  (.aload_n 0, 1, (0, 0), []),
  (.iload_n 3, 1, (0, 0), []),
  (.iconst 1, 1, (1, 0), []),
  (.iadd, 1, (0, 0), []),
  (.iaload, 1, (0, 0), []),
  (.invokevirtual 36, 3, (0, 0), [[1, 6036, 0], [12, 175, 6038, 6037]])]
def qL_law_428 : List mO := [(.if_icmp .eq 1594, 3, (0, 0), [[2022]]),
  (.iconst 0, 1, (0, 0), []),
  (.ireturn, 1, (0, 0), [[1]])]
def qL_law_433 : List mO := [(.aload_n 1, 1, (0, 0), []),
  (.aload_n 0, 1, (0, 0), []),
  (.iload_n 3, 1, (0, 0), []),
  (.iconst 1, 1, (1, 0), []),
  (.iadd, 1, (0, 0), []),
  (.iaload, 1, (0, 0), []),
  (.aload_n 0, 1, (0, 0), []),
  (.iload_n 3, 1, (0, 0), []),
  (.iconst 2, 1, (2, 0), []),
  (.iadd, 1, (0, 0), []),
  (.iaload, 1, (0, 0), []),
  (.invokevirtual 37, 3, (0, 0), [[2, 2209, 0], [11, 85, 2211, 2210]])]
def qL_law_447 : List mO := [(.aload_n 2, 1, (0, 0), []),
  (.aload_n 0, 1, (0, 0), []),
  (.iload_n 3, 1, (0, 0), []),
  (.iconst 1, 1, (1, 0), []),
  (.iadd, 1, (0, 0), []),
  (.iaload, 1, (0, 0), []),
  (.aload_n 0, 1, (0, 0), []),
  (.iload_n 3, 1, (0, 0), []),
  (.iconst 2, 1, (2, 0), []),
  (.iadd, 1, (0, 0), []),
  (.iaload, 1, (0, 0), []),
  (.invokevirtual 40, 3, (0, 0), [[2, 6044, 0], [12, 176, 6046, 6045]])]
def qL_law_461 : List mO := [(.if_icmp .eq 1561, 3, (0, 0), [[2022]]),
  (.iconst 0, 1, (0, 0), []),
  (.ireturn, 1, (0, 0), [[1]])]
def qL_law_466 : List mO := [(.aload_n 1, 1, (0, 0), []),
  (.aload_n 0, 1, (0, 0), []),
  (.iload_n 3, 1, (0, 0), []),
  (.iconst 1, 1, (1, 0), []),
  (.iadd, 1, (0, 0), []),
  (.iaload, 1, (0, 0), []),
  (.ifCond .eq 7, 3, (0, 0), [[479]]),
  (.iconst 1, 1, (1, 0), []),
  (.goto 4, 3, (0, 0), [[480]])]
def qL_law_479 : List mO := [(.iconst 0, 1, (0, 0), [])]
def qL_law_480 : List mO := [(.invokevirtual 41, 3, (0, 0), [[1, 2213, 0], [11, 86, 2215, 2214]])]
def qL_law_483 : List mO := [(.aload_n 2, 1, (0, 0), []),
  (.aload_n 0, 1, (0, 0), []),
  (.iload_n 3, 1, (0, 0), []),
  (.iconst 1, 1, (1, 0), []),
  (.iadd, 1, (0, 0), []),
  (.iaload, 1, (0, 0), []),
  (.ifCond .eq 7, 3, (0, 0), [[496]]),
  (.iconst 1, 1, (1, 0), []),
  (.goto 4, 3, (0, 0), [[497]])]
def qL_law_496 : List mO := [(.iconst 0, 1, (0, 0), [])]
def qL_law_497 : List mO := [(.invokevirtual 45, 3, (0, 0), [[1, 6050, 0], [12, 177, 6052, 6051]])]
def qL_law_500 : List mO := [(.if_icmp .eq 1522, 3, (0, 0), [[2022]]),
  (.iconst 0, 1, (0, 0), []),
  (.ireturn, 1, (0, 0), [[1]])]
def qL_law_505 : List mO := [(.aload_n 1, 1, (0, 0), []),
  (.aload_n 0, 1, (0, 0), []),
  (.iload_n 3, 1, (0, 0), []),
  (.iconst 1, 1, (1, 0), []),
  (.iadd, 1, (0, 0), []),
  (.iaload, 1, (0, 0), []),
  (.i2l, 1, (0, 0), []),
  (.bipush 32, 2, (32, 0), []),
  (.lshl, 1, (0, 0), []),
  (.aload_n 0, 1, (0, 0), []),
  (.iload_n 3, 1, (0, 0), []),
  (.iconst 2, 1, (2, 0), []),
  (.iadd, 1, (0, 0), []),
  (.iaload, 1, (0, 0), []),
  (.i2l, 1, (0, 0), []),
  (.ldc2_w 46, 3, (0, 4294967295), [[7217]]),
  (.land, 1, (0, 0), []),
  (.lor, 1, (0, 0), []),
  (.aload_n 0, 1, (0, 0), []),
  (.iload_n 3, 1, (0, 0), []),
  (.iconst 3, 1, (3, 0), []),
  (.iadd, 1, (0, 0), []),
  (.iaload, 1, (0, 0), []),
  (.invokevirtual 48, 3, (0, 0), [[2, 2221, 0], [11, 91, 2223, 2222]])]
def qL_law_534 : List mO := [(.aload_n 2, 1, (0, 0), []),
  (.aload_n 0, 1, (0, 0), []),
  (.iload_n 3, 1, (0, 0), []),
  (.iconst 1, 1, (1, 0), []),
  (.iadd, 1, (0, 0), []),
  (.iaload, 1, (0, 0), []),
  (.i2l, 1, (0, 0), []),
  (.bipush 32, 2, (32, 0), []),
  (.lshl, 1, (0, 0), []),
  (.aload_n 0, 1, (0, 0), []),
  (.iload_n 3, 1, (0, 0), []),
  (.iconst 2, 1, (2, 0), []),
  (.iadd, 1, (0, 0), []),
  (.iaload, 1, (0, 0), []),
  (.i2l, 1, (0, 0), []),
  (.ldc2_w 46, 3, (0, 4294967295), [[7217]]),
  (.land, 1, (0, 0), []),
  (.lor, 1, (0, 0), []),
  (.aload_n 0, 1, (0, 0), []),
  (.iload_n 3, 1, (0, 0), []),
  (.iconst 3, 1, (3, 0), []),
  (.iadd, 1, (0, 0), []),
  (.iaload, 1, (0, 0), []),
  (.invokevirtual 52, 3, (0, 0), [[2, 7021, 0], [12, 226, 7023, 7022]])]
def qL_law_563 : List mO := [(.if_icmp .eq 1459, 3, (0, 0), [[2022]]),
  (.iconst 0, 1, (0, 0), []),
  (.ireturn, 1, (0, 0), [[1]])]
def qL_law_568 : List mO := [(.aload_n 1, 1, (0, 0), []),
  (.invokevirtual 53, 3, (0, 0), [[0, 2225, 0], [11, 92, 2227, 2226]])]
def qL_law_572 : List mO := [(.aload_n 2, 1, (0, 0), []),
  (.invokevirtual 57, 3, (0, 0), [[0, 7027, 0], [12, 243, 7029, 7028]])]
def qL_law_576 : List mO := [(.if_icmp .eq 1446, 3, (0, 0), [[2022]]),
  (.iconst 0, 1, (0, 0), []),
  (.ireturn, 1, (0, 0), [[1]])]
def qL_law_581 : List mO := [(.aload_n 1, 1, (0, 0), []),
  (.aload_n 0, 1, (0, 0), []),
  (.iload_n 3, 1, (0, 0), []),
  (.iconst 1, 1, (1, 0), []),
  (.iadd, 1, (0, 0), []),
  (.iaload, 1, (0, 0), []),
  (.aload_n 0, 1, (0, 0), []),
  (.iload_n 3, 1, (0, 0), []),
  (.iconst 2, 1, (2, 0), []),
  (.iadd, 1, (0, 0), []),
  (.iaload, 1, (0, 0), []),
  (.aload_n 0, 1, (0, 0), []),
  (.iload_n 3, 1, (0, 0), []),
  (.iconst 3, 1, (3, 0), []),
  (.iadd, 1, (0, 0), []),
  (.iaload, 1, (0, 0), []),
  (.ifCond .eq 7, 3, (0, 0), [[604]]),
  (.iconst 1, 1, (1, 0), []),
  (.goto 4, 3, (0, 0), [[605]])]
def qL_law_604 : List mO := [(.iconst 0, 1, (0, 0), [])]
def qL_law_605 : List mO := [(.invokevirtual 58, 3, (0, 0), [[3, 3161, 0], [11, 93, 3163, 3162]])]
def qL_law_608 : List mO := [(.aload_n 2, 1, (0, 0), []),
  (.aload_n 0, 1, (0, 0), []),
  (.iload_n 3, 1, (0, 0), []),
  (.iconst 1, 1, (1, 0), []),
  (.iadd, 1, (0, 0), []),
  (.iaload, 1, (0, 0), []),
  (.aload_n 0, 1, (0, 0), []),
  (.iload_n 3, 1, (0, 0), []),
  (.iconst 2, 1, (2, 0), []),
  (.iadd, 1, (0, 0), []),
  (.iaload, 1, (0, 0), []),
  (.aload_n 0, 1, (0, 0), []),
  (.iload_n 3, 1, (0, 0), []),
  (.iconst 3, 1, (3, 0), []),
  (.iadd, 1, (0, 0), []),
  (.iaload, 1, (0, 0), []),
  (.ifCond .eq 7, 3, (0, 0), [[631]]),
  (.iconst 1, 1, (1, 0), []),
  (.goto 4, 3, (0, 0), [[632]])]
def qL_law_631 : List mO := [(.iconst 0, 1, (0, 0), [])]
def qL_law_632 : List mO := [(.invokevirtual 62, 3, (0, 0), [[3, 6054, 0], [12, 183, 6056, 6055]])]
def qL_law_635 : List mO := [(.if_icmp .eq 1387, 3, (0, 0), [[2022]]),
  (.iconst 0, 1, (0, 0), []),
  (.ireturn, 1, (0, 0), [[1]])]
def qL_law_640 : List mO := [(.aload_n 1, 1, (0, 0), []),
  (.aload_n 0, 1, (0, 0), []),
  (.iload_n 3, 1, (0, 0), []),
  (.iconst 1, 1, (1, 0), []),
  (.iadd, 1, (0, 0), []),
  (.iaload, 1, (0, 0), []),
  (.aload_n 0, 1, (0, 0), []),
  (.iload_n 3, 1, (0, 0), []),
  (.iconst 2, 1, (2, 0), []),
  (.iadd, 1, (0, 0), []),
  (.iaload, 1, (0, 0), []),
  (.invokevirtual 63, 3, (0, 0), [[2, 3217, 0], [11, 94, 3219, 3218]])]
def qL_law_654 : List mO := [(.aload_n 2, 1, (0, 0), []),
  (.aload_n 0, 1, (0, 0), []),
  (.iload_n 3, 1, (0, 0), []),
  (.iconst 1, 1, (1, 0), []),
  (.iadd, 1, (0, 0), []),
  (.iaload, 1, (0, 0), []),
  (.aload_n 0, 1, (0, 0), []),
  (.iload_n 3, 1, (0, 0), []),
  (.iconst 2, 1, (2, 0), []),
  (.iadd, 1, (0, 0), []),
  (.iaload, 1, (0, 0), []),
  (.invokevirtual 66, 3, (0, 0), [[2, 6078, 0], [12, 184, 6080, 6079]])]
def qL_law_668 : List mO := [(.if_icmp .eq 1354, 3, (0, 0), [[2022]]),
  (.iconst 0, 1, (0, 0), []),
  (.ireturn, 1, (0, 0), [[1]])]
def qL_law_673 : List mO := [(.aload_n 1, 1, (0, 0), []),
  (.invokevirtual 67, 3, (0, 0), [[0, 3224, 0], [11, 95, 3226, 3225]])]
def qL_law_677 : List mO := [(.aload_n 2, 1, (0, 0), []),
  (.invokevirtual 70, 3, (0, 0), [[0, 6083, 0], [12, 186, 6085, 6084]])]
def qL_law_681 : List mO := [(.if_icmp .eq 1341, 3, (0, 0), [[2022]]),
  (.iconst 0, 1, (0, 0), []),
  (.ireturn, 1, (0, 0), [[1]])]
def qL_law_686 : List mO := [(.aload_n 1, 1, (0, 0), []),
  (.aload_n 0, 1, (0, 0), []),
  (.iload_n 3, 1, (0, 0), []),
  (.iconst 1, 1, (1, 0), []),
  (.iadd, 1, (0, 0), []),
  (.iaload, 1, (0, 0), []),
  (.aload_n 0, 1, (0, 0), []),
  (.iload_n 3, 1, (0, 0), []),
  (.iconst 2, 1, (2, 0), []),
  (.iadd, 1, (0, 0), []),
  (.iaload, 1, (0, 0), []),
  (.aload_n 0, 1, (0, 0), []),
  (.iload_n 3, 1, (0, 0), []),
  (.iconst 3, 1, (3, 0), []),
  (.iadd, 1, (0, 0), []),
  (.iaload, 1, (0, 0), []),
  (.invokevirtual 71, 3, (0, 0), [[3, 3235, 0], [11, 96, 3237, 3236]])]
def qL_law_705 : List mO := [(.aload_n 2, 1, (0, 0), []),
  (.aload_n 0, 1, (0, 0), []),
  (.iload_n 3, 1, (0, 0), []),
  (.iconst 1, 1, (1, 0), []),
  (.iadd, 1, (0, 0), []),
  (.iaload, 1, (0, 0), []),
  (.aload_n 0, 1, (0, 0), []),
  (.iload_n 3, 1, (0, 0), []),
  (.iconst 2, 1, (2, 0), []),
  (.iadd, 1, (0, 0), []),
  (.iaload, 1, (0, 0), []),
  (.aload_n 0, 1, (0, 0), []),
  (.iload_n 3, 1, (0, 0), []),
  (.iconst 3, 1, (3, 0), []),
  (.iadd, 1, (0, 0), []),
  (.iaload, 1, (0, 0), []),
  (.invokevirtual 74, 3, (0, 0), [[3, 6091, 0], [12, 188, 6093, 6092]])]
def qL_law_724 : List mO := [(.if_icmp .eq 1298, 3, (0, 0), [[2022]]),
  (.iconst 0, 1, (0, 0), []),
  (.ireturn, 1, (0, 0), [[1]])]
def qL_law_729 : List mO := [(.aload_n 1, 1, (0, 0), []),
  (.aload_n 0, 1, (0, 0), []),
  (.iload_n 3, 1, (0, 0), []),
  (.iconst 1, 1, (1, 0), []),
  (.iadd, 1, (0, 0), []),
  (.iaload, 1, (0, 0), []),
  (.aload_n 0, 1, (0, 0), []),
  (.iload_n 3, 1, (0, 0), []),
  (.iconst 2, 1, (2, 0), []),
  (.iadd, 1, (0, 0), []),
  (.iaload, 1, (0, 0), []),
  (.aload_n 0, 1, (0, 0), []),
  (.iload_n 3, 1, (0, 0), []),
  (.iconst 3, 1, (3, 0), []),
  (.iadd, 1, (0, 0), []),
  (.iaload, 1, (0, 0), []),
  (.invokevirtual 75, 3, (0, 0), [[3, 4007, 0], [11, 97, 4009, 4008]])]
def qL_law_748 : List mO := [(.aload_n 2, 1, (0, 0), []),
  (.aload_n 0, 1, (0, 0), []),
  (.iload_n 3, 1, (0, 0), []),
  (.iconst 1, 1, (1, 0), []),
  (.iadd, 1, (0, 0), []),
  (.iaload, 1, (0, 0), []),
  (.aload_n 0, 1, (0, 0), []),
  (.iload_n 3, 1, (0, 0), []),
  (.iconst 2, 1, (2, 0), []),
  (.iadd, 1, (0, 0), []),
  (.iaload, 1, (0, 0), []),
  (.aload_n 0, 1, (0, 0), []),
  (.iload_n 3, 1, (0, 0), []),
  (.iconst 3, 1, (3, 0), []),
  (.iadd, 1, (0, 0), []),
  (.iaload, 1, (0, 0), []),
  (.invokevirtual 78, 3, (0, 0), [[3, 6103, 0], [12, 189, 6105, 6104]])]
def qL_law_767 : List mO := [(.if_icmp .eq 1255, 3, (0, 0), [[2022]]),
  (.iconst 0, 1, (0, 0), []),
  (.ireturn, 1, (0, 0), [[1]])]
def qL_law_772 : List mO := [(.aload_n 1, 1, (0, 0), []),
  (.aload_n 0, 1, (0, 0), []),
  (.iload_n 3, 1, (0, 0), []),
  (.iconst 1, 1, (1, 0), []),
  (.iadd, 1, (0, 0), []),
  (.iaload, 1, (0, 0), []),
  (.aload_n 0, 1, (0, 0), []),
  (.iload_n 3, 1, (0, 0), []),
  (.iconst 2, 1, (2, 0), []),
  (.iadd, 1, (0, 0), []),
  (.iaload, 1, (0, 0), []),
  (.aload_n 0, 1, (0, 0), []),
  (.iload_n 3, 1, (0, 0), []),
  (.iconst 3, 1, (3, 0), []),
  (.iadd, 1, (0, 0), []),
  (.iaload, 1, (0, 0), []),
  (.invokevirtual 79, 3, (0, 0), [[3, 4011, 0], [11, 98, 4013, 4012]])]
def qL_law_791 : List mO := [(.aload_n 2, 1, (0, 0), []),
  (.aload_n 0, 1, (0, 0), []),
  (.iload_n 3, 1, (0, 0), []),
  (.iconst 1, 1, (1, 0), []),
  (.iadd, 1, (0, 0), []),
  (.iaload, 1, (0, 0), []),
  (.aload_n 0, 1, (0, 0), []),
  (.iload_n 3, 1, (0, 0), []),
  (.iconst 2, 1, (2, 0), []),
  (.iadd, 1, (0, 0), []),
  (.iaload, 1, (0, 0), []),
  (.aload_n 0, 1, (0, 0), []),
  (.iload_n 3, 1, (0, 0), []),
  (.iconst 3, 1, (3, 0), []),
  (.iadd, 1, (0, 0), []),
  (.iaload, 1, (0, 0), []),
  (.invokevirtual 82, 3, (0, 0), [[3, 6107, 0], [12, 190, 6109, 6108]])]
def qL_law_810 : List mO := [(.if_icmp .eq 1212, 3, (0, 0), [[2022]]),
  (.iconst 0, 1, (0, 0), []),
  (.ireturn, 1, (0, 0), [[1]])]
def qL_law_815 : List mO := [(.aload_n 1, 1, (0, 0), []),
  (.aload_n 0, 1, (0, 0), []),
  (.iload_n 3, 1, (0, 0), []),
  (.iconst 1, 1, (1, 0), []),
  (.iadd, 1, (0, 0), []),
  (.iaload, 1, (0, 0), []),
  (.aload_n 0, 1, (0, 0), []),
  (.iload_n 3, 1, (0, 0), []),
  (.iconst 2, 1, (2, 0), []),
  (.iadd, 1, (0, 0), []),
  (.iaload, 1, (0, 0), []),
  (.invokevirtual 83, 3, (0, 0), [[2, 4019, 0], [11, 99, 4021, 4020]])]
def qL_law_829 : List mO := [(.aload_n 2, 1, (0, 0), []),
  (.aload_n 0, 1, (0, 0), []),
  (.iload_n 3, 1, (0, 0), []),
  (.iconst 1, 1, (1, 0), []),
  (.iadd, 1, (0, 0), []),
  (.iaload, 1, (0, 0), []),
  (.aload_n 0, 1, (0, 0), []),
  (.iload_n 3, 1, (0, 0), []),
  (.iconst 2, 1, (2, 0), []),
  (.iadd, 1, (0, 0), []),
  (.iaload, 1, (0, 0), []),
  (.invokevirtual 86, 3, (0, 0), [[2, 6115, 0], [12, 191, 6117, 6116]])]
def qL_law_843 : List mO := [(.if_icmp .eq 1179, 3, (0, 0), [[2022]]),
  (.iconst 0, 1, (0, 0), []),
  (.ireturn, 1, (0, 0), [[1]])]
def qL_law_848 : List mO := [(.aload_n 1, 1, (0, 0), []),
  (.aload_n 0, 1, (0, 0), []),
  (.iload_n 3, 1, (0, 0), []),
  (.iconst 1, 1, (1, 0), []),
  (.iadd, 1, (0, 0), []),
  (.iaload, 1, (0, 0), []),
  (.aload_n 0, 1, (0, 0), []),
  (.iload_n 3, 1, (0, 0), []),
  (.iconst 2, 1, (2, 0), []),
  (.iadd, 1, (0, 0), []),
  (.iaload, 1, (0, 0), []),
  (.aload_n 0, 1, (0, 0), []),
  (.iload_n 3, 1, (0, 0), []),
  (.iconst 3, 1, (3, 0), []),
  (.iadd, 1, (0, 0), []),
  (.iaload, 1, (0, 0), []),
  (.invokevirtual 87, 3, (0, 0), [[3, 4031, 0], [11, 100, 4033, 4032]])]
def qL_law_867 : List mO := [(.aload_n 2, 1, (0, 0), []),
  (.aload_n 0, 1, (0, 0), []),
  (.iload_n 3, 1, (0, 0), []),
  (.iconst 1, 1, (1, 0), []),
  (.iadd, 1, (0, 0), []),
  (.iaload, 1, (0, 0), []),
  (.aload_n 0, 1, (0, 0), []),
  (.iload_n 3, 1, (0, 0), []),
  (.iconst 2, 1, (2, 0), []),
  (.iadd, 1, (0, 0), []),
  (.iaload, 1, (0, 0), []),
  (.aload_n 0, 1, (0, 0), []),
  (.iload_n 3, 1, (0, 0), []),
  (.iconst 3, 1, (3, 0), []),
  (.iadd, 1, (0, 0), []),
  (.iaload, 1, (0, 0), []),
  (.invokevirtual 90, 3, (0, 0), [[3, 6122, 0], [12, 192, 6124, 6123]])]
def qL_law_886 : List mO := [(.if_icmp .eq 1136, 3, (0, 0), [[2022]]),
  (.iconst 0, 1, (0, 0), []),
  (.ireturn, 1, (0, 0), [[1]])]
def qL_law_891 : List mO := [(.aload_n 1, 1, (0, 0), []),
  (.aload_n 0, 1, (0, 0), []),
  (.iload_n 3, 1, (0, 0), []),
  (.iconst 1, 1, (1, 0), []),
  (.iadd, 1, (0, 0), []),
  (.iaload, 1, (0, 0), []),
  (.aload_n 0, 1, (0, 0), []),
  (.iload_n 3, 1, (0, 0), []),
  (.iconst 2, 1, (2, 0), []),
  (.iadd, 1, (0, 0), []),
  (.iaload, 1, (0, 0), []),
  (.aload_n 0, 1, (0, 0), []),
  (.iload_n 3, 1, (0, 0), []),
  (.iconst 3, 1, (3, 0), []),
  (.iadd, 1, (0, 0), []),
  (.iaload, 1, (0, 0), []),
  (.invokevirtual 91, 3, (0, 0), [[3, 4038, 0], [11, 101, 4040, 4039]])]
def qL_law_910 : List mO := [(.aload_n 2, 1, (0, 0), []),
  (.aload_n 0, 1, (0, 0), []),
  (.iload_n 3, 1, (0, 0), []),
  (.iconst 1, 1, (1, 0), []),
  (.iadd, 1, (0, 0), []),
  (.iaload, 1, (0, 0), []),
  (.aload_n 0, 1, (0, 0), []),
  (.iload_n 3, 1, (0, 0), []),
  (.iconst 2, 1, (2, 0), []),
  (.iadd, 1, (0, 0), []),
  (.iaload, 1, (0, 0), []),
  (.aload_n 0, 1, (0, 0), []),
  (.iload_n 3, 1, (0, 0), []),
  (.iconst 3, 1, (3, 0), []),
  (.iadd, 1, (0, 0), []),
  (.iaload, 1, (0, 0), []),
  (.invokevirtual 94, 3, (0, 0), [[3, 6127, 0], [12, 194, 6129, 6128]])]
def qL_law_929 : List mO := [(.if_icmp .eq 1093, 3, (0, 0), [[2022]]),
  (.iconst 0, 1, (0, 0), []),
  (.ireturn, 1, (0, 0), [[1]])]
def qL_law_934 : List mO := [(.aload_n 1, 1, (0, 0), []),
  (.aload_n 0, 1, (0, 0), []),
  (.iload_n 3, 1, (0, 0), []),
  (.iconst 1, 1, (1, 0), []),
  (.iadd, 1, (0, 0), []),
  (.iaload, 1, (0, 0), []),
  (.aload_n 0, 1, (0, 0), []),
  (.iload_n 3, 1, (0, 0), []),
  (.iconst 2, 1, (2, 0), []),
  (.iadd, 1, (0, 0), []),
  (.iaload, 1, (0, 0), []),
  (.invokevirtual 95, 3, (0, 0), [[2, 4054, 0], [11, 102, 4056, 4055]])]
def qL_law_948 : List mO := [(.aload_n 2, 1, (0, 0), []),
  (.aload_n 0, 1, (0, 0), []),
  (.iload_n 3, 1, (0, 0), []),
  (.iconst 1, 1, (1, 0), []),
  (.iadd, 1, (0, 0), []),
  (.iaload, 1, (0, 0), []),
  (.aload_n 0, 1, (0, 0), []),
  (.iload_n 3, 1, (0, 0), []),
  (.iconst 2, 1, (2, 0), []),
  (.iadd, 1, (0, 0), []),
  (.iaload, 1, (0, 0), []),
  (.invokevirtual 98, 3, (0, 0), [[2, 6135, 0], [12, 196, 6137, 6136]])]
def qL_law_962 : List mO := [(.if_icmp .eq 1060, 3, (0, 0), [[2022]]),
  (.iconst 0, 1, (0, 0), []),
  (.ireturn, 1, (0, 0), [[1]])]
def qL_law_967 : List mO := [(.aload_n 1, 1, (0, 0), []),
  (.aload_n 0, 1, (0, 0), []),
  (.iload_n 3, 1, (0, 0), []),
  (.iconst 1, 1, (1, 0), []),
  (.iadd, 1, (0, 0), []),
  (.iaload, 1, (0, 0), []),
  (.aload_n 0, 1, (0, 0), []),
  (.iload_n 3, 1, (0, 0), []),
  (.iconst 2, 1, (2, 0), []),
  (.iadd, 1, (0, 0), []),
  (.iaload, 1, (0, 0), []),
  (.invokevirtual 99, 3, (0, 0), [[2, 4068, 0], [11, 103, 4070, 4069]])]
def qL_law_981 : List mO := [(.aload_n 2, 1, (0, 0), []),
  (.aload_n 0, 1, (0, 0), []),
  (.iload_n 3, 1, (0, 0), []),
  (.iconst 1, 1, (1, 0), []),
  (.iadd, 1, (0, 0), []),
  (.iaload, 1, (0, 0), []),
  (.aload_n 0, 1, (0, 0), []),
  (.iload_n 3, 1, (0, 0), []),
  (.iconst 2, 1, (2, 0), []),
  (.iadd, 1, (0, 0), []),
  (.iaload, 1, (0, 0), []),
  (.invokevirtual 102, 3, (0, 0), [[2, 6143, 0], [12, 198, 6145, 6144]])]
def qL_law_995 : List mO := [(.if_icmp .eq 1027, 3, (0, 0), [[2022]]),
  (.iconst 0, 1, (0, 0), []),
  (.ireturn, 1, (0, 0), [[1]])]
def qL_law_1000 : List mO := [(.aload_n 1, 1, (0, 0), []),
  (.aload_n 0, 1, (0, 0), []),
  (.iload_n 3, 1, (0, 0), []),
  (.iconst 1, 1, (1, 0), []),
  (.iadd, 1, (0, 0), []),
  (.iaload, 1, (0, 0), []),
  (.aload_n 0, 1, (0, 0), []),
  (.iload_n 3, 1, (0, 0), []),
  (.iconst 2, 1, (2, 0), []),
  (.iadd, 1, (0, 0), []),
  (.iaload, 1, (0, 0), []),
  (.invokevirtual 103, 3, (0, 0), [[2, 4078, 0], [11, 104, 4080, 4079]])]
def qL_law_1014 : List mO := [(.aload_n 2, 1, (0, 0), []),
  (.aload_n 0, 1, (0, 0), []),
  (.iload_n 3, 1, (0, 0), []),
  (.iconst 1, 1, (1, 0), []),
  (.iadd, 1, (0, 0), []),
  (.iaload, 1, (0, 0), []),
  (.aload_n 0, 1, (0, 0), []),
  (.iload_n 3, 1, (0, 0), []),
  (.iconst 2, 1, (2, 0), []),
  (.iadd, 1, (0, 0), []),
  (.iaload, 1, (0, 0), []),
  (.invokevirtual 106, 3, (0, 0), [[2, 6150, 0], [12, 199, 6152, 6151]])]
def qL_law_1028 : List mO := [(.if_icmp .eq 994, 3, (0, 0), [[2022]]),
  (.iconst 0, 1, (0, 0), []),
  (.ireturn, 1, (0, 0), [[1]])]
def qL_law_1033 : List mO := [(.aload_n 1, 1, (0, 0), []),
  (.aload_n 0, 1, (0, 0), []),
  (.iload_n 3, 1, (0, 0), []),
  (.iconst 1, 1, (1, 0), []),
  (.iadd, 1, (0, 0), []),
  (.iaload, 1, (0, 0), []),
  (.aload_n 0, 1, (0, 0), []),
  (.iload_n 3, 1, (0, 0), []),
  (.iconst 2, 1, (2, 0), []),
  (.iadd, 1, (0, 0), []),
  (.iaload, 1, (0, 0), []),
  (.invokevirtual 107, 3, (0, 0), [[2, 4082, 0], [11, 105, 4084, 4083]])]
def qL_law_1047 : List mO := [(.aload_n 2, 1, (0, 0), []),
  (.aload_n 0, 1, (0, 0), []),
  (.iload_n 3, 1, (0, 0), []),
  (.iconst 1, 1, (1, 0), []),
  (.iadd, 1, (0, 0), []),
  (.iaload, 1, (0, 0), []),
  (.aload_n 0, 1, (0, 0), []),
  (.iload_n 3, 1, (0, 0), []),
  (.iconst 2, 1, (2, 0), []),
  (.iadd, 1, (0, 0), []),
  (.iaload, 1, (0, 0), []),
  (.invokevirtual 110, 3, (0, 0), [[2, 6154, 0], [12, 202, 6156, 6155]])]
def qL_law_1061 : List mO := [(.if_icmp .eq 961, 3, (0, 0), [[2022]]),
  (.iconst 0, 1, (0, 0), []),
  (.ireturn, 1, (0, 0), [[1]])]
def qL_law_1066 : List mO := [(.aload_n 1, 1, (0, 0), []),
  (.aload_n 0, 1, (0, 0), []),
  (.iload_n 3, 1, (0, 0), []),
  (.iconst 1, 1, (1, 0), []),
  (.iadd, 1, (0, 0), []),
  (.iaload, 1, (0, 0), []),
  (.invokevirtual 111, 3, (0, 0), [[1, 4090, 0], [11, 106, 4092, 4091]])]
def qL_law_1075 : List mO := [(.aload_n 2, 1, (0, 0), []),
  (.aload_n 0, 1, (0, 0), []),
  (.iload_n 3, 1, (0, 0), []),
  (.iconst 1, 1, (1, 0), []),
  (.iadd, 1, (0, 0), []),
  (.iaload, 1, (0, 0), []),
  (.invokevirtual 114, 3, (0, 0), [[1, 6166, 0], [12, 203, 6168, 6167]])]
def qL_law_1084 : List mO := [(.if_icmp .eq 938, 3, (0, 0), [[2022]]),
  (.iconst 0, 1, (0, 0), []),
  (.ireturn, 1, (0, 0), [[1]])]
def qL_law_1089 : List mO := [(.aload_n 1, 1, (0, 0), []),
  (.aload_n 0, 1, (0, 0), []),
  (.iload_n 3, 1, (0, 0), []),
  (.iconst 1, 1, (1, 0), []),
  (.iadd, 1, (0, 0), []),
  (.iaload, 1, (0, 0), []),
  (.aload_n 0, 1, (0, 0), []),
  (.iload_n 3, 1, (0, 0), []),
  (.iconst 2, 1, (2, 0), []),
  (.iadd, 1, (0, 0), []),
  (.iaload, 1, (0, 0), []),
  (.aload_n 0, 1, (0, 0), []),
  (.iload_n 3, 1, (0, 0), []),
  (.iconst 3, 1, (3, 0), []),
  (.iadd, 1, (0, 0), []),
  (.iaload, 1, (0, 0), []),
  (.invokevirtual 115, 3, (0, 0), [[3, 4094, 0], [11, 107, 4096, 4095]])]
def qL_law_1108 : List mO := [(.aload_n 2, 1, (0, 0), []),
  (.aload_n 0, 1, (0, 0), []),
  (.iload_n 3, 1, (0, 0), []),
  (.iconst 1, 1, (1, 0), []),
  (.iadd, 1, (0, 0), []),
  (.iaload, 1, (0, 0), []),
  (.aload_n 0, 1, (0, 0), []),
  (.iload_n 3, 1, (0, 0), []),
  (.iconst 2, 1, (2, 0), []),
  (.iadd, 1, (0, 0), []),
  (.iaload, 1, (0, 0), []),
  (.aload_n 0, 1, (0, 0), []),
  (.iload_n 3, 1, (0, 0), []),
  (.iconst 3, 1, (3, 0), []),
  (.iadd, 1, (0, 0), []),
  (.iaload, 1, (0, 0), []),
  (.invokevirtual 118, 3, (0, 0), [[3, 6170, 0], [12, 204, 6172, 6171]])]
def qL_law_1127 : List mO := [(.if_icmp .eq 895, 3, (0, 0), [[2022]]),
  (.iconst 0, 1, (0, 0), []),
  (.ireturn, 1, (0, 0), [[1]])]
def qL_law_1132 : List mO := [(.aload_n 1, 1, (0, 0), []),
  (.aload_n 0, 1, (0, 0), []),
  (.iload_n 3, 1, (0, 0), []),
  (.iconst 1, 1, (1, 0), []),
  (.iadd, 1, (0, 0), []),
  (.iaload, 1, (0, 0), []),
  (.aload_n 0, 1, (0, 0), []),
  (.iload_n 3, 1, (0, 0), []),
  (.iconst 2, 1, (2, 0), []),
  (.iadd, 1, (0, 0), []),
  (.iaload, 1, (0, 0), []),
  (.invokevirtual 119, 3, (0, 0), [[2, 4101, 0], [11, 108, 4103, 4102]])]
def qL_law_1146 : List mO := [(.aload_n 2, 1, (0, 0), []),
  (.aload_n 0, 1, (0, 0), []),
  (.iload_n 3, 1, (0, 0), []),
  (.iconst 1, 1, (1, 0), []),
  (.iadd, 1, (0, 0), []),
  (.iaload, 1, (0, 0), []),
  (.aload_n 0, 1, (0, 0), []),
  (.iload_n 3, 1, (0, 0), []),
  (.iconst 2, 1, (2, 0), []),
  (.iadd, 1, (0, 0), []),
  (.iaload, 1, (0, 0), []),
  (.invokevirtual 122, 3, (0, 0), [[2, 6174, 0], [12, 206, 6176, 6175]])]
def qL_law_1160 : List mO := [(.if_icmp .eq 862, 3, (0, 0), [[2022]]),
  (.iconst 0, 1, (0, 0), []),
  (.ireturn, 1, (0, 0), [[1]])]
def qL_law_1165 : List mO := [(.aload_n 1, 1, (0, 0), []),
  (.aload_n 0, 1, (0, 0), []),
  (.iload_n 3, 1, (0, 0), []),
  (.iconst 1, 1, (1, 0), []),
  (.iadd, 1, (0, 0), []),
  (.iaload, 1, (0, 0), []),
  (.aload_n 0, 1, (0, 0), []),
  (.iload_n 3, 1, (0, 0), []),
  (.iconst 2, 1, (2, 0), []),
  (.iadd, 1, (0, 0), []),
  (.iaload, 1, (0, 0), []),
  (.aload_n 0, 1, (0, 0), []),
  (.iload_n 3, 1, (0, 0), []),
  (.iconst 3, 1, (3, 0), []),
  (.iadd, 1, (0, 0), []),
  (.iaload, 1, (0, 0), []),
  (.invokevirtual 123, 3, (0, 0), [[3, 4109, 0], [11, 109, 4111, 4110]])]
def qL_law_1184 : List mO := [(.aload_n 2, 1, (0, 0), []),
  (.aload_n 0, 1, (0, 0), []),
  (.iload_n 3, 1, (0, 0), []),
  (.iconst 1, 1, (1, 0), []),
  (.iadd, 1, (0, 0), []),
  (.iaload, 1, (0, 0), []),
  (.aload_n 0, 1, (0, 0), []),
  (.iload_n 3, 1, (0, 0), []),
  (.iconst 2, 1, (2, 0), []),
  (.iadd, 1, (0, 0), []),
  (.iaload, 1, (0, 0), []),
  (.aload_n 0, 1, (0, 0), []),
  (.iload_n 3, 1, (0, 0), []),
  (.iconst 3, 1, (3, 0), []),
  (.iadd, 1, (0, 0), []),
  (.iaload, 1, (0, 0), []),
  (.invokevirtual 126, 3, (0, 0), [[3, 6182, 0], [12, 207, 6184, 6183]])]
def qL_law_1203 : List mO := [(.if_icmp .eq 819, 3, (0, 0), [[2022]]),
  (.iconst 0, 1, (0, 0), []),
  (.ireturn, 1, (0, 0), [[1]])]
def qL_law_1208 : List mO := [(.aload_n 1, 1, (0, 0), []),
  (.aload_n 0, 1, (0, 0), []),
  (.iload_n 3, 1, (0, 0), []),
  (.iconst 1, 1, (1, 0), []),
  (.iadd, 1, (0, 0), []),
  (.iaload, 1, (0, 0), []),
  (.aload_n 0, 1, (0, 0), []),
  (.iload_n 3, 1, (0, 0), []),
  (.iconst 2, 1, (2, 0), []),
  (.iadd, 1, (0, 0), []),
  (.iaload, 1, (0, 0), []),
  (.aload_n 0, 1, (0, 0), []),
  (.iload_n 3, 1, (0, 0), []),
  (.iconst 3, 1, (3, 0), []),
  (.iadd, 1, (0, 0), []),
  (.iaload, 1, (0, 0), []),
  (.invokevirtual 127, 3, (0, 0), [[3, 4113, 0], [11, 110, 4115, 4114]])]
def qL_law_1227 : List mO := [(.aload_n 2, 1, (0, 0), []),
  (.aload_n 0, 1, (0, 0), []),
  (.iload_n 3, 1, (0, 0), []),
  (.iconst 1, 1, (1, 0), []),
  (.iadd, 1, (0, 0), []),
  (.iaload, 1, (0, 0), []),
  (.aload_n 0, 1, (0, 0), []),
  (.iload_n 3, 1, (0, 0), []),
  (.iconst 2, 1, (2, 0), []),
  (.iadd, 1, (0, 0), []),
  (.iaload, 1, (0, 0), []),
  (.aload_n 0, 1, (0, 0), []),
  (.iload_n 3, 1, (0, 0), []),
  (.iconst 3, 1, (3, 0), []),
  (.iadd, 1, (0, 0), []),
  (.iaload, 1, (0, 0), []),
  (.invokevirtual 130, 3, (0, 0), [[3, 6186, 0], [12, 208, 6188, 6187]])]
def qL_law_1246 : List mO := [(.if_icmp .eq 776, 3, (0, 0), [[2022]]),
  (.iconst 0, 1, (0, 0), []),
  (.ireturn, 1, (0, 0), [[1]])]
def qL_law_1251 : List mO := [(.aload_n 1, 1, (0, 0), []),
  (.aload_n 0, 1, (0, 0), []),
  (.iload_n 3, 1, (0, 0), []),
  (.iconst 1, 1, (1, 0), []),
  (.iadd, 1, (0, 0), []),
  (.iaload, 1, (0, 0), []),
  (.invokevirtual 131, 3, (0, 0), [[1, 4117, 0], [11, 111, 4119, 4118]])]
def qL_law_1260 : List mO := [(.aload_n 2, 1, (0, 0), []),
  (.aload_n 0, 1, (0, 0), []),
  (.iload_n 3, 1, (0, 0), []),
  (.iconst 1, 1, (1, 0), []),
  (.iadd, 1, (0, 0), []),
  (.iaload, 1, (0, 0), []),
  (.invokevirtual 134, 3, (0, 0), [[1, 6190, 0], [12, 209, 6192, 6191]])]
def qL_law_1269 : List mO := [(.if_icmp .eq 753, 3, (0, 0), [[2022]]),
  (.iconst 0, 1, (0, 0), []),
  (.ireturn, 1, (0, 0), [[1]])]
def qL_law_1274 : List mO := [(.aload_n 1, 1, (0, 0), []),
  (.aload_n 0, 1, (0, 0), []),
  (.iload_n 3, 1, (0, 0), []),
  (.iconst 1, 1, (1, 0), []),
  (.iadd, 1, (0, 0), []),
  (.iaload, 1, (0, 0), []),
  (.invokevirtual 135, 3, (0, 0), [[1, 4121, 0], [11, 112, 4123, 4122]])]
def qL_law_1283 : List mO := [(.aload_n 2, 1, (0, 0), []),
  (.aload_n 0, 1, (0, 0), []),
  (.iload_n 3, 1, (0, 0), []),
  (.iconst 1, 1, (1, 0), []),
  (.iadd, 1, (0, 0), []),
  (.iaload, 1, (0, 0), []),
  (.invokevirtual 138, 3, (0, 0), [[1, 6194, 0], [12, 211, 6196, 6195]])]
def qL_law_1292 : List mO := [(.if_icmp .eq 730, 3, (0, 0), [[2022]]),
  (.iconst 0, 1, (0, 0), []),
  (.ireturn, 1, (0, 0), [[1]])]
def qL_law_1297 : List mO := [(.aload_n 1, 1, (0, 0), []),
  (.aload_n 0, 1, (0, 0), []),
  (.iload_n 3, 1, (0, 0), []),
  (.iconst 1, 1, (1, 0), []),
  (.iadd, 1, (0, 0), []),
  (.iaload, 1, (0, 0), []),
  (.aload_n 0, 1, (0, 0), []),
  (.iload_n 3, 1, (0, 0), []),
  (.iconst 2, 1, (2, 0), []),
  (.iadd, 1, (0, 0), []),
  (.iaload, 1, (0, 0), []),
  (.aload_n 0, 1, (0, 0), []),
  (.iload_n 3, 1, (0, 0), []),
  (.iconst 3, 1, (3, 0), []),
  (.iadd, 1, (0, 0), []),
  (.iaload, 1, (0, 0), []),
  (.aload_n 0, 1, (0, 0), []),
  (.iload_n 3, 1, (0, 0), []),
  (.iconst 4, 1, (4, 0), []),
  (.iadd, 1, (0, 0), []),
  (.iaload, 1, (0, 0), []),
  (.invokevirtual 139, 3, (0, 0), [[4, 4132, 0], [11, 113, 4134, 4133]])]
def qL_law_1321 : List mO := [(.aload_n 2, 1, (0, 0), []),
  (.aload_n 0, 1, (0, 0), []),
  (.iload_n 3, 1, (0, 0), []),
  (.iconst 1, 1, (1, 0), []),
  (.iadd, 1, (0, 0), []),
  (.iaload, 1, (0, 0), []),
  (.aload_n 0, 1, (0, 0), []),
  (.iload_n 3, 1, (0, 0), []),
  (.iconst 2, 1, (2, 0), []),
  (.iadd, 1, (0, 0), []),
  (.iaload, 1, (0, 0), []),
  (.aload_n 0, 1, (0, 0), []),
  (.iload_n 3, 1, (0, 0), []),
  (.iconst 3, 1, (3, 0), []),
  (.iadd, 1, (0, 0), []),
  (.iaload, 1, (0, 0), []),
  (.aload_n 0, 1, (0, 0), []),
  (.iload_n 3, 1, (0, 0), []),
  (.iconst 4, 1, (4, 0), []),
  (.iadd, 1, (0, 0), []),
  (.iaload, 1, (0, 0), []),
  (.invokevirtual 142, 3, (0, 0), [[4, 6203, 0], [12, 212, 6205, 6204]])]
def qL_law_1345 : List mO := [(.if_icmp .eq 677, 3, (0, 0), [[2022]]),
  (.iconst 0, 1, (0, 0), []),
  (.ireturn, 1, (0, 0), [[1]])]
def qL_law_1350 : List mO := [(.aload_n 1, 1, (0, 0), []),
  (.aload_n 0, 1, (0, 0), []),
  (.iload_n 3, 1, (0, 0), []),
  (.iconst 1, 1, (1, 0), []),
  (.iadd, 1, (0, 0), []),
  (.iaload, 1, (0, 0), []),
  (.aload_n 0, 1, (0, 0), []),
  (.iload_n 3, 1, (0, 0), []),
  (.iconst 2, 1, (2, 0), []),
  (.iadd, 1, (0, 0), []),
  (.iaload, 1, (0, 0), []),
  (.invokevirtual 143, 3, (0, 0), [[2, 4136, 0], [11, 114, 4138, 4137]])]
def qL_law_1364 : List mO := [(.aload_n 2, 1, (0, 0), []),
  (.aload_n 0, 1, (0, 0), []),
  (.iload_n 3, 1, (0, 0), []),
  (.iconst 1, 1, (1, 0), []),
  (.iadd, 1, (0, 0), []),
  (.iaload, 1, (0, 0), []),
  (.aload_n 0, 1, (0, 0), []),
  (.iload_n 3, 1, (0, 0), []),
  (.iconst 2, 1, (2, 0), []),
  (.iadd, 1, (0, 0), []),
  (.iaload, 1, (0, 0), []),
  (.invokevirtual 146, 3, (0, 0), [[2, 6208, 0], [12, 213, 6210, 6209]])]
def qL_law_1378 : List mO := [(.if_icmp .eq 644, 3, (0, 0), [[2022]]),
  (.iconst 0, 1, (0, 0), []),
  (.ireturn, 1, (0, 0), [[1]])]
def qL_law_1383 : List mO := [(.aload_n 1, 1, (0, 0), []),
  (.aload_n 0, 1, (0, 0), []),
  (.iload_n 3, 1, (0, 0), []),
  (.iconst 1, 1, (1, 0), []),
  (.iadd, 1, (0, 0), []),
  (.iaload, 1, (0, 0), []),
  (.aload_n 0, 1, (0, 0), []),
  (.iload_n 3, 1, (0, 0), []),
  (.iconst 2, 1, (2, 0), []),
  (.iadd, 1, (0, 0), []),
  (.iaload, 1, (0, 0), []),
  (.invokevirtual 147, 3, (0, 0), [[2, 4140, 0], [11, 126, 4142, 4141]])]
def qL_law_1397 : List mO := [(.aload_n 2, 1, (0, 0), []),
  (.aload_n 0, 1, (0, 0), []),
  (.iload_n 3, 1, (0, 0), []),
  (.iconst 1, 1, (1, 0), []),
  (.iadd, 1, (0, 0), []),
  (.iaload, 1, (0, 0), []),
  (.aload_n 0, 1, (0, 0), []),
  (.iload_n 3, 1, (0, 0), []),
  (.iconst 2, 1, (2, 0), []),
  (.iadd, 1, (0, 0), []),
  (.iaload, 1, (0, 0), []),
  (.invokevirtual 150, 3, (0, 0), [[2, 6212, 0], [12, 214, 6214, 6213]])]
def qL_law_1411 : List mO := [(.if_icmp .eq 611, 3, (0, 0), [[2022]]),
  (.iconst 0, 1, (0, 0), []),
  (.ireturn, 1, (0, 0), [[1]])]
def qL_law_1416 : List mO := [(.aload_n 1, 1, (0, 0), []),
  (.invokevirtual 151, 3, (0, 0), [[0, 4144, 0], [11, 127, 4146, 4145]])]
def qL_law_1420 : List mO := [(.aload_n 2, 1, (0, 0), []),
  (.invokevirtual 154, 3, (0, 0), [[0, 6216, 0], [12, 215, 6218, 6217]])]
def qL_law_1424 : List mO := [(.if_icmp .eq 598, 3, (0, 0), [[2022]]),
  (.iconst 0, 1, (0, 0), []),
  (.ireturn, 1, (0, 0), [[1]])]
def qL_law_1429 : List mO := [(.aload_n 1, 1, (0, 0), []),
  (.aload_n 0, 1, (0, 0), []),
  (.iload_n 3, 1, (0, 0), []),
  (.iconst 1, 1, (1, 0), []),
  (.iadd, 1, (0, 0), []),
  (.iaload, 1, (0, 0), []),
  (.aload_n 0, 1, (0, 0), []),
  (.iload_n 3, 1, (0, 0), []),
  (.iconst 2, 1, (2, 0), []),
  (.iadd, 1, (0, 0), []),
  (.iaload, 1, (0, 0), []),
  (.invokevirtual 155, 3, (0, 0), [[2, 4148, 0], [11, 128, 4150, 4149]])]
def qL_law_1443 : List mO := [(.aload_n 2, 1, (0, 0), []),
  (.aload_n 0, 1, (0, 0), []),
  (.iload_n 3, 1, (0, 0), []),
  (.iconst 1, 1, (1, 0), []),
  (.iadd, 1, (0, 0), []),
  (.iaload, 1, (0, 0), []),
  (.aload_n 0, 1, (0, 0), []),
  (.iload_n 3, 1, (0, 0), []),
  (.iconst 2, 1, (2, 0), []),
  (.iadd, 1, (0, 0), []),
  (.iaload, 1, (0, 0), []),
  (.invokevirtual 158, 3, (0, 0), [[2, 6220, 0], [12, 218, 6222, 6221]])]
def qL_law_1457 : List mO := [(.if_icmp .eq 565, 3, (0, 0), [[2022]]),
  (.iconst 0, 1, (0, 0), []),
  (.ireturn, 1, (0, 0), [[1]])]
def qL_law_1462 : List mO := [(.aload_n 1, 1, (0, 0), []),
  (.aload_n 0, 1, (0, 0), []),
  (.iload_n 3, 1, (0, 0), []),
  (.iconst 1, 1, (1, 0), []),
  (.iadd, 1, (0, 0), []),
  (.iaload, 1, (0, 0), []),
  (.invokevirtual 159, 3, (0, 0), [[1, 4156, 0], [11, 129, 4158, 4157]])]
def qL_law_1471 : List mO := [(.aload_n 2, 1, (0, 0), []),
  (.aload_n 0, 1, (0, 0), []),
  (.iload_n 3, 1, (0, 0), []),
  (.iconst 1, 1, (1, 0), []),
  (.iadd, 1, (0, 0), []),
  (.iaload, 1, (0, 0), []),
  (.invokevirtual 162, 3, (0, 0), [[1, 6233, 0], [12, 219, 6235, 6234]])]
def qL_law_1480 : List mO := [(.if_icmp .eq 542, 3, (0, 0), [[2022]]),
  (.iconst 0, 1, (0, 0), []),
  (.ireturn, 1, (0, 0), [[1]])]
def qL_law_1485 : List mO := [(.aload_n 1, 1, (0, 0), []),
  (.aload_n 0, 1, (0, 0), []),
  (.iload_n 3, 1, (0, 0), []),
  (.iconst 1, 1, (1, 0), []),
  (.iadd, 1, (0, 0), []),
  (.iaload, 1, (0, 0), []),
  (.aload_n 0, 1, (0, 0), []),
  (.iload_n 3, 1, (0, 0), []),
  (.iconst 2, 1, (2, 0), []),
  (.iadd, 1, (0, 0), []),
  (.iaload, 1, (0, 0), []),
  (.aload_n 0, 1, (0, 0), []),
  (.iload_n 3, 1, (0, 0), []),
  (.iconst 3, 1, (3, 0), []),
  (.iadd, 1, (0, 0), []),
  (.iaload, 1, (0, 0), []),
  (.ifCond .eq 7, 3, (0, 0), [[1508]]),
  (.iconst 1, 1, (1, 0), []),
  (.goto 4, 3, (0, 0), [[1509]])]
def qL_law_1508 : List mO := [(.iconst 0, 1, (0, 0), [])]
def qL_law_1509 : List mO := [(.invokevirtual 163, 3, (0, 0), [[3, 4160, 0], [11, 131, 4162, 4161]])]
def qL_law_1512 : List mO := [(.aload_n 2, 1, (0, 0), []),
  (.aload_n 0, 1, (0, 0), []),
  (.iload_n 3, 1, (0, 0), []),
  (.iconst 1, 1, (1, 0), []),
  (.iadd, 1, (0, 0), []),
  (.iaload, 1, (0, 0), []),
  (.aload_n 0, 1, (0, 0), []),
  (.iload_n 3, 1, (0, 0), []),
  (.iconst 2, 1, (2, 0), []),
  (.iadd, 1, (0, 0), []),
  (.iaload, 1, (0, 0), []),
  (.aload_n 0, 1, (0, 0), []),
  (.iload_n 3, 1, (0, 0), []),
  (.iconst 3, 1, (3, 0), []),
  (.iadd, 1, (0, 0), []),
  (.iaload, 1, (0, 0), []),
  (.ifCond .eq 7, 3, (0, 0), [[1535]]),
  (.iconst 1, 1, (1, 0), []),
  (.goto 4, 3, (0, 0), [[1536]])]
def qL_law_1535 : List mO := [(.iconst 0, 1, (0, 0), [])]
def qL_law_1536 : List mO := [(.invokevirtual 166, 3, (0, 0), [[3, 6237, 0], [12, 220, 6239, 6238]])]
def qL_law_1539 : List mO := [(.if_icmp .eq 483, 3, (0, 0), [[2022]]),
  (.iconst 0, 1, (0, 0), []),
  (.ireturn, 1, (0, 0), [[1]])]
def qL_law_1544 : List mO := [(.aload_n 1, 1, (0, 0), []),
  (.aload_n 0, 1, (0, 0), []),
  (.iload_n 3, 1, (0, 0), []),
  (.iconst 1, 1, (1, 0), []),
  (.iadd, 1, (0, 0), []),
  (.iaload, 1, (0, 0), []),
  (.aload_n 0, 1, (0, 0), []),
  (.iload_n 3, 1, (0, 0), []),
  (.iconst 2, 1, (2, 0), []),
  (.iadd, 1, (0, 0), []),
  (.iaload, 1, (0, 0), []),
  (.invokevirtual 167, 3, (0, 0), [[2, 4164, 0], [11, 132, 4166, 4165]])]
def qL_law_1558 : List mO := [(.aload_n 2, 1, (0, 0), []),
  (.aload_n 0, 1, (0, 0), []),
  (.iload_n 3, 1, (0, 0), []),
  (.iconst 1, 1, (1, 0), []),
  (.iadd, 1, (0, 0), []),
  (.iaload, 1, (0, 0), []),
  (.aload_n 0, 1, (0, 0), []),
  (.iload_n 3, 1, (0, 0), []),
  (.iconst 2, 1, (2, 0), []),
  (.iadd, 1, (0, 0), []),
  (.iaload, 1, (0, 0), []),
  (.invokevirtual 170, 3, (0, 0), [[2, 7001, 0], [12, 222, 7003, 7002]])]
def qL_law_1572 : List mO := [(.if_icmp .eq 450, 3, (0, 0), [[2022]]),
  (.iconst 0, 1, (0, 0), []),
  (.ireturn, 1, (0, 0), [[1]])]
def qL_law_1577 : List mO := [(.aload_n 1, 1, (0, 0), []),
  (.aload_n 0, 1, (0, 0), []),
  (.iload_n 3, 1, (0, 0), []),
  (.iconst 1, 1, (1, 0), []),
  (.iadd, 1, (0, 0), []),
  (.iaload, 1, (0, 0), []),
  (.aload_n 0, 1, (0, 0), []),
  (.iload_n 3, 1, (0, 0), []),
  (.iconst 2, 1, (2, 0), []),
  (.iadd, 1, (0, 0), []),
  (.iaload, 1, (0, 0), []),
  (.aload_n 0, 1, (0, 0), []),
  (.iload_n 3, 1, (0, 0), []),
  (.iconst 3, 1, (3, 0), []),
  (.iadd, 1, (0, 0), []),
  (.iaload, 1, (0, 0), []),
  (.invokevirtual 171, 3, (0, 0), [[3, 4172, 0], [11, 133, 4174, 4173]])]
def qL_law_1596 : List mO := [(.aload_n 2, 1, (0, 0), []),
  (.aload_n 0, 1, (0, 0), []),
  (.iload_n 3, 1, (0, 0), []),
  (.iconst 1, 1, (1, 0), []),
  (.iadd, 1, (0, 0), []),
  (.iaload, 1, (0, 0), []),
  (.aload_n 0, 1, (0, 0), []),
  (.iload_n 3, 1, (0, 0), []),
  (.iconst 2, 1, (2, 0), []),
  (.iadd, 1, (0, 0), []),
  (.iaload, 1, (0, 0), []),
  (.aload_n 0, 1, (0, 0), []),
  (.iload_n 3, 1, (0, 0), []),
  (.iconst 3, 1, (3, 0), []),
  (.iadd, 1, (0, 0), []),
  (.iaload, 1, (0, 0), []),
  (.invokevirtual 174, 3, (0, 0), [[3, 7009, 0], [12, 223, 7011, 7010]])]
def qL_law_1615 : List mO := [(.if_icmp .eq 407, 3, (0, 0), [[2022]]),
  (.iconst 0, 1, (0, 0), []),
  (.ireturn, 1, (0, 0), [[1]])]
def qL_law_1620 : List mO := [(.aload_n 1, 1, (0, 0), []),
  (.aload_n 0, 1, (0, 0), []),
  (.iload_n 3, 1, (0, 0), []),
  (.iconst 1, 1, (1, 0), []),
  (.iadd, 1, (0, 0), []),
  (.iaload, 1, (0, 0), []),
  (.ifCond .eq 7, 3, (0, 0), [[1633]]),
  (.iconst 1, 1, (1, 0), []),
  (.goto 4, 3, (0, 0), [[1634]])]
def qL_law_1633 : List mO := [(.iconst 0, 1, (0, 0), [])]
def qL_law_1634 : List mO := [(.invokevirtual 175, 3, (0, 0), [[1, 4176, 0], [11, 134, 4178, 4177]])]
def qL_law_1637 : List mO := [(.aload_n 2, 1, (0, 0), []),
  (.aload_n 0, 1, (0, 0), []),
  (.iload_n 3, 1, (0, 0), []),
  (.iconst 1, 1, (1, 0), []),
  (.iadd, 1, (0, 0), []),
  (.iaload, 1, (0, 0), []),
  (.ifCond .eq 7, 3, (0, 0), [[1650]]),
  (.iconst 1, 1, (1, 0), []),
  (.goto 4, 3, (0, 0), [[1651]])]
def qL_law_1650 : List mO := [(.iconst 0, 1, (0, 0), [])]
def qL_law_1651 : List mO := [(.invokevirtual 178, 3, (0, 0), [[1, 7013, 0], [12, 225, 7015, 7014]])]
def qL_law_1654 : List mO := [(.if_icmp .eq 368, 3, (0, 0), [[2022]]),
  (.iconst 0, 1, (0, 0), []),
  (.ireturn, 1, (0, 0), [[1]])]
def qL_law_1659 : List mO := [(.aload_n 1, 1, (0, 0), []),
  (.aload_n 0, 1, (0, 0), []),
  (.iload_n 3, 1, (0, 0), []),
  (.iconst 1, 1, (1, 0), []),
  (.iadd, 1, (0, 0), []),
  (.iaload, 1, (0, 0), []),
  (.aload_n 0, 1, (0, 0), []),
  (.iload_n 3, 1, (0, 0), []),
  (.iconst 2, 1, (2, 0), []),
  (.iadd, 1, (0, 0), []),
  (.iaload, 1, (0, 0), []),
  (.aload_n 0, 1, (0, 0), []),
  (.iload_n 3, 1, (0, 0), []),
  (.iconst 3, 1, (3, 0), []),
  (.iadd, 1, (0, 0), []),
  (.iaload, 1, (0, 0), []),
  (.invokevirtual 179, 3, (0, 0), [[3, 4184, 0], [11, 137, 4186, 4185]])]
def qL_law_1678 : List mO := [(.aload_n 2, 1, (0, 0), []),
  (.aload_n 0, 1, (0, 0), []),
  (.iload_n 3, 1, (0, 0), []),
  (.iconst 1, 1, (1, 0), []),
  (.iadd, 1, (0, 0), []),
  (.iaload, 1, (0, 0), []),
  (.aload_n 0, 1, (0, 0), []),
  (.iload_n 3, 1, (0, 0), []),
  (.iconst 2, 1, (2, 0), []),
  (.iadd, 1, (0, 0), []),
  (.iaload, 1, (0, 0), []),
  (.aload_n 0, 1, (0, 0), []),
  (.iload_n 3, 1, (0, 0), []),
  (.iconst 3, 1, (3, 0), []),
  (.iadd, 1, (0, 0), []),
  (.iaload, 1, (0, 0), []),
  (.invokevirtual 182, 3, (0, 0), [[3, 7126, 0], [12, 245, 7128, 7127]])]
def qL_law_1697 : List mO := [(.if_icmp .eq 325, 3, (0, 0), [[2022]]),
  (.iconst 0, 1, (0, 0), []),
  (.ireturn, 1, (0, 0), [[1]])]
def qL_law_1702 : List mO := [(.aload_n 1, 1, (0, 0), []),
  (.aload_n 0, 1, (0, 0), []),
  (.iload_n 3, 1, (0, 0), []),
  (.iconst 1, 1, (1, 0), []),
  (.iadd, 1, (0, 0), []),
  (.iaload, 1, (0, 0), []),
  (.aload_n 0, 1, (0, 0), []),
  (.iload_n 3, 1, (0, 0), []),
  (.iconst 2, 1, (2, 0), []),
  (.iadd, 1, (0, 0), []),
  (.iaload, 1, (0, 0), []),
  (.aload_n 0, 1, (0, 0), []),
  (.iload_n 3, 1, (0, 0), []),
  (.iconst 3, 1, (3, 0), []),
  (.iadd, 1, (0, 0), []),
  (.iaload, 1, (0, 0), []),
  (.invokevirtual 183, 3, (0, 0), [[3, 4194, 0], [11, 138, 4196, 4195]])]
def qL_law_1721 : List mO := [(.aload_n 2, 1, (0, 0), []),
  (.aload_n 0, 1, (0, 0), []),
  (.iload_n 3, 1, (0, 0), []),
  (.iconst 1, 1, (1, 0), []),
  (.iadd, 1, (0, 0), []),
  (.iaload, 1, (0, 0), []),
  (.aload_n 0, 1, (0, 0), []),
  (.iload_n 3, 1, (0, 0), []),
  (.iconst 2, 1, (2, 0), []),
  (.iadd, 1, (0, 0), []),
  (.iaload, 1, (0, 0), []),
  (.aload_n 0, 1, (0, 0), []),
  (.iload_n 3, 1, (0, 0), []),
  (.iconst 3, 1, (3, 0), []),
  (.iadd, 1, (0, 0), []),
  (.iaload, 1, (0, 0), []),
  (.invokevirtual 186, 3, (0, 0), [[3, 7135, 0], [12, 247, 7137, 7136]])]
def qL_law_1740 : List mO := [(.if_icmp .eq 282, 3, (0, 0), [[2022]]),
  (.iconst 0, 1, (0, 0), []),
  (.ireturn, 1, (0, 0), [[1]])]
def qL_law_1745 : List mO := [(.aload_n 1, 1, (0, 0), []),
  (.aload_n 0, 1, (0, 0), []),
  (.iload_n 3, 1, (0, 0), []),
  (.iconst 1, 1, (1, 0), []),
  (.iadd, 1, (0, 0), []),
  (.iaload, 1, (0, 0), []),
  (.aload_n 0, 1, (0, 0), []),
  (.iload_n 3, 1, (0, 0), []),
  (.iconst 2, 1, (2, 0), []),
  (.iadd, 1, (0, 0), []),
  (.iaload, 1, (0, 0), []),
  (.aload_n 0, 1, (0, 0), []),
  (.iload_n 3, 1, (0, 0), []),
  (.iconst 3, 1, (3, 0), []),
  (.iadd, 1, (0, 0), []),
  (.iaload, 1, (0, 0), []),
  (.invokevirtual 187, 3, (0, 0), [[3, 4205, 0], [11, 139, 4207, 4206]])]
def qL_law_1764 : List mO := [(.aload_n 2, 1, (0, 0), []),
  (.aload_n 0, 1, (0, 0), []),
  (.iload_n 3, 1, (0, 0), []),
  (.iconst 1, 1, (1, 0), []),
  (.iadd, 1, (0, 0), []),
  (.iaload, 1, (0, 0), []),
  (.aload_n 0, 1, (0, 0), []),
  (.iload_n 3, 1, (0, 0), []),
  (.iconst 2, 1, (2, 0), []),
  (.iadd, 1, (0, 0), []),
  (.iaload, 1, (0, 0), []),
  (.aload_n 0, 1, (0, 0), []),
  (.iload_n 3, 1, (0, 0), []),
  (.iconst 3, 1, (3, 0), []),
  (.iadd, 1, (0, 0), []),
  (.iaload, 1, (0, 0), []),
  (.invokevirtual 190, 3, (0, 0), [[3, 7142, 0], [12, 249, 7144, 7143]])]
def qL_law_1783 : List mO := [(.if_icmp .eq 239, 3, (0, 0), [[2022]]),
  (.iconst 0, 1, (0, 0), []),
  (.ireturn, 1, (0, 0), [[1]])]
def qL_law_1788 : List mO := [(.aload_n 1, 1, (0, 0), []),
  (.aload_n 0, 1, (0, 0), []),
  (.iload_n 3, 1, (0, 0), []),
  (.iconst 1, 1, (1, 0), []),
  (.iadd, 1, (0, 0), []),
  (.iaload, 1, (0, 0), []),
  (.aload_n 0, 1, (0, 0), []),
  (.iload_n 3, 1, (0, 0), []),
  (.iconst 2, 1, (2, 0), []),
  (.iadd, 1, (0, 0), []),
  (.iaload, 1, (0, 0), []),
  (.aload_n 0, 1, (0, 0), []),
  (.iload_n 3, 1, (0, 0), []),
  (.iconst 3, 1, (3, 0), []),
  (.iadd, 1, (0, 0), []),
  (.iaload, 1, (0, 0), []),
  (.invokevirtual 191, 3, (0, 0), [[3, 4209, 0], [11, 140, 4211, 4210]])]
def qL_law_1807 : List mO := [(.aload_n 2, 1, (0, 0), []),
  (.aload_n 0, 1, (0, 0), []),
  (.iload_n 3, 1, (0, 0), []),
  (.iconst 1, 1, (1, 0), []),
  (.iadd, 1, (0, 0), []),
  (.iaload, 1, (0, 0), []),
  (.aload_n 0, 1, (0, 0), []),
  (.iload_n 3, 1, (0, 0), []),
  (.iconst 2, 1, (2, 0), []),
  (.iadd, 1, (0, 0), []),
  (.iaload, 1, (0, 0), []),
  (.aload_n 0, 1, (0, 0), []),
  (.iload_n 3, 1, (0, 0), []),
  (.iconst 3, 1, (3, 0), []),
  (.iadd, 1, (0, 0), []),
  (.iaload, 1, (0, 0), []),
  (.invokevirtual 194, 3, (0, 0), [[3, 7150, 0], [12, 250, 7152, 7151]])]
def qL_law_1826 : List mO := [(.if_icmp .eq 196, 3, (0, 0), [[2022]]),
  (.iconst 0, 1, (0, 0), []),
  (.ireturn, 1, (0, 0), [[1]])]
def qL_law_1831 : List mO := [(.aload_n 1, 1, (0, 0), []),
  (.aload_n 0, 1, (0, 0), []),
  (.iload_n 3, 1, (0, 0), []),
  (.iconst 1, 1, (1, 0), []),
  (.iadd, 1, (0, 0), []),
  (.iaload, 1, (0, 0), []),
  (.aload_n 0, 1, (0, 0), []),
  (.iload_n 3, 1, (0, 0), []),
  (.iconst 2, 1, (2, 0), []),
  (.iadd, 1, (0, 0), []),
  (.iaload, 1, (0, 0), []),
  (.aload_n 0, 1, (0, 0), []),
  (.iload_n 3, 1, (0, 0), []),
  (.iconst 3, 1, (3, 0), []),
  (.iadd, 1, (0, 0), []),
  (.iaload, 1, (0, 0), []),
  (.invokevirtual 195, 3, (0, 0), [[3, 4214, 0], [11, 141, 4216, 4215]])]
def qL_law_1850 : List mO := [(.aload_n 2, 1, (0, 0), []),
  (.aload_n 0, 1, (0, 0), []),
  (.iload_n 3, 1, (0, 0), []),
  (.iconst 1, 1, (1, 0), []),
  (.iadd, 1, (0, 0), []),
  (.iaload, 1, (0, 0), []),
  (.aload_n 0, 1, (0, 0), []),
  (.iload_n 3, 1, (0, 0), []),
  (.iconst 2, 1, (2, 0), []),
  (.iadd, 1, (0, 0), []),
  (.iaload, 1, (0, 0), []),
  (.aload_n 0, 1, (0, 0), []),
  (.iload_n 3, 1, (0, 0), []),
  (.iconst 3, 1, (3, 0), []),
  (.iadd, 1, (0, 0), []),
  (.iaload, 1, (0, 0), []),
  (.invokevirtual 198, 3, (0, 0), [[3, 7155, 0], [12, 251, 7157, 7156]])]
def qL_law_1869 : List mO := [(.if_icmp .eq 153, 3, (0, 0), [[2022]]),
  (.iconst 0, 1, (0, 0), []),
  (.ireturn, 1, (0, 0), [[1]])]
def qL_law_1874 : List mO := [(.aload_n 1, 1, (0, 0), []),
  (.aload_n 0, 1, (0, 0), []),
  (.iload_n 3, 1, (0, 0), []),
  (.iconst 1, 1, (1, 0), []),
  (.iadd, 1, (0, 0), []),
  (.iaload, 1, (0, 0), []),
  (.aload_n 0, 1, (0, 0), []),
  (.iload_n 3, 1, (0, 0), []),
  (.iconst 2, 1, (2, 0), []),
  (.iadd, 1, (0, 0), []),
  (.iaload, 1, (0, 0), []),
  (.invokevirtual 199, 3, (0, 0), [[2, 4221, 0], [11, 142, 4223, 4222]])]
def qL_law_1888 : List mO := [(.aload_n 2, 1, (0, 0), []),
  (.aload_n 0, 1, (0, 0), []),
  (.iload_n 3, 1, (0, 0), []),
  (.iconst 1, 1, (1, 0), []),
  (.iadd, 1, (0, 0), []),
  (.iaload, 1, (0, 0), []),
  (.aload_n 0, 1, (0, 0), []),
  (.iload_n 3, 1, (0, 0), []),
  (.iconst 2, 1, (2, 0), []),
  (.iadd, 1, (0, 0), []),
  (.iaload, 1, (0, 0), []),
  (.invokevirtual 202, 3, (0, 0), [[2, 7159, 0], [12, 253, 7161, 7160]])]
def qL_law_1902 : List mO := [(.if_icmp .eq 120, 3, (0, 0), [[2022]]),
  (.iconst 0, 1, (0, 0), []),
  (.ireturn, 1, (0, 0), [[1]])]
def qL_law_1907 : List mO := [(.aload_n 1, 1, (0, 0), []),
  (.aload_n 0, 1, (0, 0), []),
  (.iload_n 3, 1, (0, 0), []),
  (.iconst 1, 1, (1, 0), []),
  (.iadd, 1, (0, 0), []),
  (.iaload, 1, (0, 0), []),
  (.aload_n 0, 1, (0, 0), []),
  (.iload_n 3, 1, (0, 0), []),
  (.iconst 2, 1, (2, 0), []),
  (.iadd, 1, (0, 0), []),
  (.iaload, 1, (0, 0), []),
  (.aload_n 0, 1, (0, 0), []),
  (.iload_n 3, 1, (0, 0), []),
  (.iconst 3, 1, (3, 0), []),
  (.iadd, 1, (0, 0), []),
  (.iaload, 1, (0, 0), []),
  (.invokevirtual 203, 3, (0, 0), [[3, 4230, 0], [11, 143, 4232, 4231]])]
def qL_law_1926 : List mO := [(.aload_n 2, 1, (0, 0), []),
  (.aload_n 0, 1, (0, 0), []),
  (.iload_n 3, 1, (0, 0), []),
  (.iconst 1, 1, (1, 0), []),
  (.iadd, 1, (0, 0), []),
  (.iaload, 1, (0, 0), []),
  (.aload_n 0, 1, (0, 0), []),
  (.iload_n 3, 1, (0, 0), []),
  (.iconst 2, 1, (2, 0), []),
  (.iadd, 1, (0, 0), []),
  (.iaload, 1, (0, 0), []),
  (.aload_n 0, 1, (0, 0), []),
  (.iload_n 3, 1, (0, 0), []),
  (.iconst 3, 1, (3, 0), []),
  (.iadd, 1, (0, 0), []),
  (.iaload, 1, (0, 0), []),
  (.invokevirtual 206, 3, (0, 0), [[3, 7169, 0], [12, 260, 7171, 7170]])]
def qL_law_1945 : List mO := [(.if_icmp .eq 77, 3, (0, 0), [[2022]]),
  (.iconst 0, 1, (0, 0), []),
  (.ireturn, 1, (0, 0), [[1]])]
def qL_law_1950 : List mO := [(.aload_n 1, 1, (0, 0), []),
  (.aload_n 0, 1, (0, 0), []),
  (.iload_n 3, 1, (0, 0), []),
  (.iconst 1, 1, (1, 0), []),
  (.iadd, 1, (0, 0), []),
  (.iaload, 1, (0, 0), []),
  (.invokevirtual 207, 3, (0, 0), [[1, 5083, 0], [11, 144, 5085, 5084]])]
def qL_law_1959 : List mO := [(.aload_n 2, 1, (0, 0), []),
  (.aload_n 0, 1, (0, 0), []),
  (.iload_n 3, 1, (0, 0), []),
  (.iconst 1, 1, (1, 0), []),
  (.iadd, 1, (0, 0), []),
  (.iaload, 1, (0, 0), []),
  (.invokevirtual 210, 3, (0, 0), [[1, 7197, 0], [12, 262, 7199, 7198]])]
def qL_law_1968 : List mO := [(.if_icmp .eq 54, 3, (0, 0), [[2022]]),
  (.iconst 0, 1, (0, 0), []),
  (.ireturn, 1, (0, 0), [[1]])]
def qL_law_1973 : List mO := [(.aload_n 1, 1, (0, 0), []),
  (.aload_n 0, 1, (0, 0), []),
  (.iload_n 3, 1, (0, 0), []),
  (.iconst 1, 1, (1, 0), []),
  (.iadd, 1, (0, 0), []),
  (.iaload, 1, (0, 0), []),
  (.invokevirtual 211, 3, (0, 0), [[1, 5087, 0], [11, 145, 5089, 5088]])]
def qL_law_1982 : List mO := [(.aload_n 2, 1, (0, 0), []),
  (.aload_n 0, 1, (0, 0), []),
  (.iload_n 3, 1, (0, 0), []),
  (.iconst 1, 1, (1, 0), []),
  (.iadd, 1, (0, 0), []),
  (.iaload, 1, (0, 0), []),
  (.invokevirtual 214, 3, (0, 0), [[1, 7205, 0], [12, 263, 7207, 7206]])]
def qL_law_1991 : List mO := [(.if_icmp .eq 31, 3, (0, 0), [[2022]]),
  (.iconst 0, 1, (0, 0), []),
  (.ireturn, 1, (0, 0), [[1]])]
def qL_law_1996 : List mO := [(.aload_n 1, 1, (0, 0), []),
  (.invokevirtual 215, 3, (0, 0), [[0, 5091, 0], [11, 152, 5093, 5092]])]
def qL_law_2000 : List mO := [(.aload_n 2, 1, (0, 0), []),
  (.invokevirtual 218, 3, (0, 0), [[0, 7209, 0], [12, 264, 7211, 7210]])]
def qL_law_2004 : List mO := [(.if_icmp .eq 18, 3, (0, 0), [[2022]]),
  (.iconst 0, 1, (0, 0), []),
  (.ireturn, 1, (0, 0), [[1]])]
def qL_law_2009 : List mO := [(.aload_n 1, 1, (0, 0), []),
  (.invokevirtual 219, 3, (0, 0), [[0, 5101, 0], [11, 153, 5103, 5102]])]
def qL_law_2013 : List mO := [(.aload_n 2, 1, (0, 0), []),
  (.invokevirtual 222, 3, (0, 0), [[0, 7213, 0], [12, 265, 7215, 7214]])]
def qL_law_2017 : List mO := [(.if_icmp .eq 5, 3, (0, 0), [[2022]]),
  (.iconst 0, 1, (0, 0), []),
  (.ireturn, 1, (0, 0), [[1]])]
def qL_law_2022 : List mO := [(.iinc 3 5, 3, (5, 0), []),
  (.goto (-2007), 3, (0, 0), [[18]])]
def qL_law_2028 : List mO := [(.iconst 1, 1, (1, 0), []),
  (.ireturn, 1, (0, 0), [[1]])]
def pL_law : List (Nat × List mO) := [(0, qL_law_0), (7, qL_law_7), (15, qL_law_15), (18, qL_law_18), (248, qL_law_248), (272, qL_law_272), (296, qL_law_296), (301, qL_law_301), (315, qL_law_315), (329, qL_law_329), (334, qL_law_334), (353, qL_law_353), (372, qL_law_372), (377, qL_law_377), (391, qL_law_391), (405, qL_law_405), (410, qL_law_410), (419, qL_law_419), (428, qL_law_428), (433, qL_law_433), (447, qL_law_447), (461, qL_law_461), (466, qL_law_466), (479, qL_law_479), (480, qL_law_480), (483, qL_law_483), (496, qL_law_496), (497, qL_law_497), (500, qL_law_500), (505, qL_law_505), (534, qL_law_534), (563, qL_law_563), (568, qL_law_568), (572, qL_law_572), (576, qL_law_576), (581, qL_law_581), (604, qL_law_604), (605, qL_law_605), (608, qL_law_608), (631, qL_law_631), (632, qL_law_632), (635, qL_law_635), (640, qL_law_640), (654, qL_law_654), (668, qL_law_668), (673, qL_law_673), (677, qL_law_677), (681, qL_law_681), (686, qL_law_686), (705, qL_law_705), (724, qL_law_724), (729, qL_law_729), (748, qL_law_748), (767, qL_law_767), (772, qL_law_772), (791, qL_law_791), (810, qL_law_810), (815, qL_law_815), (829, qL_law_829), (843, qL_law_843), (848, qL_law_848), (867, qL_law_867), (886, qL_law_886), (891, qL_law_891), (910, qL_law_910), (929, qL_law_929), (934, qL_law_934), (948, qL_law_948), (962, qL_law_962), (967, qL_law_967), (981, qL_law_981), (995, qL_law_995), (1000, qL_law_1000), (1014, qL_law_1014), (1028, qL_law_1028), (1033, qL_law_1033), (1047, qL_law_1047), (1061, qL_law_1061), (1066, qL_law_1066), (1075, qL_law_1075), (1084, qL_law_1084), (1089, qL_law_1089), (1108, qL_law_1108), (1127, qL_law_1127), (1132, qL_law_1132), (1146, qL_law_1146), (1160, qL_law_1160), (1165, qL_law_1165), (1184, qL_law_1184), (1203, qL_law_1203), (1208, qL_law_1208), (1227, qL_law_1227), (1246, qL_law_1246), (1251, qL_law_1251), (1260, qL_law_1260), (1269, qL_law_1269), (1274, qL_law_1274), (1283, qL_law_1283), (1292, qL_law_1292), (1297, qL_law_1297), (1321, qL_law_1321), (1345, qL_law_1345), (1350, qL_law_1350), (1364, qL_law_1364), (1378, qL_law_1378), (1383, qL_law_1383), (1397, qL_law_1397), (1411, qL_law_1411), (1416, qL_law_1416), (1420, qL_law_1420), (1424, qL_law_1424), (1429, qL_law_1429), (1443, qL_law_1443), (1457, qL_law_1457), (1462, qL_law_1462), (1471, qL_law_1471), (1480, qL_law_1480), (1485, qL_law_1485), (1508, qL_law_1508), (1509, qL_law_1509), (1512, qL_law_1512), (1535, qL_law_1535), (1536, qL_law_1536), (1539, qL_law_1539), (1544, qL_law_1544), (1558, qL_law_1558), (1572, qL_law_1572), (1577, qL_law_1577), (1596, qL_law_1596), (1615, qL_law_1615), (1620, qL_law_1620), (1633, qL_law_1633), (1634, qL_law_1634), (1637, qL_law_1637), (1650, qL_law_1650), (1651, qL_law_1651), (1654, qL_law_1654), (1659, qL_law_1659), (1678, qL_law_1678), (1697, qL_law_1697), (1702, qL_law_1702), (1721, qL_law_1721), (1740, qL_law_1740), (1745, qL_law_1745), (1764, qL_law_1764), (1783, qL_law_1783), (1788, qL_law_1788), (1807, qL_law_1807), (1826, qL_law_1826), (1831, qL_law_1831), (1850, qL_law_1850), (1869, qL_law_1869), (1874, qL_law_1874), (1888, qL_law_1888), (1902, qL_law_1902), (1907, qL_law_1907), (1926, qL_law_1926), (1945, qL_law_1945), (1950, qL_law_1950), (1959, qL_law_1959), (1968, qL_law_1968), (1973, qL_law_1973), (1982, qL_law_1982), (1991, qL_law_1991), (1996, qL_law_1996), (2000, qL_law_2000), (2004, qL_law_2004), (2009, qL_law_2009), (2013, qL_law_2013), (2017, qL_law_2017), (2022, qL_law_2022), (2028, qL_law_2028)]
/-- the methods, by number -/
abbrev kX0_init : Nat := 0
abbrev kX0_takeDay : Nat := 1
abbrev kX0_goBothWays : Nat := 2
abbrev kX0_goOneWay : Nat := 3
abbrev kX0_farthestByClocks : Nat := 4
abbrev kX0_beginAt : Nat := 5
abbrev kX0_goWest : Nat := 6
abbrev kX0_goEast : Nat := 7
abbrev kX0_isBeginning : Nat := 8
abbrev kX0_bring : Nat := 9
abbrev kX0_reaches : Nat := 10
abbrev kX0_reached : Nat := 11
abbrev kX0_offOf : Nat := 12
abbrev kX0_distanceOf : Nat := 13
abbrev kX0_sumOfDistances : Nat := 14
abbrev kX0_noonOf : Nat := 15
abbrev kX1_init : Nat := 16
abbrev kX1_cries : Nat := 17
abbrev kX1_tells : Nat := 18
abbrev kX2_init : Nat := 19
abbrev kX2_shares : Nat := 20
abbrev kX3_init : Nat := 21
abbrev kX3_cries : Nat := 22
abbrev kX4_init : Nat := 23
abbrev kX4_hears : Nat := 24
abbrev kX5_init : Nat := 25
abbrev kX5_clear : Nat := 26
abbrev kX5_addStep : Nat := 27
abbrev kX5_comparing : Nat := 28
abbrev kX5_firstFor : Nat := 29
abbrev kX5_isMet : Nat := 30
abbrev kX5_isTrue : Nat := 31
abbrev kX5_isSilent : Nat := 32
abbrev kX5_changed : Nat := 33
abbrev kX5_copyFrom : Nat := 34
abbrev kX6_init : Nat := 35
abbrev kX6_readTape : Nat := 36
abbrev kX6_readToken : Nat := 37
abbrev kX6_readNumber : Nat := 38
abbrev kX6_isLetter : Nat := 39
abbrev kX6_isDigit : Nat := 40
abbrev kX6_takesToken : Nat := 41
abbrev kX6_takesKind : Nat := 42
abbrev kX6_takesIf : Nat := 43
abbrev kX6_takesDeed : Nat := 44
abbrev kX6_takesNot : Nat := 45
abbrev kX6_takesOpening : Nat := 46
abbrev kX6_takesLeft : Nat := 47
abbrev kX6_takesSign : Nat := 48
abbrev kX6_takesRight : Nat := 49
abbrev kX6_takesJoint : Nat := 50
abbrev kX6_takesClosing : Nat := 51
abbrev kX6_takesN : Nat := 52
abbrev kX6_takesSemicolon : Nat := 53
abbrev kX6_goesTo : Nat := 54
abbrev kX6_isSingle : Nat := 55
abbrev kX6_operand : Nat := 56
abbrev kX6_await : Nat := 57
abbrev kX6_addWaiting : Nat := 58
abbrev kX6_placeIn : Nat := 59
abbrev kX6_isSpelt : Nat := 60
abbrev kX7_init : Nat := 61
abbrev kX7_hears : Nat := 62
abbrev kX7_shares : Nat := 63
abbrev kX8_init : Nat := 64
abbrev kX8_clear : Nat := 65
abbrev kX8_begin : Nat := 66
abbrev kX9_init : Nat := 67
abbrev kX9_isTower : Nat := 68
abbrev kX9_holding : Nat := 69
abbrev kX9_minutesAMile : Nat := 70
abbrev kX9_ruleFor : Nat := 71
abbrev kX9_addedBy : Nat := 72
abbrev kX9_copyFrom : Nat := 73
abbrev kX10_init : Nat := 74
abbrev kX10_cries : Nat := 75
abbrev kX10_hears : Nat := 76
abbrev kX10_shares : Nat := 77
abbrev kX10_tells : Nat := 78
abbrev kX11_init : Nat := 79
abbrev kX11_tower : Nat := 80
abbrev kX11_towerOf : Nat := 81
abbrev kX11_change : Nat := 82
abbrev kX11_turn : Nat := 83
abbrev kX11_day : Nat := 84
abbrev kX11_wind : Nat := 85
abbrev kX11_pace : Nat := 86
abbrev kX11_isTowerKind : Nat := 87
abbrev kX11_isMeasure : Nat := 88
abbrev kX11_isDay : Nat := 89
abbrev kX11_isUnder : Nat := 90
abbrev kX11_feed : Nat := 91
abbrev kX11_rules : Nat := 92
abbrev kX11_cry : Nat := 93
abbrev kX11_shows : Nat := 94
abbrev kX11_hush : Nat := 95
abbrev kX11_comes : Nat := 96
abbrev kX11_holds : Nat := 97
abbrev kX11_off : Nat := 98
abbrev kX11_worst : Nat := 99
abbrev kX11_within : Nat := 100
abbrev kX11_bestAdd : Nat := 101
abbrev kX11_clocks : Nat := 102
abbrev kX11_fewest : Nat := 103
abbrev kX11_crossed : Nat := 104
abbrev kX11_noon : Nat := 105
abbrev kX11_firstNoon : Nat := 106
abbrev kX11_waits : Nat := 107
abbrev kX11_mender : Nat := 108
abbrev kX11_bestDay : Nat := 109
abbrev kX11_latest : Nat := 110
abbrev kX11_seed : Nat := 111
abbrev kX11_draw : Nat := 112
abbrev kX11_often : Nat := 113
abbrev kX11_lost : Nat := 114
abbrev kX11_isT : Nat := 115
abbrev kX11_isMinute : Nat := 116
abbrev kX11_isBound : Nat := 117
abbrev kX11_isCry : Nat := 118
abbrev kX11_isSet : Nat := 119
abbrev kX11_cryBothWays : Nat := 120
abbrev kX11_cryOneWay : Nat := 121
abbrev kX11_drawnAfter : Nat := 122
abbrev kX11_windDrawn : Nat := 123
abbrev kX11_takeUnaddedOffs : Nat := 124
abbrev kX11_farthestOverDays : Nat := 125
abbrev kX11_report : Nat := 126
abbrev kX11_forget : Nat := 127
abbrev kX11_fits : Nat := 128
abbrev kX11_liar : Nat := 129
abbrev kX11_wrongReports : Nat := 130
abbrev kX11_prove : Nat := 131
abbrev kX11_row : Nat := 132
abbrev kX11_alterRow : Nat := 133
abbrev kX11_judge : Nat := 134
abbrev kX11_isInRows : Nat := 135
abbrev kX11_isRowOfAsked : Nat := 136
abbrev kX11_sheet : Nat := 137
abbrev kX11_write : Nat := 138
abbrev kX11_item : Nat := 139
abbrev kX11_adds : Nat := 140
abbrev kX11_shelf : Nat := 141
abbrev kX11_taken : Nat := 142
abbrev kX11_act : Nat := 143
abbrev kX11_trace : Nat := 144
abbrev kX11_many : Nat := 145
abbrev kX11_isSheet : Nat := 146
abbrev kX11_isSort : Nat := 147
abbrev kX11_isItem : Nat := 148
abbrev kX11_narrowed : Nat := 149
abbrev kX11_isShelf : Nat := 150
abbrev kX11_isTowerOnShelf : Nat := 151
abbrev kX11_keep : Nat := 152
abbrev kX11_again : Nat := 153
abbrev kX12_init : Nat := 154
abbrev kX12_in : Nat := 155
abbrev kX12_isTower : Nat := 156
abbrev kX12_isDay : Nat := 157
abbrev kX12_isTime : Nat := 158
abbrev kX12_has : Nat := 159
abbrev kX12_size : Nat := 160
abbrev kX12_puts : Nat := 161
abbrev kX12_putsBack : Nat := 162
abbrev kX12_at : Nat := 163
abbrev kX12_its : Nat := 164
abbrev kX12_isPart : Nat := 165
abbrev kX12_tower : Nat := 166
abbrev kX12_isUnder : Nat := 167
abbrev kX12_fact : Nat := 168
abbrev kX12_isHolding : Nat := 169
abbrev kX12_isSo : Nat := 170
abbrev kX12_asks : Nat := 171
abbrev kX12_towerOf : Nat := 172
abbrev kX12_change : Nat := 173
abbrev kX12_turn : Nat := 174
abbrev kX12_day : Nat := 175
abbrev kX12_wind : Nat := 176
abbrev kX12_pace : Nat := 177
abbrev kX12_quiets : Nat := 178
abbrev kX12_goes : Nat := 179
abbrev kX12_goesBoth : Nat := 180
abbrev kX12_comers : Nat := 181
abbrev kX12_offOf : Nat := 182
abbrev kX12_cry : Nat := 183
abbrev kX12_shows : Nat := 184
abbrev kX12_holders : Nat := 185
abbrev kX12_hush : Nat := 186
abbrev kX12_isAsk : Nat := 187
abbrev kX12_comes : Nat := 188
abbrev kX12_holds : Nat := 189
abbrev kX12_off : Nat := 190
abbrev kX12_worst : Nat := 191
abbrev kX12_within : Nat := 192
abbrev kX12_farthest : Nat := 193
abbrev kX12_bestAdd : Nat := 194
abbrev kX12_clocked : Nat := 195
abbrev kX12_clocks : Nat := 196
abbrev kX12_ones : Nat := 197
abbrev kX12_fewest : Nat := 198
abbrev kX12_crossed : Nat := 199
abbrev kX12_fromFirst : Nat := 200
abbrev kX12_noonOf : Nat := 201
abbrev kX12_noon : Nat := 202
abbrev kX12_firstNoon : Nat := 203
abbrev kX12_waits : Nat := 204
abbrev kX12_offs : Nat := 205
abbrev kX12_mender : Nat := 206
abbrev kX12_bestDay : Nat := 207
abbrev kX12_latest : Nat := 208
abbrev kX12_seed : Nat := 209
abbrev kX12_draws : Nat := 210
abbrev kX12_draw : Nat := 211
abbrev kX12_often : Nat := 212
abbrev kX12_lost : Nat := 213
abbrev kX12_report : Nat := 214
abbrev kX12_forget : Nat := 215
abbrev kX12_isFit : Nat := 216
abbrev kX12_findFits : Nat := 217
abbrev kX12_fits : Nat := 218
abbrev kX12_liar : Nat := 219
abbrev kX12_prove : Nat := 220
abbrev kX12_isRow : Nat := 221
abbrev kX12_row : Nat := 222
abbrev kX12_alterRow : Nat := 223
abbrev kX12_isBrought : Nat := 224
abbrev kX12_judge : Nat := 225
abbrev kX12_feed : Nat := 226
abbrev kX12_byteAt : Nat := 227
abbrev kX12_isLetter : Nat := 228
abbrev kX12_isDigit : Nat := 229
abbrev kX12_token : Nat := 230
abbrev kX12_needs : Nat := 231
abbrev kX12_word : Nat := 232
abbrev kX12_number : Nat := 233
abbrev kX12_kindHere : Nat := 234
abbrev kX12_factHere : Nat := 235
abbrev kX12_writes : Nat := 236
abbrev kX12_valueHere : Nat := 237
abbrev kX12_comparison : Nat := 238
abbrev kX12_one : Nat := 239
abbrev kX12_all : Nat := 240
abbrev kX12_condition : Nat := 241
abbrev kX12_rule : Nat := 242
abbrev kX12_rules : Nat := 243
abbrev kX12_isOne : Nat := 244
abbrev kX12_sheet : Nat := 245
abbrev kX12_narrowed : Nat := 246
abbrev kX12_write : Nat := 247
abbrev kX12_wrong : Nat := 248
abbrev kX12_item : Nat := 249
abbrev kX12_adds : Nat := 250
abbrev kX12_shelf : Nat := 251
abbrev kX12_onShelf : Nat := 252
abbrev kX12_taken : Nat := 253
abbrev kX12_runs : Nat := 254
abbrev kX12_cries : Nat := 255
abbrev kX12_hears : Nat := 256
abbrev kX12_parts : Nat := 257
abbrev kX12_shares : Nat := 258
abbrev kX12_tells : Nat := 259
abbrev kX12_act : Nat := 260
abbrev kX12_traced : Nat := 261
abbrev kX12_trace : Nat := 262
abbrev kX12_many : Nat := 263
abbrev kX12_keep : Nat := 264
abbrev kX12_again : Nat := 265
abbrev kJ6_bitCount_0f7a4 : Nat := 266
abbrev kJ7_fill_53178 : Nat := 267
abbrev kL_law : Nat := 268
def mBl : Nat → List (Nat × List mO) := fun k => bif Nat.blt k 134 then (bif Nat.blt k 67 then (bif Nat.blt k 33 then (bif Nat.blt k 16 then (bif Nat.blt k 8 then (bif Nat.blt k 4 then (bif Nat.blt k 2 then (bif Nat.beq k 0 then pX0_init else pX0_takeDay) else (bif Nat.beq k 2 then pX0_goBothWays else pX0_goOneWay)) else (bif Nat.blt k 6 then (bif Nat.beq k 4 then pX0_farthestByClocks else pX0_beginAt) else (bif Nat.beq k 6 then pX0_goWest else pX0_goEast))) else (bif Nat.blt k 12 then (bif Nat.blt k 10 then (bif Nat.beq k 8 then pX0_isBeginning else pX0_bring) else (bif Nat.beq k 10 then pX0_reaches else pX0_reached)) else (bif Nat.blt k 14 then (bif Nat.beq k 12 then pX0_offOf else pX0_distanceOf) else (bif Nat.beq k 14 then pX0_sumOfDistances else pX0_noonOf)))) else (bif Nat.blt k 24 then (bif Nat.blt k 20 then (bif Nat.blt k 18 then (bif Nat.beq k 16 then pX1_init else pX1_cries) else (bif Nat.beq k 18 then pX1_tells else pX2_init)) else (bif Nat.blt k 22 then (bif Nat.beq k 20 then pX2_shares else pX3_init) else (bif Nat.beq k 22 then pX3_cries else pX4_init))) else (bif Nat.blt k 28 then (bif Nat.blt k 26 then (bif Nat.beq k 24 then pX4_hears else pX5_init) else (bif Nat.beq k 26 then pX5_clear else pX5_addStep)) else (bif Nat.blt k 30 then (bif Nat.beq k 28 then pX5_comparing else pX5_firstFor) else (bif Nat.beq k 30 then pX5_isMet else bif Nat.beq k 31 then pX5_isTrue else pX5_isSilent))))) else (bif Nat.blt k 50 then (bif Nat.blt k 41 then (bif Nat.blt k 37 then (bif Nat.blt k 35 then (bif Nat.beq k 33 then pX5_changed else pX5_copyFrom) else (bif Nat.beq k 35 then pX6_init else pX6_readTape)) else (bif Nat.blt k 39 then (bif Nat.beq k 37 then pX6_readToken else pX6_readNumber) else (bif Nat.beq k 39 then pX6_isLetter else pX6_isDigit))) else (bif Nat.blt k 45 then (bif Nat.blt k 43 then (bif Nat.beq k 41 then pX6_takesToken else pX6_takesKind) else (bif Nat.beq k 43 then pX6_takesIf else pX6_takesDeed)) else (bif Nat.blt k 47 then (bif Nat.beq k 45 then pX6_takesNot else pX6_takesOpening) else (bif Nat.beq k 47 then pX6_takesLeft else bif Nat.beq k 48 then pX6_takesSign else pX6_takesRight)))) else (bif Nat.blt k 58 then (bif Nat.blt k 54 then (bif Nat.blt k 52 then (bif Nat.beq k 50 then pX6_takesJoint else pX6_takesClosing) else (bif Nat.beq k 52 then pX6_takesN else pX6_takesSemicolon)) else (bif Nat.blt k 56 then (bif Nat.beq k 54 then pX6_goesTo else pX6_isSingle) else (bif Nat.beq k 56 then pX6_operand else pX6_await))) else (bif Nat.blt k 62 then (bif Nat.blt k 60 then (bif Nat.beq k 58 then pX6_addWaiting else pX6_placeIn) else (bif Nat.beq k 60 then pX6_isSpelt else pX7_init)) else (bif Nat.blt k 64 then (bif Nat.beq k 62 then pX7_hears else pX7_shares) else (bif Nat.beq k 64 then pX8_init else bif Nat.beq k 65 then pX8_clear else pX8_begin)))))) else (bif Nat.blt k 100 then (bif Nat.blt k 83 then (bif Nat.blt k 75 then (bif Nat.blt k 71 then (bif Nat.blt k 69 then (bif Nat.beq k 67 then pX9_init else pX9_isTower) else (bif Nat.beq k 69 then pX9_holding else pX9_minutesAMile)) else (bif Nat.blt k 73 then (bif Nat.beq k 71 then pX9_ruleFor else pX9_addedBy) else (bif Nat.beq k 73 then pX9_copyFrom else pX10_init))) else (bif Nat.blt k 79 then (bif Nat.blt k 77 then (bif Nat.beq k 75 then pX10_cries else pX10_hears) else (bif Nat.beq k 77 then pX10_shares else pX10_tells)) else (bif Nat.blt k 81 then (bif Nat.beq k 79 then pX11_init else pX11_tower) else (bif Nat.beq k 81 then pX11_towerOf else pX11_change)))) else (bif Nat.blt k 91 then (bif Nat.blt k 87 then (bif Nat.blt k 85 then (bif Nat.beq k 83 then pX11_turn else pX11_day) else (bif Nat.beq k 85 then pX11_wind else pX11_pace)) else (bif Nat.blt k 89 then (bif Nat.beq k 87 then pX11_isTowerKind else pX11_isMeasure) else (bif Nat.beq k 89 then pX11_isDay else pX11_isUnder))) else (bif Nat.blt k 95 then (bif Nat.blt k 93 then (bif Nat.beq k 91 then pX11_feed else pX11_rules) else (bif Nat.beq k 93 then pX11_cry else pX11_shows)) else (bif Nat.blt k 97 then (bif Nat.beq k 95 then pX11_hush else pX11_comes) else (bif Nat.beq k 97 then pX11_holds else bif Nat.beq k 98 then pX11_off else pX11_worst))))) else (bif Nat.blt k 117 then (bif Nat.blt k 108 then (bif Nat.blt k 104 then (bif Nat.blt k 102 then (bif Nat.beq k 100 then pX11_within else pX11_bestAdd) else (bif Nat.beq k 102 then pX11_clocks else pX11_fewest)) else (bif Nat.blt k 106 then (bif Nat.beq k 104 then pX11_crossed else pX11_noon) else (bif Nat.beq k 106 then pX11_firstNoon else pX11_waits))) else (bif Nat.blt k 112 then (bif Nat.blt k 110 then (bif Nat.beq k 108 then pX11_mender else pX11_bestDay) else (bif Nat.beq k 110 then pX11_latest else pX11_seed)) else (bif Nat.blt k 114 then (bif Nat.beq k 112 then pX11_draw else pX11_often) else (bif Nat.beq k 114 then pX11_lost else bif Nat.beq k 115 then pX11_isT else pX11_isMinute)))) else (bif Nat.blt k 125 then (bif Nat.blt k 121 then (bif Nat.blt k 119 then (bif Nat.beq k 117 then pX11_isBound else pX11_isCry) else (bif Nat.beq k 119 then pX11_isSet else pX11_cryBothWays)) else (bif Nat.blt k 123 then (bif Nat.beq k 121 then pX11_cryOneWay else pX11_drawnAfter) else (bif Nat.beq k 123 then pX11_windDrawn else pX11_takeUnaddedOffs))) else (bif Nat.blt k 129 then (bif Nat.blt k 127 then (bif Nat.beq k 125 then pX11_farthestOverDays else pX11_report) else (bif Nat.beq k 127 then pX11_forget else pX11_fits)) else (bif Nat.blt k 131 then (bif Nat.beq k 129 then pX11_liar else pX11_wrongReports) else (bif Nat.beq k 131 then pX11_prove else bif Nat.beq k 132 then pX11_row else pX11_alterRow))))))) else (bif Nat.blt k 201 then (bif Nat.blt k 167 then (bif Nat.blt k 150 then (bif Nat.blt k 142 then (bif Nat.blt k 138 then (bif Nat.blt k 136 then (bif Nat.beq k 134 then pX11_judge else pX11_isInRows) else (bif Nat.beq k 136 then pX11_isRowOfAsked else pX11_sheet)) else (bif Nat.blt k 140 then (bif Nat.beq k 138 then pX11_write else pX11_item) else (bif Nat.beq k 140 then pX11_adds else pX11_shelf))) else (bif Nat.blt k 146 then (bif Nat.blt k 144 then (bif Nat.beq k 142 then pX11_taken else pX11_act) else (bif Nat.beq k 144 then pX11_trace else pX11_many)) else (bif Nat.blt k 148 then (bif Nat.beq k 146 then pX11_isSheet else pX11_isSort) else (bif Nat.beq k 148 then pX11_isItem else pX11_narrowed)))) else (bif Nat.blt k 158 then (bif Nat.blt k 154 then (bif Nat.blt k 152 then (bif Nat.beq k 150 then pX11_isShelf else pX11_isTowerOnShelf) else (bif Nat.beq k 152 then pX11_keep else pX11_again)) else (bif Nat.blt k 156 then (bif Nat.beq k 154 then pX12_init else pX12_in) else (bif Nat.beq k 156 then pX12_isTower else pX12_isDay))) else (bif Nat.blt k 162 then (bif Nat.blt k 160 then (bif Nat.beq k 158 then pX12_isTime else pX12_has) else (bif Nat.beq k 160 then pX12_size else pX12_puts)) else (bif Nat.blt k 164 then (bif Nat.beq k 162 then pX12_putsBack else pX12_at) else (bif Nat.beq k 164 then pX12_its else bif Nat.beq k 165 then pX12_isPart else pX12_tower))))) else (bif Nat.blt k 184 then (bif Nat.blt k 175 then (bif Nat.blt k 171 then (bif Nat.blt k 169 then (bif Nat.beq k 167 then pX12_isUnder else pX12_fact) else (bif Nat.beq k 169 then pX12_isHolding else pX12_isSo)) else (bif Nat.blt k 173 then (bif Nat.beq k 171 then pX12_asks else pX12_towerOf) else (bif Nat.beq k 173 then pX12_change else pX12_turn))) else (bif Nat.blt k 179 then (bif Nat.blt k 177 then (bif Nat.beq k 175 then pX12_day else pX12_wind) else (bif Nat.beq k 177 then pX12_pace else pX12_quiets)) else (bif Nat.blt k 181 then (bif Nat.beq k 179 then pX12_goes else pX12_goesBoth) else (bif Nat.beq k 181 then pX12_comers else bif Nat.beq k 182 then pX12_offOf else pX12_cry)))) else (bif Nat.blt k 192 then (bif Nat.blt k 188 then (bif Nat.blt k 186 then (bif Nat.beq k 184 then pX12_shows else pX12_holders) else (bif Nat.beq k 186 then pX12_hush else pX12_isAsk)) else (bif Nat.blt k 190 then (bif Nat.beq k 188 then pX12_comes else pX12_holds) else (bif Nat.beq k 190 then pX12_off else pX12_worst))) else (bif Nat.blt k 196 then (bif Nat.blt k 194 then (bif Nat.beq k 192 then pX12_within else pX12_farthest) else (bif Nat.beq k 194 then pX12_bestAdd else pX12_clocked)) else (bif Nat.blt k 198 then (bif Nat.beq k 196 then pX12_clocks else pX12_ones) else (bif Nat.beq k 198 then pX12_fewest else bif Nat.beq k 199 then pX12_crossed else pX12_fromFirst)))))) else (bif Nat.blt k 235 then (bif Nat.blt k 218 then (bif Nat.blt k 209 then (bif Nat.blt k 205 then (bif Nat.blt k 203 then (bif Nat.beq k 201 then pX12_noonOf else pX12_noon) else (bif Nat.beq k 203 then pX12_firstNoon else pX12_waits)) else (bif Nat.blt k 207 then (bif Nat.beq k 205 then pX12_offs else pX12_mender) else (bif Nat.beq k 207 then pX12_bestDay else pX12_latest))) else (bif Nat.blt k 213 then (bif Nat.blt k 211 then (bif Nat.beq k 209 then pX12_seed else pX12_draws) else (bif Nat.beq k 211 then pX12_draw else pX12_often)) else (bif Nat.blt k 215 then (bif Nat.beq k 213 then pX12_lost else pX12_report) else (bif Nat.beq k 215 then pX12_forget else bif Nat.beq k 216 then pX12_isFit else pX12_findFits)))) else (bif Nat.blt k 226 then (bif Nat.blt k 222 then (bif Nat.blt k 220 then (bif Nat.beq k 218 then pX12_fits else pX12_liar) else (bif Nat.beq k 220 then pX12_prove else pX12_isRow)) else (bif Nat.blt k 224 then (bif Nat.beq k 222 then pX12_row else pX12_alterRow) else (bif Nat.beq k 224 then pX12_isBrought else pX12_judge))) else (bif Nat.blt k 230 then (bif Nat.blt k 228 then (bif Nat.beq k 226 then pX12_feed else pX12_byteAt) else (bif Nat.beq k 228 then pX12_isLetter else pX12_isDigit)) else (bif Nat.blt k 232 then (bif Nat.beq k 230 then pX12_token else pX12_needs) else (bif Nat.beq k 232 then pX12_word else bif Nat.beq k 233 then pX12_number else pX12_kindHere))))) else (bif Nat.blt k 252 then (bif Nat.blt k 243 then (bif Nat.blt k 239 then (bif Nat.blt k 237 then (bif Nat.beq k 235 then pX12_factHere else pX12_writes) else (bif Nat.beq k 237 then pX12_valueHere else pX12_comparison)) else (bif Nat.blt k 241 then (bif Nat.beq k 239 then pX12_one else pX12_all) else (bif Nat.beq k 241 then pX12_condition else pX12_rule))) else (bif Nat.blt k 247 then (bif Nat.blt k 245 then (bif Nat.beq k 243 then pX12_rules else pX12_isOne) else (bif Nat.beq k 245 then pX12_sheet else pX12_narrowed)) else (bif Nat.blt k 249 then (bif Nat.beq k 247 then pX12_write else pX12_wrong) else (bif Nat.beq k 249 then pX12_item else bif Nat.beq k 250 then pX12_adds else pX12_shelf)))) else (bif Nat.blt k 260 then (bif Nat.blt k 256 then (bif Nat.blt k 254 then (bif Nat.beq k 252 then pX12_onShelf else pX12_taken) else (bif Nat.beq k 254 then pX12_runs else pX12_cries)) else (bif Nat.blt k 258 then (bif Nat.beq k 256 then pX12_hears else pX12_parts) else (bif Nat.beq k 258 then pX12_shares else pX12_tells))) else (bif Nat.blt k 264 then (bif Nat.blt k 262 then (bif Nat.beq k 260 then pX12_act else pX12_traced) else (bif Nat.beq k 262 then pX12_trace else pX12_many)) else (bif Nat.blt k 266 then (bif Nat.beq k 264 then pX12_keep else pX12_again) else (bif Nat.beq k 266 then pJ6_bitCount_0f7a4 else bif Nat.beq k 267 then pJ7_fill_53178 else pL_law)))))))
def m_look (pc : Nat) : List (Nat × List mO) → List mO
  | [] => []
  | (h, b) :: r => bif Nat.beq h pc then b else m_look pc r
def mP : Nat → Nat → List mO := fun k pc => m_look pc (mBl k)
/-- name, bytes, number of locals, type of the answer, places of its word and of its class' word -/
def mMt : List (MethodName × ByteArray × Nat × Option FieldType × Nat × Nat) := [(yX0_init, cX0_init, 2, none, 1193, 1005),
  (yX0_takeDay, cX0_takeDay, 4, none, 3179, 1005),
  (yX0_goBothWays, cX0_goBothWays, 3, none, 4006, 1005),
  (yX0_goOneWay, cX0_goOneWay, 4, none, 3187, 1005),
  (yX0_farthestByClocks, cX0_farthestByClocks, 5, (some .int), 4065, 1005),
  (yX0_beginAt, cX0_beginAt, 4, none, 3191, 1005),
  (yX0_goWest, cX0_goWest, 3, none, 3199, 1005),
  (yX0_goEast, cX0_goEast, 3, none, 3211, 1005),
  (yX0_isBeginning, cX0_isBeginning, 2, (some .boolean), 3195, 1005),
  (yX0_bring, cX0_bring, 5, none, 3203, 1005),
  (yX0_reaches, cX0_reaches, 2, (some .boolean), 3207, 1005),
  (yX0_reached, cX0_reached, 3, (some .int), 3216, 1005),
  (yX0_offOf, cX0_offOf, 2, (some .int), 4018, 1005),
  (yX0_distanceOf, cX0_distanceOf, 2, (some .int), 4026, 1005),
  (yX0_sumOfDistances, cX0_sumOfDistances, 3, (some .int), 4108, 1005),
  (yX0_noonOf, cX0_noonOf, 2, (some .int), 4089, 1005),
  (yX1_init, cX1_init, 2, none, 2065, 1010),
  (yX1_cries, cX1_cries, 2, (some .int), 5004, 1010),
  (yX1_tells, cX1_tells, 2, (some .int), 5069, 1010),
  (yX2_init, cX2_init, 2, none, 2075, 1011),
  (yX2_shares, cX2_shares, 2, (some .int), 5050, 1011),
  (yX3_init, cX3_init, 2, none, 2045, 1008),
  (yX3_cries, cX3_cries, 2, (some .int), 5015, 1008),
  (yX4_init, cX4_init, 2, none, 2055, 1009),
  (yX4_hears, cX4_hears, 2, (some .int), 5028, 1009),
  (yX5_init, cX5_init, 1, none, 1040, 1003),
  (yX5_clear, cX5_clear, 1, none, 2236, 1003),
  (yX5_addStep, cX5_addStep, 2, none, 3099, 1003),
  (yX5_comparing, cX5_comparing, 3, (some .int), 3136, 1003),
  (yX5_firstFor, cX5_firstFor, 4, (some .int), 2171, 1003),
  (yX5_isMet, cX5_isMet, 6, (some .boolean), 2178, 1003),
  (yX5_isTrue, cX5_isTrue, 4, (some .boolean), 2181, 1003),
  (yX5_isSilent, cX5_isSilent, 2, (some .boolean), 2193, 1003),
  (yX5_changed, cX5_changed, 4, (some .int), 2189, 1003),
  (yX5_copyFrom, cX5_copyFrom, 2, none, 3157, 1003),
  (yX6_init, cX6_init, 1, none, 1141, 1004),
  (yX6_readTape, cX6_readTape, 2, (some .int), 2232, 1004),
  (yX6_readToken, cX6_readToken, 1, none, 3000, 1004),
  (yX6_readNumber, cX6_readNumber, 1, none, 3012, 1004),
  (yX6_isLetter, cX6_isLetter, 2, (some .boolean), 3004, 1004),
  (yX6_isDigit, cX6_isDigit, 2, (some .boolean), 3008, 1004),
  (yX6_takesToken, cX6_takesToken, 1, (some .boolean), 3016, 1004),
  (yX6_takesKind, cX6_takesKind, 2, (some .boolean), 3020, 1004),
  (yX6_takesIf, cX6_takesIf, 1, (some .boolean), 3081, 1004),
  (yX6_takesDeed, cX6_takesDeed, 2, (some .boolean), 3090, 1004),
  (yX6_takesNot, cX6_takesNot, 1, (some .boolean), 3103, 1004),
  (yX6_takesOpening, cX6_takesOpening, 1, (some .boolean), 3112, 1004),
  (yX6_takesLeft, cX6_takesLeft, 1, (some .boolean), 3120, 1004),
  (yX6_takesSign, cX6_takesSign, 1, (some .boolean), 3129, 1004),
  (yX6_takesRight, cX6_takesRight, 2, (some .boolean), 3133, 1004),
  (yX6_takesJoint, cX6_takesJoint, 2, (some .boolean), 3140, 1004),
  (yX6_takesClosing, cX6_takesClosing, 1, (some .boolean), 3145, 1004),
  (yX6_takesN, cX6_takesN, 1, (some .boolean), 3149, 1004),
  (yX6_takesSemicolon, cX6_takesSemicolon, 1, (some .boolean), 3153, 1004),
  (yX6_goesTo, cX6_goesTo, 3, (some .boolean), 3086, 1004),
  (yX6_isSingle, cX6_isSingle, 2, (some .boolean), 3116, 1004),
  (yX6_operand, cX6_operand, 2, (some .int), 3124, 1004),
  (yX6_await, cX6_await, 2, none, 3108, 1004),
  (yX6_addWaiting, cX6_addWaiting, 2, none, 3095, 1004),
  (yX6_placeIn, cX6_placeIn, 5, (some .int), 3025, 1004),
  (yX6_isSpelt, cX6_isSpelt, 5, (some .boolean), 3077, 1004),
  (yX7_init, cX7_init, 2, none, 2085, 1012),
  (yX7_hears, cX7_hears, 2, (some .int), 5036, 1012),
  (yX7_shares, cX7_shares, 2, (some .int), 5057, 1012),
  (yX8_init, cX8_init, 1, none, 1230, 1006),
  (yX8_clear, cX8_clear, 1, none, 4237, 1006),
  (yX8_begin, cX8_begin, 2, none, 5008, 1006),
  (yX9_init, cX9_init, 1, none, 1034, 1002),
  (yX9_isTower, cX9_isTower, 2, (some .boolean), 2163, 1002),
  (yX9_holding, cX9_holding, 3, (some .int), 3231, 1002),
  (yX9_minutesAMile, cX9_minutesAMile, 3, (some .int), 2220, 1002),
  (yX9_ruleFor, cX9_ruleFor, 3, (some .int), 2167, 1002),
  (yX9_addedBy, cX9_addedBy, 5, (some .int), 2185, 1002),
  (yX9_copyFrom, cX9_copyFrom, 2, none, 5098, 1002),
  (yX10_init, cX10_init, 2, none, 2011, 1007),
  (yX10_cries, cX10_cries, 2, (some .int), 5020, 1007),
  (yX10_hears, cX10_hears, 2, (some .int), 5041, 1007),
  (yX10_shares, cX10_shares, 3, (some .int), 5062, 1007),
  (yX10_tells, cX10_tells, 2, (some .int), 5081, 1007),
  (yX11_init, cX11_init, 1, none, 1026, 1001),
  (yX11_tower, cX11_tower, 6, (some .int), 2149, 1001),
  (yX11_towerOf, cX11_towerOf, 3, (some .int), 2159, 1001),
  (yX11_change, cX11_change, 6, (some .int), 2197, 1001),
  (yX11_turn, cX11_turn, 4, (some .int), 2201, 1001),
  (yX11_day, cX11_day, 3, (some .int), 2205, 1001),
  (yX11_wind, cX11_wind, 4, (some .int), 2212, 1001),
  (yX11_pace, cX11_pace, 2, (some .int), 2216, 1001),
  (yX11_isTowerKind, cX11_isTowerKind, 1, (some .boolean), 2152, 1001),
  (yX11_isMeasure, cX11_isMeasure, 2, (some .boolean), 2155, 1001),
  (yX11_isDay, cX11_isDay, 1, (some .boolean), 2208, 1001),
  (yX11_isUnder, cX11_isUnder, 2, (some .boolean), 2174, 1001),
  (yX11_feed, cX11_feed, 5, (some .int), 2224, 1001),
  (yX11_rules, cX11_rules, 2, (some .int), 2228, 1001),
  (yX11_cry, cX11_cry, 5, (some .int), 3164, 1001),
  (yX11_shows, cX11_shows, 3, (some .int), 3220, 1001),
  (yX11_hush, cX11_hush, 2, (some .int), 3227, 1001),
  (yX11_comes, cX11_comes, 4, (some .int), 3238, 1001),
  (yX11_holds, cX11_holds, 4, (some .int), 4010, 1001),
  (yX11_off, cX11_off, 4, (some .int), 4014, 1001),
  (yX11_worst, cX11_worst, 6, (some .int), 4022, 1001),
  (yX11_within, cX11_within, 6, (some .int), 4034, 1001),
  (yX11_bestAdd, cX11_bestAdd, 9, (some .int), 4041, 1001),
  (yX11_clocks, cX11_clocks, 4, (some .int), 4057, 1001),
  (yX11_fewest, cX11_fewest, 7, (some .int), 4071, 1001),
  (yX11_crossed, cX11_crossed, 4, (some .int), 4081, 1001),
  (yX11_noon, cX11_noon, 3, (some .int), 4085, 1001),
  (yX11_firstNoon, cX11_firstNoon, 4, (some .int), 4093, 1001),
  (yX11_waits, cX11_waits, 6, (some .int), 4097, 1001),
  (yX11_mender, cX11_mender, 8, (some .int), 4104, 1001),
  (yX11_bestDay, cX11_bestDay, 7, (some .int), 4112, 1001),
  (yX11_latest, cX11_latest, 5, (some .int), 4116, 1001),
  (yX11_seed, cX11_seed, 3, (some .int), 4120, 1001),
  (yX11_draw, cX11_draw, 2, (some .int), 4124, 1001),
  (yX11_often, cX11_often, 9, (some .int), 4135, 1001),
  (yX11_lost, cX11_lost, 5, (some .int), 4139, 1001),
  (yX11_isT, cX11_isT, 1, (some .boolean), 3171, 1001),
  (yX11_isMinute, cX11_isMinute, 1, (some .boolean), 3223, 1001),
  (yX11_isBound, cX11_isBound, 1, (some .boolean), 4037, 1001),
  (yX11_isCry, cX11_isCry, 3, (some .boolean), 3168, 1001),
  (yX11_isSet, cX11_isSet, 2, (some .boolean), 4061, 1001),
  (yX11_cryBothWays, cX11_cryBothWays, 3, none, 4002, 1001),
  (yX11_cryOneWay, cX11_cryOneWay, 4, none, 3175, 1001),
  (yX11_drawnAfter, cX11_drawnAfter, 1, (some .int), 4127, 1001),
  (yX11_windDrawn, cX11_windDrawn, 1, (some .int), 4131, 1001),
  (yX11_takeUnaddedOffs, cX11_takeUnaddedOffs, 6, (some .boolean), 4045, 1001),
  (yX11_farthestOverDays, cX11_farthestOverDays, 5, (some .int), 4049, 1001),
  (yX11_report, cX11_report, 4, (some .int), 4143, 1001),
  (yX11_forget, cX11_forget, 2, (some .int), 4147, 1001),
  (yX11_fits, cX11_fits, 7, (some .int), 4151, 1001),
  (yX11_liar, cX11_liar, 5, (some .int), 4159, 1001),
  (yX11_wrongReports, cX11_wrongReports, 4, (some .int), 4155, 1001),
  (yX11_prove, cX11_prove, 6, (some .int), 4163, 1001),
  (yX11_row, cX11_row, 3, (some .int), 4167, 1001),
  (yX11_alterRow, cX11_alterRow, 5, (some .int), 4175, 1001),
  (yX11_judge, cX11_judge, 6, (some .int), 4179, 1001),
  (yX11_isInRows, cX11_isInRows, 3, (some .boolean), 4171, 1001),
  (yX11_isRowOfAsked, cX11_isRowOfAsked, 3, (some .boolean), 4183, 1001),
  (yX11_sheet, cX11_sheet, 4, (some .int), 4187, 1001),
  (yX11_write, cX11_write, 4, (some .int), 4197, 1001),
  (yX11_item, cX11_item, 4, (some .int), 4208, 1001),
  (yX11_adds, cX11_adds, 6, (some .int), 4212, 1001),
  (yX11_shelf, cX11_shelf, 4, (some .int), 4217, 1001),
  (yX11_taken, cX11_taken, 5, (some .int), 4224, 1001),
  (yX11_act, cX11_act, 7, (some .int), 4233, 1001),
  (yX11_trace, cX11_trace, 2, (some .int), 5086, 1001),
  (yX11_many, cX11_many, 2, (some .int), 5090, 1001),
  (yX11_isSheet, cX11_isSheet, 1, (some .boolean), 4190, 1001),
  (yX11_isSort, cX11_isSort, 1, (some .boolean), 4193, 1001),
  (yX11_isItem, cX11_isItem, 3, (some .boolean), 4201, 1001),
  (yX11_narrowed, cX11_narrowed, 2, (some .int), 4204, 1001),
  (yX11_isShelf, cX11_isShelf, 1, (some .boolean), 4220, 1001),
  (yX11_isTowerOnShelf, cX11_isTowerOnShelf, 2, (some .boolean), 4228, 1001),
  (yX11_keep, cX11_keep, 1, (some .int), 5094, 1001),
  (yX11_again, cX11_again, 1, (some .int), 5104, 1001),
  (yX12_init, cX12_init, 2, none, 5109, 1013),
  (yX12_in, cX12_in, 6, (some .boolean), 5227, 1013),
  (yX12_isTower, cX12_isTower, 2, (some .boolean), 6004, 1013),
  (yX12_isDay, cX12_isDay, 1, (some .boolean), 6042, 1013),
  (yX12_isTime, cX12_isTime, 1, (some .boolean), 6060, 1013),
  (yX12_has, cX12_has, 2, (some .boolean), 6072, 1013),
  (yX12_size, cX12_size, 1, (some .int), 6121, 1013),
  (yX12_puts, cX12_puts, 2, none, 7034, 1013),
  (yX12_putsBack, cX12_putsBack, 2, none, 7125, 1013),
  (yX12_at, cX12_at, 2, (some .int), 5236, 1013),
  (yX12_its, cX12_its, 3, (some .int), 6013, 1013),
  (yX12_isPart, cX12_isPart, 2, (some .boolean), 5230, 1013),
  (yX12_tower, cX12_tower, 6, (some .int), 5223, 1013),
  (yX12_isUnder, cX12_isUnder, 2, (some .boolean), 6016, 1013),
  (yX12_fact, cX12_fact, 3, (some .int), 6024, 1013),
  (yX12_isHolding, cX12_isHolding, 3, (some .boolean), 6027, 1013),
  (yX12_isSo, cX12_isSo, 7, (some .boolean), 6020, 1013),
  (yX12_asks, cX12_asks, 8, none, 6009, 1013),
  (yX12_towerOf, cX12_towerOf, 4, (some .int), 6000, 1013),
  (yX12_change, cX12_change, 5, (some .int), 6031, 1013),
  (yX12_turn, cX12_turn, 4, (some .int), 6035, 1013),
  (yX12_day, cX12_day, 3, (some .int), 6039, 1013),
  (yX12_wind, cX12_wind, 4, (some .int), 6047, 1013),
  (yX12_pace, cX12_pace, 2, (some .int), 6053, 1013),
  (yX12_quiets, cX12_quiets, 2, none, 6065, 1013),
  (yX12_goes, cX12_goes, 11, none, 6069, 1013),
  (yX12_goesBoth, cX12_goesBoth, 3, none, 6102, 1013),
  (yX12_comers, cX12_comers, 3, (some .int), 6077, 1013),
  (yX12_offOf, cX12_offOf, 2, (some .int), 6114, 1013),
  (yX12_cry, cX12_cry, 5, (some .int), 6057, 1013),
  (yX12_shows, cX12_shows, 3, (some .int), 6081, 1013),
  (yX12_holders, cX12_holders, 3, (some .int), 6090, 1013),
  (yX12_hush, cX12_hush, 3, (some .int), 6086, 1013),
  (yX12_isAsk, cX12_isAsk, 4, (some .boolean), 6098, 1013),
  (yX12_comes, cX12_comes, 4, (some .int), 6094, 1013),
  (yX12_holds, cX12_holds, 4, (some .int), 6106, 1013),
  (yX12_off, cX12_off, 4, (some .int), 6110, 1013),
  (yX12_worst, cX12_worst, 7, (some .int), 6118, 1013),
  (yX12_within, cX12_within, 6, (some .int), 6125, 1013),
  (yX12_farthest, cX12_farthest, 8, (some .int), 6134, 1013),
  (yX12_bestAdd, cX12_bestAdd, 9, (some .int), 6130, 1013),
  (yX12_clocked, cX12_clocked, 6, (some .int), 6142, 1013),
  (yX12_clocks, cX12_clocks, 4, (some .int), 6138, 1013),
  (yX12_ones, cX12_ones, 3, (some .int), 6149, 1013),
  (yX12_fewest, cX12_fewest, 6, (some .int), 6146, 1013),
  (yX12_crossed, cX12_crossed, 6, (some .int), 6153, 1013),
  (yX12_fromFirst, cX12_fromFirst, 3, none, 6161, 1013),
  (yX12_noonOf, cX12_noonOf, 2, (some .int), 6165, 1013),
  (yX12_noon, cX12_noon, 3, (some .int), 6157, 1013),
  (yX12_firstNoon, cX12_firstNoon, 4, (some .int), 6169, 1013),
  (yX12_waits, cX12_waits, 7, (some .int), 6173, 1013),
  (yX12_offs, cX12_offs, 3, (some .int), 6181, 1013),
  (yX12_mender, cX12_mender, 8, (some .int), 6177, 1013),
  (yX12_bestDay, cX12_bestDay, 8, (some .int), 6185, 1013),
  (yX12_latest, cX12_latest, 5, (some .int), 6189, 1013),
  (yX12_seed, cX12_seed, 3, (some .int), 6193, 1013),
  (yX12_draws, cX12_draws, 2, none, 6201, 1013),
  (yX12_draw, cX12_draw, 2, (some .int), 6197, 1013),
  (yX12_often, cX12_often, 9, (some .int), 6206, 1013),
  (yX12_lost, cX12_lost, 4, (some .int), 6211, 1013),
  (yX12_report, cX12_report, 3, (some .int), 6215, 1013),
  (yX12_forget, cX12_forget, 2, (some .int), 6219, 1013),
  (yX12_isFit, cX12_isFit, 5, (some .boolean), 6232, 1013),
  (yX12_findFits, cX12_findFits, 4, none, 6228, 1013),
  (yX12_fits, cX12_fits, 3, (some .int), 6223, 1013),
  (yX12_liar, cX12_liar, 3, (some .int), 6236, 1013),
  (yX12_prove, cX12_prove, 5, (some .int), 7000, 1013),
  (yX12_isRow, cX12_isRow, 3, (some .boolean), 7008, 1013),
  (yX12_row, cX12_row, 3, (some .int), 7004, 1013),
  (yX12_alterRow, cX12_alterRow, 5, (some .int), 7012, 1013),
  (yX12_isBrought, cX12_isBrought, 9, (some .boolean), 7020, 1013),
  (yX12_judge, cX12_judge, 4, (some .int), 7016, 1013),
  (yX12_feed, cX12_feed, 5, (some .int), 7024, 1013),
  (yX12_byteAt, cX12_byteAt, 2, (some .int), 7042, 1013),
  (yX12_isLetter, cX12_isLetter, 1, (some .boolean), 7045, 1013),
  (yX12_isDigit, cX12_isDigit, 1, (some .boolean), 7050, 1013),
  (yX12_token, cX12_token, 3, none, 7038, 1013),
  (yX12_needs, cX12_needs, 2, none, 7076, 1013),
  (yX12_word, cX12_word, 4, (some .long), 7064, 1013),
  (yX12_number, cX12_number, 4, none, 7116, 1013),
  (yX12_kindHere, cX12_kindHere, 3, (some .int), 7060, 1013),
  (yX12_factHere, cX12_factHere, 3, (some .int), 7102, 1013),
  (yX12_writes, cX12_writes, 2, none, 7112, 1013),
  (yX12_valueHere, cX12_valueHere, 2, none, 7098, 1013),
  (yX12_comparison, cX12_comparison, 2, none, 7094, 1013),
  (yX12_one, cX12_one, 2, none, 7089, 1013),
  (yX12_all, cX12_all, 1, none, 7085, 1013),
  (yX12_condition, cX12_condition, 1, none, 7081, 1013),
  (yX12_rule, cX12_rule, 7, none, 7056, 1013),
  (yX12_rules, cX12_rules, 1, (some .int), 7030, 1013),
  (yX12_isOne, cX12_isOne, 1, (some .boolean), 7132, 1013),
  (yX12_sheet, cX12_sheet, 5, (some .int), 7129, 1013),
  (yX12_narrowed, cX12_narrowed, 2, (some .int), 7141, 1013),
  (yX12_write, cX12_write, 4, (some .int), 7138, 1013),
  (yX12_wrong, cX12_wrong, 3, (some .int), 7149, 1013),
  (yX12_item, cX12_item, 5, (some .int), 7145, 1013),
  (yX12_adds, cX12_adds, 7, (some .int), 7153, 1013),
  (yX12_shelf, cX12_shelf, 4, (some .int), 7158, 1013),
  (yX12_onShelf, cX12_onShelf, 2, (some .int), 7168, 1013),
  (yX12_taken, cX12_taken, 5, (some .int), 7162, 1013),
  (yX12_runs, cX12_runs, 2, none, 7180, 1013),
  (yX12_cries, cX12_cries, 2, (some .int), 7176, 1013),
  (yX12_hears, cX12_hears, 4, (some .int), 7184, 1013),
  (yX12_parts, cX12_parts, 2, (some .int), 7192, 1013),
  (yX12_shares, cX12_shares, 3, (some .int), 7188, 1013),
  (yX12_tells, cX12_tells, 3, (some .int), 7196, 1013),
  (yX12_act, cX12_act, 5, (some .int), 7172, 1013),
  (yX12_traced, cX12_traced, 1, (some .int), 7204, 1013),
  (yX12_trace, cX12_trace, 2, (some .int), 7200, 1013),
  (yX12_many, cX12_many, 2, (some .int), 7208, 1013),
  (yX12_keep, cX12_keep, 2, (some .int), 7212, 1013),
  (yX12_again, cX12_again, 2, (some .int), 7216, 1013),
  (yJ6_bitCount_0f7a4, cJ6_bitCount_0f7a4, 1, (some .int), 4074, 1021),
  (yJ7_fill_53178, cJ7_fill_53178, 4, none, 3234, 1019),
  (yL_law, cL_law, 4, ret, 0, 0)]
def mJt : List (MethodName × ByteArray × Nat × Option FieldType × Nat × Nat) := [(yJ0_length_8abf5, cJ0_length_8abf5, 1, (some .int), 3029, 1014), (yJ0_charAt_5068e, cJ0_charAt_5068e, 2, (some .char), 3039, 1014)]
def mX : Nat → Nat := fun k => (([2, 4, 3, 4, 5, 4, 3, 3, 2, 5, 2, 3, 2, 2, 3, 2, 2, 2, 2, 2, 2, 2, 2, 2, 2, 1, 1, 2, 3, 4, 6, 4, 2, 4, 2, 1, 2, 1, 1, 2, 2, 1, 2, 1, 2, 1, 1, 1, 1, 2, 2, 1, 1, 1, 3, 2, 2, 2, 2, 5, 5, 2, 2, 2, 1, 1, 2, 1, 2, 3, 3, 3, 5, 2, 2, 2, 2, 3, 2, 1, 6, 3, 6, 4, 3, 4, 2, 1, 2, 1, 2, 5, 2, 5, 3, 2, 4, 4, 4, 6, 6, 9, 4, 7, 4, 3, 4, 6, 8, 7, 5, 3, 2, 9, 5, 1, 1, 1, 3, 2, 3, 4, 1, 1, 6, 5, 4, 2, 7, 5, 4, 6, 3, 5, 6, 3, 3, 4, 4, 4, 6, 4, 5, 7, 2, 2, 1, 1, 3, 2, 1, 2, 1, 1, 2, 6, 2, 1, 1, 2, 1, 2, 2, 2, 3, 2, 6, 2, 3, 3, 7, 8, 4, 5, 4, 3, 4, 2, 2, 11, 3, 3, 2, 5, 3, 3, 3, 4, 4, 4, 4, 7, 6, 8, 9, 6, 4, 3, 6, 6, 3, 2, 3, 4, 7, 3, 8, 8, 5, 3, 2, 2, 9, 4, 3, 2, 5, 4, 3, 3, 5, 3, 3, 5, 9, 4, 5, 2, 1, 1, 3, 2, 4, 4, 3, 3, 2, 2, 2, 2, 1, 1, 7, 1, 1, 5, 2, 4, 3, 5, 7, 4, 2, 5, 2, 2, 4, 2, 3, 3, 5, 1, 2, 2, 2, 2, 1, 4, 4] : List Nat)[k]?).getD 0
