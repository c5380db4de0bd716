import java.util.Arrays;

/** Time shouted down the valley: what the document ../shared/DOC.md promises, by its numbers. */
public final class ShoutedHour {
    public static final int BAD = -1, FULL = -2, NONE = -3, STATE = -4;

    private static final int NOTHING = -11, OUTSIDE = -12, OTHER_SORT = -13, BELOW_0 = -14, PARTED_BY_0 = -15;
    private static final int NO_SUCH = -9;

    private static final int WATCHMAN = 0, PLAIN = 1, PROUD = 2, DRUNK = 3, MENDER = 4, SLEEPER = 5;
    private static final int MOST_TOWERS = 9, DAYS = 7, MOST_WIND = 3, MOST_REPORTS = 6, MOST_RULES = 8, MOST_BYTES = 200;
    private static final int MOST_ADD = 99, MOST_DELAY = 9, MOST_MILES = 20;
    private static final int LAST_T = 1439, LAST_MINUTE = 9999, LAST_HOUR = 9999, MOST_BOUND = 999, MOST_MORNINGS = 60;
    private static final int MIDDAY = 720, WAKING = 360, DRINKING_DAY = 6, MINUTES_A_MILE = 4, WALK_A_MILE = 20;
    /** What is told with so much more, so that it isn't taken for a refusal. */
    private static final int MORE = 10000, MORE_WIND = 100;
    private static final int NOT_HELD = -9;

    private static final int SHEETS = 4, MOST_ITEMS = 40, SHELVES = 4;
    private static final int MISSING = -1, BYTES = 0, SHORTS = 1, BOOLEANS = 4;
    private static final int HOLDS_TOWER = 0, HOLDS_ROW = 1, HOLDS_NOTHING = 2;
    private static final int FIRST_ROW_AS = 10;

    private final Valley now = new Valley();
    private final Valley kept = new Valley();
    private boolean isKept = false;
    private final RuleReader reader = new RuleReader();
    private final Cry asked = new Cry(now);
    /** A second cry, for what asks about two at once. */
    private final Cry second = new Cry(now);
    /** For bestAdd(), by DAYS: whether it comes to the TOWER, and what OFF would be if he added nothing. */
    private final boolean[] comesOnDay = new boolean[DAYS];
    private final int[] unaddedOff = new int[DAYS];

    private int rowCount = 0;
    private final int[][] rows = new int[MOST_TOWERS][3];

    private final int[] sheetSort = {MISSING, MISSING, MISSING, MISSING};
    private final int[] sheetLength = new int[SHEETS];
    private final int[][] sheetItems = new int[SHEETS][MOST_ITEMS];

    private final int[] shelfHolds = {HOLDS_NOTHING, HOLDS_NOTHING, HOLDS_NOTHING, HOLDS_NOTHING};
    /** Of a TOWER its number, of a row its sort. */
    private final int[] shelfThing = new int[SHELVES];
    private final int[] shelfLength = new int[SHELVES];

    private final Trace ran = new Trace();
    /** A thing of each KIND, at the KIND's number. */
    private final Watchman[] things = {new Watchman(ran), new Plain(ran), new Proud(ran),
        new Drunk(ran), new Mender(ran), new Sleeper(ran)};

    public ShoutedHour() {
    }

    // ---- the valley

    public int tower(int kind, int add, int delay, int miles) {
        if (!isTowerKind(kind) || !isMeasure(1, add) || !isMeasure(2, delay) || !isMeasure(3, miles)) {
            return BAD;
        }
        if (now.towers >= MOST_TOWERS) {
            return FULL;
        }
        int k = now.towers++;
        now.kind[k] = kind;
        now.add[k] = add;
        now.delay[k] = delay;
        now.miles[k] = miles;
        now.held[k] = NOT_HELD;
        now.came[k] = NOT_HELD;
        return k;
    }

    public int towerOf(int k, int what) {
        if (!now.isTower(k)) {
            return BAD;
        }
        switch (what) {
            case 0: return now.kind[k];
            case 1: return now.add[k];
            case 2: return now.delay[k];
            case 3: return now.miles[k];
            case 4: return now.addedBy(now.ruleFor(k, now.day), k, now.day);
            case 5: return now.book.isSilent(now.ruleFor(k, now.day)) ? 1 : 0;
            case 6: return now.held[k];
            case 7: return now.came[k];
            default: return BAD;
        }
    }

    public int change(int k, int what, int v) {
        if (!now.isTower(k) || !isMeasure(what, v)) {
            return BAD;
        }
        int[] measures = what == 1 ? now.add : what == 2 ? now.delay : now.miles;
        int was = measures[k];
        measures[k] = v;
        return was;
    }

    public int turn(int k, int kind) {
        if (!now.isTower(k) || !isTowerKind(kind)) {
            return BAD;
        }
        int was = now.kind[k];
        now.kind[k] = kind;
        return was;
    }

    public int day(int v) {
        if (!isDay(v)) {
            return BAD;
        }
        int was = now.day;
        now.day = v;
        return was;
    }

    public int wind(int day, int v) {
        if (!isDay(day) || v < -MOST_WIND || v > MOST_WIND) {
            return BAD;
        }
        int was = now.wind[day];
        now.wind[day] = v;
        return was + MORE_WIND;
    }

    public int pace(boolean west) {
        return now.minutesAMile(now.day, west);
    }

    private static boolean isTowerKind(int kind) {
        return kind >= PLAIN && kind <= SLEEPER;
    }

    /** Whether v may be what a TOWER has: 1 ADD, 2 DELAY, 3 MILES. */
    private static boolean isMeasure(int what, int v) {
        switch (what) {
            case 1: return v >= 0 && v <= MOST_ADD;
            case 2: return v >= 0 && v <= MOST_DELAY;
            case 3: return v >= 1 && v <= MOST_MILES;
            default: return false;
        }
    }

    private static boolean isDay(int day) {
        return day >= 0 && day < DAYS;
    }

    private static boolean isUnder(int kind, int above) {
        return kind == above || above == WATCHMAN
            || kind == DRUNK && above == PROUD || kind == SLEEPER && above == MENDER;
    }

    // ---- the rules

    public int feed(long eight, int n) {
        if (n < 1 || n > 8) {
            return BAD;
        }
        if (reader.bytes + n > MOST_BYTES) {
            return FULL;
        }
        for (int i = 0; i < n; i++) {
            reader.tape[reader.bytes + i] = (byte) (eight >>> 8 * i);
        }
        reader.bytes += n;
        return reader.bytes;
    }

    public int rules() {
        int fault = reader.readTape();
        reader.bytes = 0;
        if (fault != RuleReader.NO_FAULT) {
            return -100 - fault;
        }
        now.book.copyFrom(reader.draft);
        return now.book.count;
    }

    // ---- cries

    public int cry(int from, int t, boolean west) {
        if (!isCry(from, t)) {
            return BAD;
        }
        cryOneWay(from, t, west);
        for (int k = 0; k < now.towers; k++) {
            if (asked.reaches(k)) {
                now.held[k] = asked.held[k];
                now.came[k] = asked.came[k];
            }
        }
        return asked.reached();
    }

    public int shows(int k, int minute) {
        if (!now.isTower(k) || !isMinute(minute)) {
            return BAD;
        }
        if (now.came[k] == NOT_HELD) {
            return NONE;
        }
        return minute < now.came[k] ? STATE : now.held[k] + minute - now.came[k];
    }

    public int hush() {
        int holding = now.holding();
        Arrays.fill(now.held, NOT_HELD);
        Arrays.fill(now.came, NOT_HELD);
        return holding;
    }

    public int comes(int from, int t, int k) {
        if (!isCry(from, t) || !now.isTower(k)) {
            return BAD;
        }
        cryBothWays(from, t);
        return asked.reaches(k) ? asked.came[k] : NONE;
    }

    public int holds(int from, int t, int k) {
        if (!isCry(from, t) || !now.isTower(k)) {
            return BAD;
        }
        cryBothWays(from, t);
        return asked.reaches(k) ? asked.held[k] : NONE;
    }

    public int off(int from, int t, int k) {
        if (!isCry(from, t) || !now.isTower(k)) {
            return BAD;
        }
        cryBothWays(from, t);
        return asked.reaches(k) ? asked.offOf(k) + MORE : NONE;
    }

    public int worst(int from, int t) {
        if (!isCry(from, t)) {
            return BAD;
        }
        cryBothWays(from, t);
        int worst = from;
        int farthest = -1;
        for (int k = 0; k < now.towers; k++) {
            if (asked.reaches(k) && asked.distanceOf(k) > farthest) {
                worst = k;
                farthest = asked.distanceOf(k);
            }
        }
        return worst;
    }

    public int within(int from, int t, int bound) {
        if (!isCry(from, t) || !isBound(bound)) {
            return BAD;
        }
        cryBothWays(from, t);
        int near = 0;
        for (int k = 0; k < now.towers; k++) {
            if (asked.reaches(k) && asked.distanceOf(k) <= bound) {
                near++;
            }
        }
        return near;
    }

    public int bestAdd(int k, int from, int t) {
        if (!now.isTower(k) || !isCry(from, t) || k == from) {
            return BAD;
        }
        int was = now.add[k];
        int best = NONE;
        int nearest = 0;
        if (takeUnaddedOffs(k, from, t)) {
            for (int add = 0; add <= MOST_ADD; add++) {
                now.add[k] = add;
                int farthest = farthestOverDays(k);
                if (best == NONE || farthest < nearest) {
                    best = add;
                    nearest = farthest;
                }
            }
        }
        now.add[k] = was;
        return best;
    }

    public int clocks(int set, int t) {
        if (!isSet(set) || !isT(t)) {
            return BAD;
        }
        asked.takeDay(now.day);
        int farthest = asked.farthestByClocks(set, t);
        return farthest < 0 ? NONE : farthest;
    }

    public int fewest(int bound, int t) {
        if (!isBound(bound) || !isT(t)) {
            return BAD;
        }
        asked.takeDay(now.day);
        int best = NONE;
        int bestSize = MOST_TOWERS + 1;
        for (int set = 1; isSet(set) && set < 1 << MOST_TOWERS; set++) {
            int farthest = asked.farthestByClocks(set, t);
            if (farthest >= 0 && farthest <= bound && Integer.bitCount(set) < bestSize) {
                best = set;
                bestSize = Integer.bitCount(set);
            }
        }
        return best;
    }

    public int crossed(int t, int u) {
        if (!isT(t) || !isT(u)) {
            return BAD;
        }
        if (now.towers == 0) {
            return NONE;
        }
        cryBothWays(0, t);
        second.takeDay(now.day);
        second.goBothWays(now.towers - 1, u);
        for (int k = 0; k < now.towers; k++) {
            if (asked.reaches(k) && second.reaches(k) && second.came[k] <= asked.came[k]) {
                return k;
            }
        }
        return NONE;
    }

    public int noon(int k, int t) {
        if (!now.isTower(k) || !isT(t)) {
            return BAD;
        }
        cryBothWays(0, t);
        return asked.reaches(k) ? asked.noonOf(k) + MORE : NONE;
    }

    public int firstNoon(int t) {
        if (!isT(t)) {
            return BAD;
        }
        if (now.towers == 0) {
            return NONE;
        }
        cryBothWays(0, t);
        int first = 0;
        for (int k = 1; k < now.towers; k++) {
            if (asked.reaches(k) && asked.noonOf(k) < asked.noonOf(first)) {
                first = k;
            }
        }
        return first;
    }

    public int waits(int from, int to, int t) {
        if (!now.isTower(from) || !now.isTower(to) || from == to || !isT(t)) {
            return BAD;
        }
        cryBothWays(0, t);
        if (!asked.reaches(from) || !asked.reaches(to)) {
            return NONE;
        }
        int miles = 0;
        for (int k = Math.min(from, to) + 1; k <= Math.max(from, to); k++) {
            miles += now.miles[k];
        }
        return asked.noonOf(to) - (asked.noonOf(from) + WALK_A_MILE * miles) + MORE;
    }

    public int mender(int from, int t) {
        if (!isCry(from, t)) {
            return BAD;
        }
        cryBothWays(from, t);
        int comesNow = asked.reached();
        int least = asked.sumOfDistances();
        int best = NONE;
        for (int k = 0; k < now.towers; k++) {
            int was = now.kind[k];
            now.kind[k] = MENDER;
            cryBothWays(from, t);
            now.kind[k] = was;
            if (asked.reached() >= comesNow && asked.sumOfDistances() < least) {
                best = k;
                least = asked.sumOfDistances();
            }
        }
        return best;
    }

    public int bestDay(int k, int from, int t) {
        if (!now.isTower(k) || !isCry(from, t)) {
            return BAD;
        }
        int best = NONE;
        int nearest = 0;
        for (int day = 0; day < DAYS; day++) {
            asked.takeDay(day);
            asked.goBothWays(from, t);
            if (asked.reaches(k) && (best == NONE || asked.distanceOf(k) < nearest)) {
                best = day;
                nearest = asked.distanceOf(k);
            }
        }
        return best;
    }

    public int latest(int from, int k, int by) {
        if (!now.isTower(from) || !now.isTower(k) || !isMinute(by)) {
            return BAD;
        }
        asked.takeDay(now.day);
        for (int t = Math.min(LAST_T, by); t >= 0; t--) {
            asked.goBothWays(from, t);
            if (asked.reaches(k) && asked.came[k] <= by) {
                return t;
            }
        }
        return NONE;
    }

    public int seed(int v) {
        int was = now.z;
        now.z = v;
        return was;
    }

    public int draw(int day) {
        if (!isDay(day)) {
            return BAD;
        }
        now.z = drawnAfter(now.z);
        now.wind[day] = windDrawn(now.z);
        return now.wind[day] + MORE_WIND;
    }

    public int often(int k, int bound, int t, int n) {
        if (!now.isTower(k) || !isBound(bound) || !isT(t) || n < 1 || n > MOST_MORNINGS) {
            return BAD;
        }
        int was = now.wind[now.day];
        int z = now.z;
        int mornings = 0;
        for (int i = 0; i < n; i++) {
            z = drawnAfter(z);
            now.wind[now.day] = windDrawn(z);
            cryBothWays(0, t);
            if (asked.reaches(k) && asked.distanceOf(k) <= bound) {
                mornings++;
            }
        }
        now.wind[now.day] = was;
        return mornings;
    }

    public int lost(int k, int t) {
        if (!now.isTower(k) || !isT(t)) {
            return BAD;
        }
        cryBothWays(0, t);
        int lost = 0;
        for (int beyond = k + 1; beyond < now.towers; beyond++) {
            if (asked.reaches(beyond)) {
                lost++;
            }
        }
        return lost;
    }

    private static boolean isT(int t) {
        return t >= 0 && t <= LAST_T;
    }

    private static boolean isMinute(int minute) {
        return minute >= 0 && minute <= LAST_MINUTE;
    }

    private static boolean isBound(int bound) {
        return bound >= 0 && bound <= MOST_BOUND;
    }

    private boolean isCry(int from, int t) {
        return now.isTower(from) && isT(t);
    }

    private boolean isSet(int set) {
        return set >= 0 && set < 1 << now.towers;
    }

    private void cryBothWays(int from, int t) {
        asked.takeDay(now.day);
        asked.goBothWays(from, t);
    }

    private void cryOneWay(int from, int t, boolean west) {
        asked.takeDay(now.day);
        asked.goOneWay(from, t, west);
    }

    private static int drawnAfter(int z) {
        return z * 1103515245 + 12345;
    }

    private static int windDrawn(int z) {
        return (z >>> 16) % DAYS - MOST_WIND;
    }

    /** Fills comesOnDay and unaddedOff for a TOWER; whether it comes to it on any DAY. */
    private boolean takeUnaddedOffs(int k, int from, int t) {
        boolean any = false;
        for (int day = 0; day < DAYS; day++) {
            asked.takeDay(day);
            asked.goBothWays(from, t);
            comesOnDay[day] = asked.reaches(k);
            unaddedOff[day] = asked.offOf(k) - asked.adds[k];
            any = any || comesOnDay[day];
        }
        return any;
    }

    /** The OFF farthest from 0 of a TOWER as it is now, by the DAYS that takeUnaddedOffs left. */
    private int farthestOverDays(int k) {
        int farthest = 0;
        for (int day = 0; day < DAYS; day++) {
            if (comesOnDay[day]) {
                int adds = now.addedBy(now.ruleFor(k, day), k, day);
                farthest = Math.max(farthest, Math.abs(unaddedOff[day] + adds));
            }
        }
        return farthest;
    }

    // ---- reports

    public int report(int k, int hour) {
        if (!now.isTower(k) || hour < 0 || hour > LAST_HOUR) {
            return BAD;
        }
        if (now.reports >= MOST_REPORTS) {
            return FULL;
        }
        int i = now.reports++;
        now.reportTower[i] = k;
        now.reportHour[i] = hour;
        return i;
    }

    public int forget() {
        int were = now.reports;
        now.reports = 0;
        return were;
    }

    public int fits(int from, int what) {
        if (!now.isTower(from) || what < 0 || what > 2) {
            return BAD;
        }
        asked.takeDay(now.day);
        int many = 0;
        int first = NONE;
        int last = NONE;
        for (int t = 0; t <= LAST_T; t++) {
            asked.goBothWays(from, t);
            if (wrongReports() == 0) {
                many++;
                first = first == NONE ? t : first;
                last = t;
            }
        }
        return what == 0 ? many : what == 1 ? first : last;
    }

    public int liar(int from) {
        if (!now.isTower(from)) {
            return BAD;
        }
        asked.takeDay(now.day);
        int liars = 0;
        for (int t = 0; t <= LAST_T; t++) {
            asked.goBothWays(from, t);
            int wrong = wrongReports();
            if (wrong == 0) {
                return NONE;
            }
            // but for a report some t fits just when that one alone is wrong by it
            if (Integer.bitCount(wrong) == 1) {
                liars |= wrong;
            }
        }
        for (int i = 0; i < now.reports; i++) {
            if ((liars >>> i & 1) == 1) {
                return i;
            }
        }
        return NONE;
    }

    /** The set of the REPORTS that the cry asked last doesn't bear out. */
    private int wrongReports() {
        int wrong = 0;
        for (int i = 0; i < now.reports; i++) {
            int k = now.reportTower[i];
            if (!asked.reaches(k) || asked.held[k] != now.reportHour[i]) {
                wrong |= 1 << i;
            }
        }
        return wrong;
    }

    // ---- rows

    public int prove(int from, int t, boolean west) {
        if (!isCry(from, t)) {
            return BAD;
        }
        cryOneWay(from, t, west);
        rowCount = asked.reached();
        for (int i = 0; i < rowCount; i++) {
            int k = west ? from + i : from - i;
            if (now.isTower(k)) {
                rows[i][0] = k;
                rows[i][1] = asked.came[k];
                rows[i][2] = asked.held[k];
            }
        }
        return rowCount;
    }

    public int row(int i, int what) {
        return isInRows(i, what) ? rows[i][what] : NO_SUCH;
    }

    public int alterRow(int i, int what, int v) {
        if (!isInRows(i, what)) {
            return NO_SUCH;
        }
        int was = rows[i][what];
        rows[i][what] = v;
        return was;
    }

    public int judge(boolean west) {
        if (rowCount == 0) {
            return 0;
        }
        int from = rows[0][0];
        int t = rows[0][1];
        if (!isCry(from, t) || rows[0][2] != t) {
            return 1;
        }
        cryOneWay(from, t, west);
        // the rows ahead of row i are right by then: what they bring is what the first one brings
        for (int i = 1; i < rowCount; i++) {
            int k = west ? from + i : from - i;
            if (!now.isTower(k) || !asked.reaches(k) || !isRowOfAsked(i, k)) {
                return i + 1;
            }
        }
        return 0;
    }

    private boolean isInRows(int i, int what) {
        return i >= 0 && i < rowCount && what >= 0 && what <= 2;
    }

    private boolean isRowOfAsked(int i, int k) {
        return rows[i][0] == k && rows[i][1] == asked.came[k] && rows[i][2] == asked.held[k];
    }

    // ---- the host

    public int sheet(int sheet, int sort, int n) {
        if (!isSheet(sheet) || sort != MISSING && !isSort(sort)) {
            return BAD;
        }
        if (sort == MISSING) {
            sheetSort[sheet] = MISSING;
            return 1;
        }
        if (n > MOST_ITEMS) {
            return BAD;
        }
        if (n < 0) {
            return BELOW_0;
        }
        sheetSort[sheet] = sort;
        sheetLength[sheet] = n;
        Arrays.fill(sheetItems[sheet], 0);
        return 1;
    }

    public int write(int sheet, int i, int v) {
        if (!isSheet(sheet)) {
            return BAD;
        }
        if (sheetSort[sheet] == MISSING) {
            return NOTHING;
        }
        if (!isItem(sheet, i)) {
            return OUTSIDE;
        }
        sheetItems[sheet][i] = narrowed(sheetSort[sheet], v);
        return 1;
    }

    public int item(int sheet, int sort, int i) {
        if (!isSheet(sheet) || !isSort(sort)) {
            return BAD;
        }
        if (sheetSort[sheet] == MISSING) {
            return NOTHING;
        }
        if (sheetSort[sheet] != sort) {
            return OTHER_SORT;
        }
        return isItem(sheet, i) ? sheetItems[sheet][i] : OUTSIDE;
    }

    public int adds(int sheet, int i, int n) {
        if (!isSheet(sheet) || n < 0 || n > MOST_TOWERS) {
            return BAD;
        }
        // these refuse the sheet itself, even where no item of it is asked
        if (sheetSort[sheet] == MISSING) {
            return NOTHING;
        }
        if (sheetSort[sheet] != BYTES) {
            return OTHER_SORT;
        }
        int came = 0;
        for (int k = 0; k < n; k++) {
            if (!isItem(sheet, i + k)) {
                return OUTSIDE;
            }
            if (change(k, 1, sheetItems[sheet][i + k]) != BAD) {
                came++;
            }
        }
        return came;
    }

    public int shelf(int shelf, int what, int n) {
        if (!isShelf(shelf)) {
            return BAD;
        }
        switch (what) {
            case HOLDS_TOWER:
                if (!now.isTower(n)) {
                    return BAD;
                }
                shelfHolds[shelf] = HOLDS_TOWER;
                shelfThing[shelf] = n;
                return 1;
            case HOLDS_ROW:
                if (!isSheet(n)) {
                    return BAD;
                }
                // the row itself is held: a sheet that becomes another row later leaves it as it is
                shelfHolds[shelf] = sheetSort[n] == MISSING ? HOLDS_NOTHING : HOLDS_ROW;
                shelfThing[shelf] = sheetSort[n];
                shelfLength[shelf] = sheetLength[n];
                return 1;
            case HOLDS_NOTHING:
                shelfHolds[shelf] = HOLDS_NOTHING;
                return 1;
            default:
                return BAD;
        }
    }

    public int taken(int shelf, int as) {
        boolean asKind = as >= WATCHMAN && as <= SLEEPER;
        if (!isShelf(shelf) || !asKind && !isSort(as - FIRST_ROW_AS)) {
            return BAD;
        }
        int thing = shelfThing[shelf];
        if (isTowerOnShelf(shelf)) {
            return asKind && isUnder(now.kind[thing], as) ? thing : OTHER_SORT;
        }
        if (shelfHolds[shelf] == HOLDS_ROW) {
            return thing == as - FIRST_ROW_AS ? shelfLength[shelf] : OTHER_SORT;
        }
        return NOTHING;
    }

    public int act(int shelf, int act, int x) {
        ran.clear();
        if (!isShelf(shelf) || act < 0 || act > 3 || !isTowerOnShelf(shelf)) {
            return 0;
        }
        int k = shelfThing[shelf];
        Watchman thing = things[now.kind[k]];
        thing.n = k;
        thing.a = now.delay[k];
        int answer;
        switch (act) {
            case 0: answer = thing.cries(x); break;
            case 1: answer = thing.hears(x); break;
            case 2: answer = thing.shares(x); break;
            default: answer = thing.tells(x); break;
        }
        return ran.isParted ? PARTED_BY_0 : answer;
    }

    public int trace(int i) {
        return i >= 0 && i < ran.count ? ran.bodies[i] : NONE;
    }

    public int many(int what) {
        switch (what) {
            case 0: return now.towers;
            case 1: return now.book.count;
            case 2: return now.reports;
            case 3: return rowCount;
            case 4: return now.holding();
            case 5: return reader.bytes;
            case 6: return ran.count;
            default: return BAD;
        }
    }

    private static boolean isSheet(int sheet) {
        return sheet >= 0 && sheet < SHEETS;
    }

    private static boolean isSort(int sort) {
        return sort >= BYTES && sort <= BOOLEANS;
    }

    private boolean isItem(int sheet, int i) {
        return i >= 0 && i < sheetLength[sheet];
    }

    private static int narrowed(int sort, int v) {
        switch (sort) {
            case BYTES: return (byte) v;
            case SHORTS: return (short) v;
            case BOOLEANS: return v != 0 ? 1 : 0;
            default: return v;
        }
    }

    private static boolean isShelf(int shelf) {
        return shelf >= 0 && shelf < SHELVES;
    }

    private boolean isTowerOnShelf(int shelf) {
        return shelfHolds[shelf] == HOLDS_TOWER && now.isTower(shelfThing[shelf]);
    }

    // ---- kept

    public int keep() {
        kept.copyFrom(now);
        isKept = true;
        return 1;
    }

    public int again() {
        if (!isKept) {
            return NONE;
        }
        now.copyFrom(kept);
        return now.towers;
    }

    /** All that keep() keeps. */
    private static final class Valley {
        int towers = 0;
        final int[] kind = new int[MOST_TOWERS];
        final int[] add = new int[MOST_TOWERS];
        final int[] delay = new int[MOST_TOWERS];
        final int[] miles = new int[MOST_TOWERS];
        final int[] held = new int[MOST_TOWERS];
        final int[] came = new int[MOST_TOWERS];
        int day = 0;
        final int[] wind = new int[DAYS];
        int z = 1;
        final RuleBook book = new RuleBook();
        int reports = 0;
        final int[] reportTower = new int[MOST_REPORTS];
        final int[] reportHour = new int[MOST_REPORTS];
        /** Made once and filled for each tower that is asked; in the order of RuleReader.FACTS. */
        private final int[] facts = new int[6];

        boolean isTower(int k) {
            return k >= 0 && k < towers;
        }

        int holding() {
            int holding = 0;
            for (int k = 0; k < towers; k++) {
                if (came[k] != NOT_HELD) {
                    holding++;
                }
            }
            return holding;
        }

        int minutesAMile(int day, boolean west) {
            return west ? MINUTES_A_MILE + wind[day] : MINUTES_A_MILE - wind[day];
        }

        /** Which of the rules changes what a TOWER adds on a DAY; RuleBook.NO_RULE: none. */
        int ruleFor(int k, int day) {
            facts[0] = day;
            facts[1] = wind[day] + MOST_WIND;
            facts[2] = add[k];
            facts[3] = delay[k];
            facts[4] = miles[k];
            facts[5] = k;
            return book.firstFor(kind[k], facts);
        }

        /** What a TOWER ADDS on a DAY under a rule. */
        int addedBy(int rule, int k, int day) {
            int a = book.changed(rule, add[k], miles[k]);
            switch (kind[k]) {
                case PROUD: return 2 * a;
                case DRUNK: return 2 * a + (day == DRINKING_DAY ? 10 : 0);
                case MENDER: return a + delay[k];
                case SLEEPER: return a + delay[k];
                default: return a;
            }
        }

        void copyFrom(Valley other) {
            towers = other.towers;
            System.arraycopy(other.kind, 0, kind, 0, MOST_TOWERS);
            System.arraycopy(other.add, 0, add, 0, MOST_TOWERS);
            System.arraycopy(other.delay, 0, delay, 0, MOST_TOWERS);
            System.arraycopy(other.miles, 0, miles, 0, MOST_TOWERS);
            System.arraycopy(other.held, 0, held, 0, MOST_TOWERS);
            System.arraycopy(other.came, 0, came, 0, MOST_TOWERS);
            day = other.day;
            System.arraycopy(other.wind, 0, wind, 0, DAYS);
            z = other.z;
            book.copyFrom(other.book);
            reports = other.reports;
            System.arraycopy(other.reportTower, 0, reportTower, 0, MOST_REPORTS);
            System.arraycopy(other.reportHour, 0, reportHour, 0, MOST_REPORTS);
        }
    }

    /** THE RULES; a condition is kept as steps over a row of truths, left first. */
    private static final class RuleBook {
        static final int NO_RULE = -1;
        static final int DO_ADD = 0, DO_MORE = 1, DO_MILE = 2, DO_SILENT = 3;
        /** Steps; a step with a sign compares two operands. */
        static final int OR = 1, AND = 2, NOT = 3;
        static final int LESS = 1, SAME = 2, GREATER = 3;
        static final int OPERAND_BITS = 14, OPERAND = (1 << OPERAND_BITS) - 1, SIGN_AT = 2 * OPERAND_BITS;
        /** An operand below this is a NUMBER, from here on a fact. */
        static final int FIRST_FACT = 10000;

        int count = 0;
        final int[] kind = new int[MOST_RULES];
        final int[] deed = new int[MOST_RULES];
        final int[] number = new int[MOST_RULES];
        /** Where each rule's steps end; the next one's begin there. */
        final int[] end = new int[MOST_RULES];
        int stepCount = 0;
        /** As long as THE TAPE: a step has a byte of its own there. */
        final int[] steps = new int[MOST_BYTES];

        void clear() {
            count = 0;
            stepCount = 0;
        }

        void addStep(int step) {
            if (stepCount < steps.length) {
                steps[stepCount++] = step;
            }
        }

        static int comparing(int sign, int left, int right) {
            return sign << SIGN_AT | left << OPERAND_BITS | right;
        }

        int firstFor(int itsKind, int[] facts) {
            for (int rule = 0; rule < count; rule++) {
                if (isUnder(itsKind, kind[rule]) && isMet(rule, facts)) {
                    return rule;
                }
            }
            return NO_RULE;
        }

        /** The truths stand in the bits of one int, the latest lowest: fewer than ten wait at once. */
        private boolean isMet(int rule, int[] facts) {
            int truths = 1;
            for (int i = rule == 0 ? 0 : end[rule - 1]; i < end[rule]; i++) {
                int earlier = truths >>> 1;
                switch (steps[i]) {
                    case OR: truths = earlier | truths & 1; break;
                    case AND: truths = (truths & 1) == 1 ? earlier : earlier & ~1; break;
                    case NOT: truths = truths ^ 1; break;
                    default: truths = truths << 1 | (isTrue(steps[i], facts) ? 1 : 0); break;
                }
            }
            return (truths & 1) == 1;
        }

        private static boolean isTrue(int comparison, int[] facts) {
            int left = comparison >>> OPERAND_BITS & OPERAND;
            int right = comparison & OPERAND;
            if (left >= FIRST_FACT && left - FIRST_FACT < facts.length) {
                left = facts[left - FIRST_FACT];
            }
            if (right >= FIRST_FACT && right - FIRST_FACT < facts.length) {
                right = facts[right - FIRST_FACT];
            }
            switch (comparison >>> SIGN_AT) {
                case LESS: return left < right;
                case SAME: return left == right;
                default: return left > right;
            }
        }

        boolean isSilent(int rule) {
            return rule >= 0 && rule < count && deed[rule] == DO_SILENT;
        }

        /** What ADD becomes under a rule. */
        int changed(int rule, int add, int miles) {
            if (rule < 0 || rule >= count) {
                return add;
            }
            switch (deed[rule]) {
                case DO_ADD: return number[rule];
                case DO_MORE: return add + number[rule];
                case DO_MILE: return number[rule] * miles;
                default: return add;
            }
        }

        void copyFrom(RuleBook other) {
            count = other.count;
            System.arraycopy(other.kind, 0, kind, 0, MOST_RULES);
            System.arraycopy(other.deed, 0, deed, 0, MOST_RULES);
            System.arraycopy(other.number, 0, number, 0, MOST_RULES);
            System.arraycopy(other.end, 0, end, 0, MOST_RULES);
            stepCount = other.stepCount;
            System.arraycopy(other.steps, 0, steps, 0, MOST_BYTES);
        }
    }

    /** Reads THE TAPE token by token; what may stand next is told by a state, so nothing here recurs. */
    private static final class RuleReader {
        static final int NO_FAULT = -1;
        private static final int MOST_OPEN = 3, MOST_DIGITS = 4;
        /** Each name's place is its number: KINDS, RuleBook.DO_..., Valley.facts. */
        private static final String KINDS = "watchman plain proud drunk mender sleeper ";
        private static final String DEEDS = "add more mile silent ";
        private static final String FACTS = "day wind add delay miles number ";
        private static final int NAME = 0, NUMBER = 1, SINGLE = 2, LONG_NUMBER = 3, END = 4;
        private static final int AT_RULE = 0, AT_DEED_OR_IF = 1, AT_ONE = 2, AT_SIGN = 3, AT_RIGHT = 4,
            AT_JOINT_OR_DEED = 5, AT_N = 6, AT_SEMICOLON = 7;
        /** Stands among the waiting steps; binds less than any of them. */
        private static final int OPEN = 0;

        int bytes = 0;
        final byte[] tape = new byte[MOST_BYTES];
        final RuleBook draft = new RuleBook();
        private int token = END;
        private int start = 0;
        private int next = 0;
        /** Of a NUMBER what it tells, of a SINGLE its byte. */
        private int value = 0;
        private int state = AT_RULE;
        private int left = 0;
        private int sign = 0;
        private int open = 0;
        /** Steps and "(" that wait for what stands right of them; each has a byte of its own on THE TAPE. */
        private final int[] waiting = new int[MOST_BYTES];
        private int waitingCount = 0;

        /** Fills the draft; the FAULT, or NO_FAULT. */
        int readTape() {
            draft.clear();
            next = 0;
            state = AT_RULE;
            open = 0;
            waitingCount = 0;
            // a token has a byte at least, and the end is the last one
            for (int tokens = 0; tokens <= bytes; tokens++) {
                readToken();
                if (token == END) {
                    return state == AT_RULE ? NO_FAULT : bytes;
                }
                if (!takesToken()) {
                    return start;
                }
            }
            return bytes;
        }

        private void readToken() {
            while (next < bytes && tape[next] == ' ') {
                next++;
            }
            start = next;
            if (next >= bytes) {
                token = END;
            } else if (isLetter(next)) {
                token = NAME;
                while (next < bytes && isLetter(next)) {
                    next++;
                }
            } else if (isDigit(next)) {
                readNumber();
            } else {
                token = SINGLE;
                value = tape[next];
                next++;
            }
        }

        private void readNumber() {
            value = 0;
            while (next < bytes && isDigit(next)) {
                if (next - start < MOST_DIGITS) {
                    value = value * 10 + tape[next] - '0';
                }
                next++;
            }
            token = next - start > MOST_DIGITS ? LONG_NUMBER : NUMBER;
        }

        private boolean isLetter(int at) {
            return tape[at] >= 'a' && tape[at] <= 'z';
        }

        private boolean isDigit(int at) {
            return tape[at] >= '0' && tape[at] <= '9';
        }

        /** Takes the token if it can stand here. */
        private boolean takesToken() {
            switch (state) {
                case AT_RULE: return takesKind();
                case AT_DEED_OR_IF: return takesIf() || takesDeed();
                case AT_ONE: return takesNot() || takesOpening() || takesLeft();
                case AT_SIGN: return takesSign();
                case AT_RIGHT: return takesRight();
                case AT_JOINT_OR_DEED: return takesJoint() || takesClosing() || takesDeed();
                case AT_N: return takesN();
                default: return takesSemicolon();
            }
        }

        private boolean takesKind() {
            int kind = placeIn(KINDS);
            if (kind < 0 || draft.count >= MOST_RULES) {
                return false;
            }
            draft.kind[draft.count] = kind;
            draft.number[draft.count] = 0;
            state = AT_DEED_OR_IF;
            return true;
        }

        private boolean takesIf() {
            return goesTo(AT_ONE, placeIn("if ") == 0);
        }

        private boolean takesDeed() {
            int deed = placeIn(DEEDS);
            if (deed < 0 || open > 0 || draft.count >= MOST_RULES) {
                return false;
            }
            addWaiting(RuleBook.OR);
            draft.deed[draft.count] = deed;
            state = deed == RuleBook.DO_SILENT ? AT_SEMICOLON : AT_N;
            return true;
        }

        private boolean takesNot() {
            if (placeIn("not ") != 0) {
                return false;
            }
            await(RuleBook.NOT);
            return true;
        }

        private boolean takesOpening() {
            if (!isSingle('(') || open >= MOST_OPEN) {
                return false;
            }
            open++;
            await(OPEN);
            return true;
        }

        private boolean takesLeft() {
            left = operand();
            return goesTo(AT_SIGN, left >= 0);
        }

        private boolean takesSign() {
            sign = isSingle('<') ? RuleBook.LESS : isSingle('=') ? RuleBook.SAME : isSingle('>') ? RuleBook.GREATER : 0;
            return goesTo(AT_RIGHT, sign != 0);
        }

        private boolean takesRight() {
            int right = operand();
            if (right < 0) {
                return false;
            }
            draft.addStep(RuleBook.comparing(sign, left, right));
            state = AT_JOINT_OR_DEED;
            return true;
        }

        private boolean takesJoint() {
            int joint = placeIn("or and ") + 1;
            if (joint != RuleBook.OR && joint != RuleBook.AND) {
                return false;
            }
            addWaiting(joint);
            await(joint);
            state = AT_ONE;
            return true;
        }

        private boolean takesClosing() {
            if (!isSingle(')') || open == 0) {
                return false;
            }
            open--;
            addWaiting(RuleBook.OR);
            if (waitingCount > 0) {
                waitingCount--;
            }
            return true;
        }

        private boolean takesN() {
            if (token != NUMBER || draft.count >= MOST_RULES) {
                return false;
            }
            if (value > (draft.deed[draft.count] == RuleBook.DO_MILE ? 9 : 99)) {
                return false;
            }
            draft.number[draft.count] = value;
            state = AT_SEMICOLON;
            return true;
        }

        private boolean takesSemicolon() {
            if (!isSingle(';') || draft.count >= MOST_RULES) {
                return false;
            }
            draft.end[draft.count] = draft.stepCount;
            draft.count++;
            state = AT_RULE;
            return true;
        }

        private boolean goesTo(int then, boolean can) {
            if (can) {
                state = then;
            }
            return can;
        }

        private boolean isSingle(char sign) {
            return token == SINGLE && value == sign;
        }

        /** The token as an operand of a comparison; below 0 if it is none. */
        private int operand() {
            if (token == NUMBER) {
                return value;
            }
            int fact = placeIn(FACTS);
            return fact < 0 ? -1 : RuleBook.FIRST_FACT + fact;
        }

        private void await(int step) {
            if (waitingCount < waiting.length) {
                waiting[waitingCount++] = step;
            }
        }

        /** Steps that wait, back to the first that binds less, are due now. */
        private void addWaiting(int binding) {
            while (waitingCount > 0 && waiting[waitingCount - 1] >= binding) {
                waitingCount--;
                draft.addStep(waiting[waitingCount]);
            }
        }

        /** The how-manyth of some names, each with a blank behind it, the token is; -1 if it is none. */
        private int placeIn(String names) {
            if (token != NAME) {
                return -1;
            }
            int place = 0;
            int from = 0;
            for (int i = 0; i < names.length(); i++) {
                if (names.charAt(i) == ' ') {
                    if (isSpelt(names, from, i)) {
                        return place;
                    }
                    place++;
                    from = i + 1;
                }
            }
            return -1;
        }

        private boolean isSpelt(String names, int from, int end) {
            if (end - from != next - start) {
                return false;
            }
            for (int i = from; i < end; i++) {
                if (names.charAt(i) != tape[start + i - from]) {
                    return false;
                }
            }
            return true;
        }
    }

    /** A CRY thought through: where it comes, when, and what is held there; nothing of the valley changes by it. */
    private static final class Cry {
        private final Valley valley;
        /** What each TOWER ADDS, and whether he is silent, on the DAY taken last. */
        final int[] adds = new int[MOST_TOWERS];
        private final boolean[] isSilent = new boolean[MOST_TOWERS];
        private int paceWest = MINUTES_A_MILE;
        private int paceEast = MINUTES_A_MILE;
        /** The set of the TOWERS where it begins. */
        private int begins = 0;
        final int[] came = new int[MOST_TOWERS];
        final int[] held = new int[MOST_TOWERS];

        Cry(Valley valley) {
            this.valley = valley;
        }

        /** What goes before a cry: the DAY, with all that watchmen add on it. */
        void takeDay(int day) {
            paceWest = valley.minutesAMile(day, true);
            paceEast = valley.minutesAMile(day, false);
            for (int k = 0; k < valley.towers; k++) {
                int rule = valley.ruleFor(k, day);
                adds[k] = valley.addedBy(rule, k, day);
                isSilent[k] = valley.book.isSilent(rule);
            }
        }

        void goBothWays(int from, int t) {
            beginAt(1 << from, t);
            goWest(from);
            goEast(from);
        }

        void goOneWay(int from, int t, boolean west) {
            beginAt(1 << from, t);
            if (west) {
                goWest(from);
            } else {
                goEast(from);
            }
        }

        /** CLOCKS by a set at t; below 0 if to some TOWER nothing comes. */
        int farthestByClocks(int set, int t) {
            beginAt(set, t);
            goWest(0);
            int farthest = 0;
            for (int k = 0; k < valley.towers; k++) {
                if (!reaches(k)) {
                    return -1;
                }
                farthest = Math.max(farthest, distanceOf(k));
            }
            return farthest;
        }

        private void beginAt(int set, int t) {
            begins = set;
            for (int k = 0; k < MOST_TOWERS; k++) {
                came[k] = isBeginning(k) ? t : NOT_HELD;
                held[k] = came[k];
            }
        }

        private void goWest(int from) {
            for (int k = from; k + 1 < valley.towers; k++) {
                if (!isBeginning(k + 1)) {
                    bring(k, k + 1, valley.miles[k + 1] * paceWest);
                }
            }
        }

        private void goEast(int from) {
            for (int k = from; k > 0; k--) {
                bring(k, k - 1, valley.miles[k] * paceEast);
            }
        }

        private boolean isBeginning(int k) {
            return (begins >>> k & 1) == 1;
        }

        /** From a TOWER to the next one on the way, if it came to that, is cried on there and is heard. */
        private void bring(int k, int to, int minutes) {
            if (!reaches(k) || isSilent[k] && !isBeginning(k)) {
                return;
            }
            int minute = came[k] + (isBeginning(k) ? 0 : valley.delay[k]) + minutes;
            if (valley.kind[to] == SLEEPER && minute < WAKING) {
                return;
            }
            came[to] = minute;
            held[to] = held[k] + adds[to];
        }

        boolean reaches(int k) {
            return came[k] != NOT_HELD;
        }

        int reached() {
            int reached = 0;
            for (int k = 0; k < valley.towers; k++) {
                if (reaches(k)) {
                    reached++;
                }
            }
            return reached;
        }

        int offOf(int k) {
            return held[k] - came[k];
        }

        int distanceOf(int k) {
            return Math.abs(offOf(k));
        }

        int sumOfDistances() {
            int sum = 0;
            for (int k = 0; k < valley.towers; k++) {
                if (reaches(k)) {
                    sum += distanceOf(k);
                }
            }
            return sum;
        }

        int noonOf(int k) {
            return came[k] + MIDDAY - held[k];
        }
    }

    /** THE TRACE, and whether the act was parted by 0: no body begins after that. */
    private static final class Trace {
        int count = 0;
        final int[] bodies = new int[30];
        boolean isParted = false;

        void clear() {
            count = 0;
            isParted = false;
        }

        void begin(int body) {
            if (!isParted && count < bodies.length) {
                bodies[count++] = body;
            }
        }
    }

    /** A TOWER as a thing; act() tells n and a before it asks. */
    private static class Watchman {
        final Trace ran;
        int n = 0;
        int a = 0;

        Watchman(Trace ran) {
            this.ran = ran;
        }

        int cries(int x) {
            ran.begin(10);
            return x + n;
        }

        int hears(int x) {
            ran.begin(11);
            return cries(x) * 2;
        }

        int shares(int x) {
            ran.begin(12);
            int by = a - n;
            if (by == 0) {
                ran.isParted = true;
                return 0;
            }
            return x / by;
        }

        int tells(int x) {
            ran.begin(13);
            return hears(x) ^ a;
        }
    }

    private static final class Plain extends Watchman {
        Plain(Trace ran) {
            super(ran);
        }

        int cries(int x) {
            ran.begin(20);
            return super.cries(x) * 3;
        }
    }

    private static class Proud extends Watchman {
        Proud(Trace ran) {
            super(ran);
        }

        int hears(int x) {
            ran.begin(30);
            return super.hears(x) - a;
        }
    }

    private static final class Drunk extends Proud {
        Drunk(Trace ran) {
            super(ran);
        }

        int cries(int x) {
            ran.begin(50);
            return super.cries(x) ^ n;
        }

        int tells(int x) {
            ran.begin(51);
            return super.tells(x) + shares(n);
        }
    }

    private static class Mender extends Watchman {
        Mender(Trace ran) {
            super(ran);
        }

        int shares(int x) {
            ran.begin(40);
            return super.shares(x + 1);
        }
    }

    private static final class Sleeper extends Mender {
        Sleeper(Trace ran) {
            super(ran);
        }

        int hears(int x) {
            ran.begin(60);
            return 0 - super.hears(x);
        }

        int shares(int x) {
            ran.begin(61);
            return super.shares(x) + cries(a);
        }
    }
}
