import java.util.ArrayList;
import java.util.List;

/** An object with something everywhere, and questions that tell all that it holds. */
final class Rich {
    /** Nine TOWERS, six REPORTS, 198 bytes on THE TAPE; another valley is kept; TOWERS 6 to 8 hold nothing. */
    static final String[] MADE = {
        "ValleyA", "day(1)", "wind(1, 2)", "wind(5, -3)", "seed(4)", "report(2, 30)", "rules: proud add 3; -> 1",
        "cry(2, 700, false)", "keep() -> 1", "tower(1, 7, 1, 2)", "tower(2, 5, 0, 1)", "tower(4, 9, 9, 3) -> 8", "day(2)",
        "wind(2, 1)", "wind(6, -2)", "seed(77)", "forget()", "report(1, 412)", "report(2, 424)", "report(3, 431)",
        "report(4, 447)", "report(5, 472)", "report(0, 401) -> 5",
        "rules: plain if number = 1 add 12; sleeper if day = 3 silent; -> 2", "cry(0, 400, true)", "cry(1, 10, false)", "hush()",
        "cry(0, 400, false)", "cry(5, 500, false) -> 6", "cry(4, 20, false)", "prove(1, 400, true) -> 8", "alterRow(2, 1, 5)",
        "sheet(0, 0, 4)", "write(0, 1, -7)", "write(0, 3, 99)", "sheet(1, 2, 3)", "write(1, 2, 1000000) -> 1", "sheet(2, 4, 2)",
        "write(2, 0, 1)", "shelf(0, 0, 4)", "shelf(1, 1, 0) -> 1", "shelf(2, 0, 1)", "act(0, 3, 5) -> 25", "text: plain add 5",
        "23 times: feed(2314885530818453536, 8)", "feed(538976288, 3) -> 198"};

    private Rich() {
    }

    /** What is answered to the questions; they use up the object. */
    static List<Integer> askedOf(Boundaries b) {
        List<Integer> are = new ArrayList<>();
        for (String call : questions()) {
            are.add(b.answer(call));
        }
        return are;
    }

    private static List<String> questions() {
        List<String> ask = new ArrayList<>();
        each(ask, "many(?)", 0, 6);
        for (int i = 0; i < 9; i++) {
            each(ask, "row(" + i + ", ?)", 0, 2);
        }
        each(ask, "trace(?)", 0, 7);
        for (int sheet = 0; sheet < 4; sheet++) {
            each(ask, "item(" + sheet + ", ?, 0)", 0, 4);
            each(ask, "item(" + sheet + ", " + new int[] {0, 2, 4, 0}[sheet] + ", ?)", 1, 4);
            each(ask, "taken(" + sheet + ", ?)", 0, 5);
            each(ask, "taken(" + sheet + ", ?)", 10, 14);
        }
        askValley(ask, 9);
        for (int k = 0; k < 9; k++) {
            each(ask, "fits(" + k + ", ?)", 0, 1);
        }
        each(ask, "liar(?)", 0, 8);
        ask.add("feed(59, 1)");
        ask.add("rules()");
        each(ask, "towerOf(?, 4)", 0, 8);
        ask.add("again()");
        each(ask, "many(?)", 0, 4);
        askValley(ask, 6);
        each(ask, "fits(?, 0)", 0, 5);
        return ask;
    }

    /** Also sets DAY, WIND and z to 0, so it is asked once. */
    private static void askValley(List<String> ask, int towers) {
        for (int k = 0; k < towers; k++) {
            each(ask, "towerOf(" + k + ", ?)", 0, 7);
        }
        ask.add("day(0)");
        each(ask, "wind(?, 0)", 0, 6);
        ask.add("seed(0)");
    }

    private static void each(List<String> ask, String call, int first, int last) {
        for (int i = first; i <= last; i++) {
            ask.add(call.replace("?", String.valueOf(i)));
        }
    }
}
