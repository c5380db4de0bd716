/** Boundary cases of promises 9 and 10. */
final class RulesBoundaries {
    /** Eight blanks. */
    private static final String BLANKS = "feed(2314885530818453536, 8)";
    private static final String LATER = " .. -100 less its FAULT.";
    private final Boundaries b;

    RulesBoundaries(Boundaries b) {
        this.b = b;
    }

    void all() {
        feed();
        feedFull();
        rules();
        howMany();
        kinds();
        deeds();
        conditions();
        values();
        facts();
        factsAsTold();
        names();
        numbers();
        blanks();
        brackets();
        faultAtEnd();
        faultOfToken();
    }

    private void feed() {
        b.promise(9);
        String sentence = "n bytes (1 to 8) come to THE TAPE, the lowest of eight first: how many it has.";
        b.test(sentence, "1, the least: the lowest alone", "feed(8031924123371070571, 1) -> 1", "many(5) -> 1", "rules() -> -100");
        b.test(sentence, "8, the most: the highest, too", "text: plain ad", "feed(" + eight("d 12;   ") + ", 8) -> 16", "rules() -> 1");
        b.test(sentence, "those beyond n don't come", "feed(" + eight("plainxxx") + ", 5) -> 5", "feed(" + eight(" add 7;x") + ", 7) -> 12",
            "rules() -> 1");
        b.test(sentence, "the highest bit of eight", "feed(-9223372036854775808, 8) -> 8", "rules() -> -100", "feed(-1, 8) -> 8",
            "rules() -> -100", "feed(" + (eight("       ") | 255L << 56) + ", 8) -> 8", "rules() -> -107");
        b.test(sentence + " BAD;", "too few: n 0", "feed(32, {0|-1|LOW}) -> -1", "many(5) -> 0");
        b.test(sentence + " BAD;", "too many: n 9", "feed(32, {9|HIGH}) -> -1", "many(5) -> 0");
        b.unchanged("such a call changes nothing", "refused: n is not as told", "feed(32, {0|9}) -> -1");
    }

    private void feedFull() {
        String sentence = "THE TAPE takes bytes, 200 at most; .. FULL: more than 200.";
        b.test(sentence, "full: 200, by eights", "24 times: " + BLANKS, BLANKS + " -> 200", "many(5) -> 200");
        b.test(sentence, "full: 200, by the last one", "24 times: " + BLANKS, "feed(32, 7) -> 199", "feed(32, 1) -> 200");
        b.test(sentence, "too many: 201 by one", "25 times: " + BLANKS, "feed(32, 1) -> -2", "many(5) -> 200");
        b.test(sentence, "too many: 201 by eight; none of them comes", "24 times: " + BLANKS, "feed(32, 1) -> 193", BLANKS + " -> -2",
            "many(5) -> 193", "feed(2314885530818453536, 7) -> 200", "rules() -> 0");
        b.test("of several the first named .. BAD; FULL: more than 200.", "full, and n is not as told", "25 times: " + BLANKS,
            "feed(32, {0|9}) -> -1");
        b.test("rules() uses it up.", "full once more", "25 times: " + BLANKS, "rules() -> 0", "24 times: " + BLANKS, BLANKS + " -> 200",
            "feed(32, 1) -> -2");
        b.unchanged("such a call changes nothing", "refused: more than 200", "feed(4195730024608447034, {3|8}) -> -2");
    }

    private static long eight(String text) {
        long eight = 0;
        for (int i = 0; i < text.length(); i++) {
            eight |= (long) text.charAt(i) << 8 * i;
        }
        return eight;
    }

    private void rules() {
        b.promise(10);
        String sentence = "THE TAPE tells THE RULES (in place of all): how many;";
        b.test(sentence + " .. 2 THE RULES are a TEXT.", "empty: no byte tells no RULE", "rules() -> 0", "many(1) -> 0");
        b.test(sentence, "empty: blanks alone", "rules:     -> 0", "many(1) -> 0");
        b.test(sentence, "in place of all: none are left", "tower(1, 7, 0, 1)", "rules: plain add 1; plain add 2; -> 2",
            "towerOf(0, 4) -> 1", "rules() -> 0", "many(1) -> 0", "towerOf(0, 4) -> 7");
        b.test(sentence, "in place of all: fewer", "tower(1, 7, 0, 1)", "rules: plain if 0 = 1 add 1; plain add 2; -> 2",
            "rules: plain if 0 = 1 add 3; -> 1", "many(1) -> 1", "towerOf(0, 4) -> 7");
        b.test(sentence, "full: 200 bytes of TEXT", "tower(1, 7, 0, 1)",
            "rules: plain if 0 = 1 add 1;" + " ".repeat(166) + "plain mile 2; -> 2", "many(1) -> 2", "towerOf(0, 4) -> 2");
        b.test("rules() uses it up.", "after a right TEXT", "rules: plain add 1; -> 1", "many(5) -> 0", "rules() -> 0");
        b.test(sentence, "in place of all: TEXTS full of conditions, one after another", "tower(1, 7, 0, 1)",
            "7 times: rules: plain if " + "1=1 or ".repeat(25) + "1=1 silent; -> 1", "towerOf(0, 5) -> 1",
            "rules: plain if " + "1=2 or ".repeat(25) + "1=2 silent; -> 1", "towerOf(0, 5) -> 0");
        b.test("(but that THE TAPE is used up by rules())", "after a FAULT", "rules: plain add x -> -110", "many(5) -> 0", "rules() -> 0");
        b.test("such a call changes nothing (but that THE TAPE is used up by rules())",
            "what stood open at a FAULT is no part of the next TEXT", "tower(1, 7, 0, 1)", "rules: plain if not -> -112",
            "rules: plain if 1 = 1 silent; -> 1", "towerOf(0, 5) -> 1", "rules: plain if ((( -> -112",
            "rules: plain if (((1 = 2))) silent; -> 1", "towerOf(0, 5) -> 0", "rules: plain if 1 = 2 or not -> -121",
            "rules: plain if 1 = 2 silent; -> 1", "towerOf(0, 5) -> 0");
        b.test("Answers below 0, where not told otherwise, are refusals; such a call changes nothing",
            "a FAULT in the last RULE leaves THE RULES", "tower(1, 7, 0, 1)", "rules: plain add 1; -> 1",
            "rules: plain add 2; plain if day = 0 silent -> -136", "many(1) -> 1", "towerOf(0, 4) -> 1", "towerOf(0, 5) -> 0");
    }

    private void howMany() {
        String sentence = "TEXT: { KIND DO ; | KIND if COND DO ; }, 8 RULES at most.";
        String eight = "plain add 1;".repeat(8);
        b.test(sentence, "one without if, one with", "rules: plain add 1; -> 1", "rules: plain if 1 = 1 add 1; -> 1");
        b.test(sentence, "full: eight", "rules: " + eight + " -> 8", "many(1) -> 8");
        b.test(sentence, "full: the eighth counts", "tower(2, 7, 0, 1)", "rules: " + "plain add 1;".repeat(7) + "proud add 2; -> 8",
            "towerOf(0, 4) -> 4");
        b.test(sentence + " .. the first NAME of the ninth RULE", "too many: the ninth", "rules: " + eight + "plain add 1; -> -196",
            "many(1) -> 0");
        b.test(sentence + " .. the first NAME of the ninth RULE", "too many: no more than its first NAME",
            "rules: " + eight + "  proud -> -198");
        b.test(sentence, "eight, and blanks behind", "rules: " + eight + "   -> 8");
        b.test(sentence, "a RULE without DO", "rules: plain ; -> -106", "rules: plain if 1 = 1 ; -> -115");
        b.test(sentence, "a RULE without KIND", "rules: add 1; -> -100", "rules: if 1 = 1 add 1; -> -100");
        b.test(sentence, "a RULE without ;", "rules: plain add 1 plain add 1; -> -112");
    }

    private void kinds() {
        String sentence = "KIND: watchman | plain | proud | drunk | mender | sleeper.";
        b.test(sentence, "the first and the last", "rules: watchman silent; -> 1", "rules: sleeper silent; -> 1");
        b.test(sentence, "all six", "rules: watchman silent;plain silent;proud silent;drunk silent;mender silent;sleeper silent; -> 6");
        b.test(sentence + LATER, "a letter fewer, a letter more", "rules: watchma silent; -> -100", "rules: watchmans silent; -> -100",
            "rules: sleepe silent; -> -100", "rules: sleepers silent; -> -100");
        b.test(sentence + LATER, "another NAME", "rules: tower silent; -> -100", "rules: silent; -> -100", "rules: a silent; -> -100");
    }

    private void deeds() {
        String sentence = "DO: add N | more N (0 to 99) | mile N (0 to 9) | silent.";
        b.test(sentence, "add: the least and the greatest", "rules: plain add 0; plain add 99; -> 2");
        b.test(sentence + " .. N out of its range", "add: too large", "rules: plain add 100; -> -110", "rules: plain add 9999; -> -110");
        b.test(sentence, "more: the least and the greatest", "rules: plain more 0; plain more 99; -> 2");
        b.test(sentence + " .. N out of its range", "more: too large", "rules: plain more 100; -> -111");
        b.test(sentence, "mile: the least and the greatest", "rules: plain mile 0; plain mile 9; -> 2");
        b.test(sentence + " .. N out of its range", "mile: too large", "rules: plain mile 10; -> -111");
        b.test(sentence + " .. N out of its range", "below 0", "rules: plain add -1; -> -110");
        b.test(sentence, "without its N", "rules: plain add; -> -109", "rules: plain more ; -> -111", "rules: plain mile silent; -> -111");
        b.test(sentence, "silent with an N", "rules: plain silent 1; -> -113");
        b.test(sentence, "a letter fewer, a letter more", "rules: plain ad 1; -> -106", "rules: plain adds 1; -> -106",
            "rules: plain silen; -> -106", "rules: plain silents; -> -106");
        b.test(sentence, "two of them", "rules: plain silent silent; -> -113", "rules: plain add 1 silent; -> -112");
    }

    private void conditions() {
        b.test("COND: ALL { or ALL }", "one alone, and any of three", "tower(1, 7, 0, 1)", "rules: plain if 1 = 1 silent; -> 1",
            "towerOf(0, 5) -> 1", "rules: plain if 1 = 2 or 1 = 2 or 1 = 1 silent; -> 1", "towerOf(0, 5) -> 1",
            "rules: plain if 1 = 2 or 1 = 2 or 1 = 2 silent; -> 1", "towerOf(0, 5) -> 0");
        b.test("ALL: ONE { and ONE }", "all of three", "tower(1, 7, 0, 1)", "rules: plain if 1 = 1 and 1 = 1 and 1 = 1 silent; -> 1",
            "towerOf(0, 5) -> 1", "rules: plain if 1 = 1 and 1 = 1 and 1 = 2 silent; -> 1", "towerOf(0, 5) -> 0");
        b.test("COND: ALL { or ALL } ALL: ONE { and ONE }", "and binds before or, on either side", "tower(1, 7, 0, 1)",
            "rules: plain if 1 = 1 or 1 = 1 and 1 = 2 silent; -> 1", "towerOf(0, 5) -> 1",
            "rules: plain if 1 = 2 and 1 = 1 or 1 = 1 silent; -> 1", "towerOf(0, 5) -> 1");
        b.test("ONE: { not } ( VALUE SIGN VALUE | \"(\" COND \")\" )", "none, one, two, three not", "tower(1, 7, 0, 1)",
            "rules: plain if not 1 = 1 silent; -> 1", "towerOf(0, 5) -> 0", "rules: plain if not not 1 = 1 silent; -> 1",
            "towerOf(0, 5) -> 1", "rules: plain if not not not 1 = 1 silent; -> 1", "towerOf(0, 5) -> 0");
        b.test("ONE: { not } ( VALUE SIGN VALUE | \"(\" COND \")\" )", "not takes ONE, no more", "tower(1, 7, 0, 1)",
            "rules: plain if not 1 = 1 or 1 = 1 silent; -> 1", "towerOf(0, 5) -> 1", "rules: plain if not 1 = 2 and 1 = 2 silent; -> 1",
            "towerOf(0, 5) -> 0", "rules: plain if not (1 = 1 or 1 = 1) silent; -> 1", "towerOf(0, 5) -> 0",
            "rules: plain if not (1 = 2 and 1 = 2) silent; -> 1", "towerOf(0, 5) -> 1");
        b.test("ONE: { not } ( VALUE SIGN VALUE | \"(\" COND \")\" )" + LATER, "empty: no COND", "rules: plain if silent; -> -109",
            "rules: plain if () silent; -> -110", "rules: plain if not silent; -> -113", "rules: plain if 1 = 1 and silent; -> -119",
            "rules: plain if 1 = 1 or silent; -> -118");
        b.test("ONE: { not } ( VALUE SIGN VALUE | \"(\" COND \")\" )" + LATER, "a VALUE too few, too many",
            "rules: plain if 1 = silent; -> -113", "rules: plain if = 1 silent; -> -109", "rules: plain if 1 = 1 1 silent; -> -115",
            "rules: plain if 1 = 1 = 1 silent; -> -115", "rules: plain if 1 silent; -> -111");
        b.test("SIGN: < | = | >", "less by one, the same, more by one", "tower(1, 7, 0, 1)", "rules: plain if add < 8 silent; -> 1",
            "towerOf(0, 5) -> 1", "rules: plain if add < 7 silent; -> 1", "towerOf(0, 5) -> 0", "rules: plain if add > 6 silent; -> 1",
            "towerOf(0, 5) -> 1", "rules: plain if add > 7 silent; -> 1", "towerOf(0, 5) -> 0", "rules: plain if add = 7 silent; -> 1",
            "towerOf(0, 5) -> 1", "rules: plain if add = 6 silent; -> 1", "towerOf(0, 5) -> 0", "rules: plain if add = 8 silent; -> 1",
            "towerOf(0, 5) -> 0");
        b.test("SIGN: < | = | >" + LATER, "two SIGNS, another one", "rules: plain if 1 <= 1 silent; -> -112",
            "rules: plain if 1 ! 1 silent; -> -111", "rules: plain if 1 ; 1 silent; -> -111");
    }

    private void values() {
        String sentence = "VALUE: N | day | wind | add | delay | miles | number";
        b.test(sentence, "each, left and right", "rules: plain if 0 < day or wind < add or delay < miles or number < 0 silent; -> 1",
            "rules: plain if day < 0 or add < wind or miles < delay or 0 < number silent; -> 1");
        b.test(sentence, "each FACT left, each right", "2 times: tower(1, 7, 0, 1)", "tower(1, 30, 7, 9)", "day(3)", "wind(3, 1)",
            "rules: plain if day=3 and wind=4 and add=30 and delay=7 and miles=9 and number=2 silent; -> 1", "towerOf(2, 5) -> 1",
            "rules: plain if 3=day and 4=wind and 30=add and 7=delay and 9=miles and 2=number silent; -> 1", "towerOf(2, 5) -> 1", "day(2)",
            "wind(2, 1)", "towerOf(2, 5) -> 0");
        b.test(sentence + LATER, "another NAME", "rules: plain if more = 1 silent; -> -109", "rules: plain if days = 1 silent; -> -109",
            "rules: plain if 1 = numbe silent; -> -113");
        b.test("N are NUMBERS 0 to 9999.", "the least and the greatest", "tower(1, 7, 0, 1)",
            "rules: plain if 0 < 1 and 9999 > 9998 and add > 0 and add < 9999 silent; -> 1", "towerOf(0, 5) -> 1");
        b.test("N are NUMBERS 0 to 9999." + LATER, "too large", "rules: plain if 10000 > 1 silent; -> -109",
            "rules: plain if day < 10000 silent; -> -115");
        b.test("N are NUMBERS 0 to 9999." + LATER, "below 0", "rules: plain if day > -1 silent; -> -115");
    }

    private void facts() {
        b.test("FACTS: DAY;", "the first and the last", "tower(1, 7, 0, 1)", "rules: plain if day = 0 or day = 6 silent; -> 1",
            "towerOf(0, 5) -> 1", "day({1|5})", "towerOf(0, 5) -> 0", "day(6)", "towerOf(0, 5) -> 1");
        b.test("FACTS: DAY; WIND of it, and 3;", "WIND -3 is 0", "tower(1, 7, 0, 1)", "wind(0, -3)",
            "rules: plain if wind = 0 silent; -> 1", "towerOf(0, 5) -> 1", "wind(0, -2)", "towerOf(0, 5) -> 0");
        b.test("FACTS: DAY; WIND of it, and 3;", "WIND 3 is 6", "tower(1, 7, 0, 1)", "wind(0, 3)", "rules: plain if wind = 6 silent; -> 1",
            "towerOf(0, 5) -> 1", "wind(0, 2)", "towerOf(0, 5) -> 0");
        b.test("FACTS: DAY; WIND of it, and 3;", "of that DAY alone", "tower(1, 7, 0, 1)", "wind(1, 1)",
            "rules: plain if wind = 4 silent; -> 1", "towerOf(0, 5) -> 0", "day(1)", "towerOf(0, 5) -> 1");
        b.test("ADD, DELAY, MILES of the TOWER as told", "the least of each", "tower(1, 0, 0, 1)",
            "rules: plain if add = 0 and delay = 0 and miles = 1 silent; -> 1", "towerOf(0, 5) -> 1");
        b.test("ADD, DELAY, MILES of the TOWER as told", "the greatest of each", "tower(1, 99, 9, 20)",
            "rules: plain if add = 99 and delay = 9 and miles = 20 silent; -> 1", "towerOf(0, 5) -> 1");
        b.test("and its number.", "the first and the last of nine", "9 times: tower(1, 0, 0, 1)",
            "rules: plain if number = 0 or number = 8 silent; -> 1", "towerOf({0|8}, 5) -> 1", "towerOf({1|7}, 5) -> 0");
    }

    private void factsAsTold() {
        b.test("ADD, DELAY, MILES of the TOWER as told", "ADD is neither what he ADDS nor what a RULE makes of it", "tower(3, 7, 0, 1)",
            "day(6)", "rules: proud if add = 24 silent; proud if add = 7 add 9; proud if add = 9 add 1; -> 3", "towerOf(0, 4) -> 28",
            "towerOf(0, 5) -> 0");
        b.test("ADD, DELAY, MILES of the TOWER as told", "MILES of the first TOWER, too", "tower(1, 7, 0, 12)",
            "rules: plain if miles = 12 mile 2; -> 1", "towerOf(0, 4) -> 24");
        b.test("ADD, DELAY, MILES of the TOWER as told", "as change() tells them", "tower(1, 7, 0, 12)",
            "rules: plain if add = 8 silent; -> 1", "towerOf(0, 5) -> 0", "change(0, 1, 8)", "towerOf(0, 5) -> 1");
    }

    private void names() {
        String sentence = "NAMES are rows of letters a to z";
        b.test(sentence, "a is a letter, the byte ahead of it none", "rules: plain add 1; a -> -113", "rules: plain`add 1; -> -105");
        b.test(sentence, "z is a letter, the byte behind it none", "rules: plainz add 1; -> -100", "rules: plain{add 1; -> -105",
            "rules: zplain add 1; -> -100");
        b.test(sentence, "A and Z are none", "rules: Plain add 1; -> -100", "rules: plainZ add 1; -> -105", "rules: plain ADD 1; -> -106");
        b.test(sentence, "the bytes 0, 127, 128, 225, 255 are none", "rules: \u0000 -> -100", "rules: plain\u007f add 1; -> -105",
            "rules: plain\u0080 add 1; -> -105", "rules: plain \u00e1dd 1; -> -106", "rules: plain add 1;\u00ff -> -112");
        b.test("both as long as they go", "NAMES that no blank parts are one", "rules: plainadd 1; -> -100",
            "rules: plain ifnot 1 = 1 add 1; -> -106", "rules: plain if notday = 1 add 1; -> -109");
        b.test("both as long as they go", "a NAME ends at a digit, a NUMBER at a letter", "rules: plain add5; -> 1",
            "rules: plain if1=1add 1; -> 1");
    }

    private void numbers() {
        String sentence = "NUMBERS rows of digits (1 to 4)";
        b.test(sentence, "1 digit, the fewest", "rules: plain add 9; -> 1");
        b.test(sentence, "4 digits, the most", "tower(1, 7, 0, 1)", "rules: plain add 0099; -> 1", "towerOf(0, 4) -> 99",
            "rules: plain add 0100; -> -110", "rules: plain if 0007 = add silent; -> 1", "towerOf(0, 5) -> 1");
        b.test(sentence + " .. a NUMBER of more digits", "5 digits, too many", "rules: plain add 00001; -> -110",
            "rules: plain if 00001 = 1 silent; -> -109", "rules: plain if 1 = 00001 silent; -> -113");
        b.test(sentence + " .. a NUMBER of more digits", "5 digits where another byte must come, whatever they tell",
            "rules: plain add 1 00591 -> -112", "rules: plain if 1 00611 1 silent; -> -111");
        b.test(sentence + " .. a NUMBER of more digits", "so many that an int would wrap", "rules: plain add 4294967297; -> -110",
            "rules: plain add 18446744073709551617; -> -110");
        b.test(sentence, "0 and 9 are digits, the bytes ahead and behind none", "rules: plain add 0; plain add 9; -> 2",
            "rules: plain add /; -> -110", "rules: plain add 1: -> -111");
        b.test("both as long as they go", "a blank ends a NUMBER", "rules: plain add 1 2; -> -112",
            "rules: plain if 1 2 = 12 silent; -> -111");
    }

    private void blanks() {
        String sentence = "blanks (32) part them, and stand elsewhere as one likes.";
        b.test(sentence, "none but where they part", "rules: plain if((not day<wind)or(1=1))and 2>1 add 1;plain silent; -> 2");
        b.test(sentence, "everywhere", "rules:   plain   if  (  not  day  <  wind  )  add   1  ;   -> 1");
        b.test(sentence, "the bytes 31 and 33, a tab and a line's end are none", "rules: plain\u001fadd 1; -> -105",
            "rules: plain!add 1; -> -105", "rules: plain\tadd 1; -> -105", "rules: plain add 1;\n -> -112",
            "rules: plain\u00a0add 1; -> -105");
        b.test(sentence, "within a NAME it parts it", "rules: pla in add 1; -> -100", "rules: plain ad d 1; -> -106");
    }

    private void brackets() {
        String sentence = "At most 3 \"(\" are open within one another.";
        b.test(sentence, "3, the most", "tower(1, 7, 0, 1)", "rules: plain if (((1 = 1))) silent; -> 1", "towerOf(0, 5) -> 1");
        b.test(sentence + " .. the fourth \"(\"", "4, too many", "rules: plain if ((((1 = 1)))) silent; -> -112",
            "rules: plain if (((1 = 1 and (1 = 1)))) silent; -> -122", "rules: plain if (((not( -> -115");
        b.test(sentence, "the fourth when one is closed", "rules: plain if (((1=1)) and ((1=1))) and (1=1) silent; -> 1",
            "rules: plain if ((1=1) or (1=1) or (1=1) or (1=1)) silent; -> 1");
        b.test("\"(\" COND \")\"" + LATER, "too few )", "rules: plain if ((1 = 1) silent; -> -118", "rules: plain if (1 = 1 -> -115");
        b.test("\"(\" COND \")\"" + LATER, "too many )", "rules: plain if (1 = 1)) silent; -> -116",
            "rules: plain if 1 = 1) silent; -> -114", "rules: plain if ) -> -109");
        b.test("\"(\" COND \")\"" + LATER, "around no COND", "rules: plain if (day) = 1 silent; -> -113",
            "rules: plain if (day = (1)) silent; -> -116", "rules: (plain add 1;) -> -100");
    }

    private void faultAtEnd() {
        String sentence = "or the end (how many bytes there are), if more must come.";
        b.test(sentence, "behind each part of a RULE", "rules: plain -> -105", "rules: plain if -> -108", "rules: plain if not -> -112",
            "rules: plain if ( -> -110", "rules: plain if day -> -112", "rules: plain if day = -> -114", "rules: plain if day = 1 -> -116",
            "rules: plain if day = 1 and -> -120", "rules: plain if day = 1 or -> -119", "rules: plain add -> -109",
            "rules: plain add 1 -> -111", "rules: plain silent -> -112");
        b.test(sentence, "blanks at the end count", "rules: plain    -> -108", "rules: plain add 1    -> -114");
        b.test(sentence, "behind a whole RULE", "rules: plain add 1;plain -> -117", "rules: plain add 1; p -> -113");
        b.test(sentence, "bytes that were used up are no part of it", "rules: plain add 00001 -> -110", "rules: plain add 0000 -> -114",
            "rules: plain add 1; -> 1", "rules: pla -> -100", "rules: plain ad -> -106");
        b.test(sentence, "the last byte of 200, a digit", "rules: " + " ".repeat(189) + "plain add 1 -> -300");
        b.test(sentence, "the last byte of 200", "rules: " + " ".repeat(195) + "plain -> -300",
            "rules: " + " ".repeat(194) + "plain; -> -299");
        b.test(sentence, "a part of a NAME is another NAME", "rules: plai -> -100", "rules: plain sil -> -106");
    }

    private void faultOfToken() {
        String sentence = "FAULT: the place (from 0) of the first byte of the first NAME, NUMBER or other byte that can't stand there";
        b.test("-100 less its FAULT. .. " + sentence, "the first byte of all", "rules: ; -> -100", "rules: 5 -> -100", "rules: x -> -100");
        b.test(sentence, "the first byte of a NAME, not where it goes wrong", "rules:   plainx -> -102", "rules: plain silenx; -> -106");
        b.test(sentence, "of two the first", "rules: plain x 5 y -> -106", "rules: plain add 100 200; -> -110");
        b.test(sentence, "another byte", "rules: plain add 1;; -> -112", "rules: plain add 1, -> -111");
        b.test(sentence, "a KIND where DO must come, a NUMBER where a NAME must come", "rules: plain plain add 1; -> -106",
            "rules: plain 5; -> -106", "rules: 1 add 1; -> -100");
        b.test("(a NUMBER of more digits, N out of its range, the fourth \"(\", the first NAME of the ninth RULE, too)",
            "each in its place, none else ahead of it", "rules: plain add 12345 -> -110", "rules: plain add 100 -> -110",
            "rules: plain if (((( -> -112", "rules: " + "plain add 1;".repeat(8) + "x -> -196");
    }
}
