/** Conventions, settings and points. */
final class TermsCases {
    private TermsCases() {
    }

    /** A bundle in which every kind of change can be made, and every kind of error. */
    static final String[] RICH = {
        "set(0, 10)", "claim(0, 5, 0b11)", "save(0)", "answer(0, 4, 0)", "claim(1, 9, 1)", "pass(3)", "answer(1, 2, 0)",
        "claim(1, 9, 0)", "claim(1, 9, 0)", "save(1)", "withdraw(3)", "overrule(0)", "write(\"o5;w1\")",
    };
    private static final String[] FULL = {
        "set(1, 5)", "claim(1, 4, 0)", "answer(0, 1, 1)", "22 x claim(0, 1, 0)", "withdraw(3)", "10 x pass(99)", "write(\"x\")",
    };

    @Says(in = "Terms", text = "CONVENTIONS. A method that fails returns one of the error codes NO_SUCH (-1), BAD_VALUE (-2), "
        + "BAD_TEXT (-3), TOO_MANY (-4) and NOT_POSSIBLE (-5);")
    static void errorCodes(Probe p) {
        p.runs("withdraw(0) = -1", "pass(0) = -2", "carryOut() = -3", "restore(0) = -5", "24 x claim(0, 1, 0)",
            "claim(0, 1, 0) = -4");
    }

    @Says(in = "Terms", text = "it names its errors in the order in which they are checked, "
        + "and the first one that applies is returned.")
    static void orderOfErrors(Probe p) {
        p.runs(Probe.with(FULL, "claim(2, 1, 0) = BAD_VALUE", "claim(0, 10, 0) = BAD_VALUE", "claim(0, 1, 1024) = BAD_VALUE",
            "claim(0, 1, 0) = TOO_MANY"));
        p.runs(Probe.with(FULL, "answer(24, 10, 1024) = NO_SUCH", "answer(-1, 1, 0) = NO_SUCH", "answer(3, 10, 0) = BAD_VALUE",
            "answer(3, 1, 1024) = BAD_VALUE", "answer(3, 1, 0) = TOO_MANY"));
        p.runs("claim(0, 1, 0)", "withdraw(0)", "answer(1, 0, -1) = NO_SUCH", "answer(0, 0, 0) = BAD_VALUE",
            "answer(0, 1, -1) = BAD_VALUE", "answer(0, 1, 0) = NOT_POSSIBLE");
        p.runs(Probe.with(FULL, "pass(100) = BAD_VALUE", "pass(0) = BAD_VALUE", "pass(10) = NOT_POSSIBLE"));
        p.runs(Probe.with(FULL, "of(24, 11) = NO_SUCH", "of(23, 11) = BAD_VALUE", "toStand(24) = NO_SUCH",
            "toStand(3) = NOT_POSSIBLE"));
        p.runs("10 x put(\"abcdefgh\")", "put(0x2061) = BAD_VALUE", "put(0) = BAD_VALUE", "put(\"a\") = TOO_MANY");
    }

    @Says(in = "Terms", text = "A call that returns an error changes nothing.")
    static void errorsChangeNothing(Probe p) {
        String[] failing = {
            "set(-1, 5) = BAD_VALUE", "set(2, 5) = BAD_VALUE", "set(0, 61) = BAD_VALUE", "set(1, 100) = BAD_VALUE",
            "claim(2, 1, 0) = BAD_VALUE", "claim(0, 0, 0) = BAD_VALUE", "claim(0, 1, -1) = BAD_VALUE",
            "answer(24, 1, 0) = NO_SUCH", "answer(0, 10, 0) = BAD_VALUE", "answer(0, 1, 1024) = BAD_VALUE",
            "withdraw(24) = NO_SUCH", "withdraw(3) = NOT_POSSIBLE", "renew(24) = NO_SUCH", "renew(0) = NOT_POSSIBLE",
            "renew(3) = NOT_POSSIBLE", "overrule(-1) = NO_SUCH", "overrule(10) = NO_SUCH", "pass(0) = BAD_VALUE",
            "pass(100) = BAD_VALUE", "of(24, 0) = NO_SUCH", "of(0, 11) = BAD_VALUE", "count(14) = BAD_VALUE",
            "points(6) = BAD_VALUE", "share(2) = NO_SUCH", "toFall(24) = NO_SUCH", "toStand(24) = NO_SUCH",
            "toStand(3) = NOT_POSSIBLE", "bestAnswer(2) = BAD_VALUE", "put(0) = BAD_VALUE", "put(0x6120) = BAD_VALUE",
            "put(0x610061) = BAD_VALUE", "save(2) = BAD_VALUE", "save(-1) = BAD_VALUE", "restore(2) = BAD_VALUE",
            "restore(-1) = BAD_VALUE",
        };
        for (String row : failing) {
            p.runs(Probe.with(RICH, row));
            p.runs(Probe.with(FULL, row));
        }
        p.runs(Probe.with(RICH, "answer(3, 1, 0) = NOT_POSSIBLE"));
        p.runs(Probe.with(FULL, "claim(0, 1, 0) = TOO_MANY", "answer(0, 1, 0) = TOO_MANY", "pass(10) = NOT_POSSIBLE",
            "restore(1) = NOT_POSSIBLE", "carryOut() = BAD_TEXT"));
        p.runs("write(\"o1\")", "restore(0) = NOT_POSSIBLE", "undo() = NOT_POSSIBLE");
        p.runs("write(\"" + "o1;".repeat(26) + "o1\") = 80", "put(\"1\") = TOO_MANY");
    }

    @Says(in = "Terms", text = "NONE (-6) is not an error; it is returned only if no error applies.")
    static void noneComesLast(Probe p) {
        p.runs("share(2) = NO_SUCH", "share(1) = NONE", "bestAnswer(2) = BAD_VALUE", "bestAnswer(1) = NONE",
            "toFall(0) = NO_SUCH", "of(0, 3) = NO_SUCH", "changesIn() = NONE", "claim(0, 1, 0)", "of(0, 3) = NONE",
            "of(0, 11) = BAD_VALUE", "answer(0, 1, 0)", "answer(1, 1, 0)", "withdraw(2)", "toFall(1) = NONE",
            "toStand(0) = NONE", "toStand(2) = NOT_POSSIBLE", "withdraw(0)", "toStand(0) = NOT_POSSIBLE",
            "write(\"o1\")", "fault() = NONE", "carryOut() = 1");
    }

    @Says(in = "Terms", text = "Everything is numbered from 0.")
    static void numberedFromZero(Probe p) {
        p.runs("count(0) = 0", "claim(0, 1, 1) = 0", "answer(0, 1, 0) = 1", "of(1, 3) = 0", "of(0, 0) = 0", "points(4) = 1",
            "overrule(0) = 1", "of(0, 6) = 4", "save(0) = 2", "set(0, 5) = 14", "put(\"x\")", "fault() = 0");
        p.runs("of(-1, 0) = NO_SUCH", "overrule(-1) = NO_SUCH", "save(-1) = BAD_VALUE", "set(-1, 5) = BAD_VALUE",
            "claim(-1, 1, 0) = BAD_VALUE", "share(-1) = NO_SUCH");
    }

    @Says(in = "Terms", text = "Sets of points and of cases are bit masks.")
    static void setsAreMasks(Probe p) {
        p.runs("claim(0, 1, 0b1000000001)", "of(0, 4) = 0b1000000001", "overrule(9)", "count(9) = 0b1000000000",
            "overrule(0)", "count(9) = 0b1000000001", "of(0, 6) = 4", "points(2) = 0b1", "points(0) = 0b0");
        p.runs("set(1, 99)", "24 x claim(0, 1, 0)", "points(0) = 0b111111111111111111111111", "withdraw(23)",
            "points(2) = 0b100000000000000000000000");
    }

    @Says(in = "Settings", text = "(In parentheses: range; first value.) LAPSE (1 to 60; 14): days that an answer lasts;")
    static void lapse(Probe p) {
        p.runs("count(10) = 14", "set(0, 1) = 14", "set(0, 0) = BAD_VALUE", "set(0, 60) = 1", "set(0, 61) = BAD_VALUE",
            "count(10) = 60", "count(11) = 30");
        p.runs("set(0, 1)", "claim(0, 1, 0)", "answer(0, 1, 0)", "pass(1)", "of(1, 6) = 0", "pass(1)", "of(1, 6) = 3");
        p.runs("set(0, 60)", "claim(0, 1, 0)", "answer(0, 1, 0)", "pass(60)", "of(1, 6) = 0", "pass(1)", "of(1, 6) = 3");
    }

    @Says(in = "Settings", text = "PAGES (1 to 99; 30): pages that a side may have.")
    static void pages(Probe p) {
        p.runs("count(11) = 30", "set(1, 1) = 30", "set(1, 0) = BAD_VALUE", "set(1, 99) = 1", "set(1, 100) = BAD_VALUE",
            "count(11) = 99", "count(10) = 14");
        p.runs("set(1, 1)", "claim(0, 1, 0)", "claim(1, 1, 0)", "claim(0, 1, 0)", "points(2) = 0b100");
        p.runs("set(1, 99)", "11 x claim(0, 9, 0)", "points(2) = 0", "claim(0, 1, 0)", "points(2) = 0b100000000000");
    }

    @Says(in = "Points", text = "There are up to 24 points, numbered in the order in which they were filed.")
    static void mostPoints(Probe p) {
        p.runs("claim(1, 1, 0) = 0", "answer(0, 1, 0) = 1", "claim(0, 1, 0) = 2", "19 x claim(0, 1, 0)", "claim(1, 2, 0) = 22",
            "answer(22, 1, 0) = 23", "count(1) = 24", "answer(23, 1, 0) = TOO_MANY", "claim(0, 1, 0) = TOO_MANY",
            "withdraw(5)", "claim(0, 1, 0) = TOO_MANY", "of(22, 1) = 2", "of(23, 3) = 22", "of(24, 0) = NO_SUCH");
    }

    @Says(in = "Points", text = "A point is a claim of a side (0 or 1), or it answers an earlier point;")
    static void claimOrAnswer(Probe p) {
        p.runs("claim(-1, 1, 0) = BAD_VALUE", "claim(0, 1, 0) = 0", "claim(1, 1, 0) = 1", "claim(2, 1, 0) = BAD_VALUE",
            "answer(2, 1, 0) = NO_SUCH", "answer(1, 1, 0) = 2", "answer(0, 1, 0) = 3", "of(0, 3) = NONE", "of(1, 3) = NONE",
            "of(2, 3) = 1", "of(3, 3) = 0");
    }

    @Says(in = "Points", text = "it is of the other side than that then.")
    static void otherSide(Probe p) {
        p.runs("claim(0, 1, 0)", "claim(1, 1, 0)", "answer(0, 1, 0)", "answer(1, 1, 0)", "answer(2, 1, 0)", "answer(3, 1, 0)",
            "of(2, 0) = 1", "of(3, 0) = 0", "of(4, 0) = 0", "of(5, 0) = 1", "points(4) = 0b011001", "points(5) = 0b100110");
    }

    @Says(in = "Points", text = "It has 1 to 9 pages,")
    static void pagesOfAPoint(Probe p) {
        p.runs("claim(0, 0, 0) = BAD_VALUE", "claim(0, 1, 0) = 0", "claim(0, 9, 0) = 1", "claim(0, 10, 0) = BAD_VALUE",
            "answer(0, 0, 0) = BAD_VALUE", "answer(0, 1, 0) = 2", "answer(0, 9, 0) = 3", "answer(0, 10, 0) = BAD_VALUE",
            "of(0, 1) = 1", "of(1, 1) = 9", "of(2, 1) = 1", "of(3, 1) = 9");
    }

    @Says(in = "Points", text = "the day on which it was filed,")
    static void dayOfFiling(Probe p) {
        p.runs("claim(0, 1, 0)", "pass(7)", "answer(0, 1, 0)", "10 x pass(99)", "pass(2)", "renew(1)", "claim(0, 1, 0)",
            "of(0, 2) = 0", "of(1, 2) = 7", "of(2, 2) = 999");
    }

    @Says(in = "Points", text = "and cites a set of 10 cases, 0 to 9 (perhaps none).")
    static void citedCases(Probe p) {
        p.runs("claim(0, 1, -1) = BAD_VALUE", "claim(0, 1, 0) = 0", "claim(0, 1, 1023) = 1", "claim(0, 1, 1024) = BAD_VALUE",
            "of(0, 4) = 0", "of(1, 4) = 1023", "overrule(0) = 1", "overrule(9) = 1", "overrule(10) = NO_SUCH",
            "count(9) = 0b1000000001");
    }

    @Says(in = "Points", text = "A point can be withdrawn, for good.")
    static void withdrawnForGood(Probe p) {
        p.runs("claim(0, 1, 1)", "answer(0, 1, 0)", "withdraw(0)", "withdraw(1)", "renew(0) = NOT_POSSIBLE",
            "renew(1) = NOT_POSSIBLE", "withdraw(0) = NOT_POSSIBLE", "withdraw(1) = NOT_POSSIBLE", "answer(0, 1, 0) = NOT_POSSIBLE",
            "overrule(0)", "pass(15)", "set(1, 99)", "of(0, 6) = 1", "of(1, 6) = 1", "overrule(0)", "of(0, 6) = 1");
    }
}
