/** What there is: of(), count(), points() and share(). */
final class LookCases {
    private LookCases() {
    }

    /** Six points: 0 and 3 are claims of side 0, 1 is one of side 1, 2 and 4 answer 0, 5 answers 2. */
    private static final String[] SIX = {
        "pass(3)", "claim(0, 5, 0b11)", "claim(1, 9, 1023)", "pass(2)", "answer(0, 4, 0)", "claim(0, 1, 0)", "answer(0, 3, 0b100)",
        "answer(2, 2, 0b1000)",
    };

    private static void asks(Probe p, String... rows) {
        p.runs(Probe.with(SIX, rows));
    }

    // ---- Promise 9: of

    @Says(in = "Promise 9", text = "Returns something about a point.")
    static void ofEachWhat(Probe p) {
        int[] due = {1, 4, 5, 0, 0, 0, 5, 5, 0b100000, 1, 14};
        for (int what = 0; what < due.length; what++) {
            asks(p, "of(2, " + what + ") = " + due[what]);
            p.look("of(2, " + what + ")", SIX);
        }
    }

    @Says(in = "Promise 9", text = "- `what`: 0 its side,")
    static void ofSide(Probe p) {
        asks(p, "of(0, 0) = 0", "of(1, 0) = 1", "of(2, 0) = 1", "of(3, 0) = 0", "of(4, 0) = 1", "of(5, 0) = 0", "withdraw(5)",
            "of(5, 0) = 0", "of(0, -1) = BAD_VALUE");
    }

    @Says(in = "Promise 9", text = "1 its pages,")
    static void ofPages(Probe p) {
        asks(p, "of(0, 1) = 5", "of(1, 1) = 9", "of(2, 1) = 4", "of(3, 1) = 1", "of(5, 1) = 2", "withdraw(5)", "of(5, 1) = 2");
    }

    @Says(in = "Promise 9", text = "2 the day on which it was filed,")
    static void ofDay(Probe p) {
        asks(p, "of(0, 2) = 3", "of(2, 2) = 5", "pass(9)", "renew(2)", "of(2, 2) = 5");
        p.runs("10 x pass(99)", "pass(9)", "claim(0, 1, 0)", "of(0, 2) = 999");
    }

    @Says(in = "Promise 9", text = "3 what it answers (NONE),")
    static void ofTarget(Probe p) {
        asks(p, "of(0, 3) = NONE", "of(1, 3) = NONE", "of(2, 3) = 0", "of(4, 3) = 0", "of(5, 3) = 2", "withdraw(2)", "of(5, 3) = 2");
    }

    @Says(in = "Promise 9", text = "4 the cases that it cites, as a set,")
    static void ofCases(Probe p) {
        asks(p, "of(0, 4) = 0b11", "of(1, 4) = 1023", "of(2, 4) = 0", "of(5, 4) = 0b1000", "overrule(3)", "of(5, 4) = 0b1000");
    }

    @Says(in = "Promise 9", text = "5 whether it stands (1 or 0),")
    static void ofStands(Probe p) {
        asks(p, "of(0, 5) = 0", "of(2, 5) = 0", "of(4, 5) = 1", "of(5, 5) = 1", "withdraw(4)", "of(4, 5) = 0", "of(0, 5) = 1",
            "overrule(3)", "of(5, 5) = 0", "of(2, 5) = 1", "of(0, 5) = 0", "set(1, 10)", "of(2, 5) = 0");
    }

    @Says(in = "Promise 9", text = "6 the reason against it, 1 to 5 (0 if it stands),")
    static void ofReason(Probe p) {
        asks(p, "of(4, 6) = 0", "of(0, 6) = 5", "of(2, 6) = 5", "overrule(3)", "of(5, 6) = 4", "of(2, 6) = 0", "pass(15)",
            "of(5, 6) = 3", "of(2, 6) = 3", "of(0, 6) = 0", "set(1, 10)", "of(2, 6) = 2", "of(1, 6) = 0", "withdraw(2)",
            "of(2, 6) = 1", "of(5, 6) = 3");
    }

    @Says(in = "Promise 9", text = "7 the lowest answer to it that stands (NONE),")
    static void ofLowestAnswer(Probe p) {
        asks(p, "of(1, 7) = NONE", "of(0, 7) = 4", "of(2, 7) = 5", "of(5, 7) = NONE", "withdraw(5)", "of(2, 7) = NONE",
            "of(0, 7) = 2", "withdraw(2)", "of(0, 7) = 4", "withdraw(4)", "of(0, 7) = NONE");
        p.runs("set(1, 99)", "claim(0, 1, 0)", "22 x answer(0, 1, 1)", "answer(0, 1, 0)", "overrule(0)", "of(0, 7) = 23",
            "withdraw(0)", "of(0, 7) = 23", "overrule(0)", "of(0, 7) = 1");
    }

    @Says(in = "Promise 9", text = "8 its answers, as a set,")
    static void ofAnswers(Probe p) {
        asks(p, "of(0, 8) = 0b10100", "of(1, 8) = 0", "of(2, 8) = 0b100000", "of(5, 8) = 0", "withdraw(2)", "pass(15)",
            "of(0, 8) = 0b10100");
        p.runs("claim(0, 1, 0)", "23 x answer(0, 1, 0)", "of(0, 8) = 0b111111111111111111111110");
    }

    @Says(in = "Promise 9", text = "9 how deep it is: 0 for a claim, otherwise 1 more than what it answers,")
    static void ofDepth(Probe p) {
        asks(p, "of(0, 9) = 0", "of(3, 9) = 0", "of(2, 9) = 1", "of(4, 9) = 1", "of(5, 9) = 2", "withdraw(2)", "of(5, 9) = 2");
        String[] chain = {"claim(0, 1, 0)"};
        for (int i = 0; i < 23; i++) {
            chain = Probe.with(chain, "answer(" + i + ", 1, 0)", "of(" + (i + 1) + ", 9) = " + (i + 1));
        }
        p.runs(chain);
    }

    @Says(in = "Promise 9", text = "10 days that it lasts yet (0 on its last day;")
    static void ofDaysLeft(Probe p) {
        asks(p, "of(2, 10) = 14", "pass(1)", "of(2, 10) = 13", "pass(12)", "of(2, 10) = 1", "pass(1)", "of(2, 10) = 0",
            "of(2, 6) = 5", "renew(2)", "of(2, 10) = 14", "set(0, 60)", "of(2, 10) = 60", "set(0, 1)", "of(2, 10) = 1",
            "of(4, 10) = NONE", "of(2, 11) = BAD_VALUE");
        asks(p, "pass(4)", "withdraw(2)", "of(2, 10) = 10", "overrule(2)", "of(4, 6) = 4", "of(4, 10) = 10", "set(1, 8)",
            "of(1, 6) = 2", "pass(10)", "of(2, 10) = 0", "pass(1)", "of(2, 10) = NONE");
    }

    @Says(in = "Promise 9", text = "NONE for a claim, or if it lapsed)")
    static void ofDaysLeftOfNone(Probe p) {
        asks(p, "of(0, 10) = NONE", "of(1, 10) = NONE", "pass(14)", "of(5, 10) = 0", "pass(1)", "of(5, 10) = NONE", "set(0, 15)",
            "of(5, 10) = 0", "set(0, 14)", "of(5, 10) = NONE", "pass(99)", "of(5, 10) = NONE", "renew(5)", "of(5, 10) = 14");
    }

    @Says(in = "Promise 9", text = "Returns the number; NO_SUCH if there is no such point;")
    static void ofRefusesPoint(Probe p) {
        p.runs("of(0, 0) = NO_SUCH", "claim(0, 1, 0)", "of(0, 0) = 0", "of(1, 0) = NO_SUCH", "undo()", "of(0, 0) = NO_SUCH");
        asks(p, "of(6, 0) = NO_SUCH", "of(-1, 0) = NO_SUCH", "of(NONE, 8) = NO_SUCH", "of(32, 0) = NO_SUCH", "of(MAX, 0) = NO_SUCH",
            "of(MIN, 0) = NO_SUCH", "of(6, 11) = NO_SUCH", "of(-1, -1) = NO_SUCH", "of(5, 0) = 0");
        p.runs("24 x claim(0, 1, 0)", "of(24, 3) = NO_SUCH", "of(23, 3) = NONE");
    }

    @Says(in = "Promise 9", text = "BAD_VALUE if what is out of range.")
    static void ofRefusesWhat(Probe p) {
        asks(p, "of(0, -1) = BAD_VALUE", "of(0, 11) = BAD_VALUE", "of(0, MAX) = BAD_VALUE", "of(0, MIN) = BAD_VALUE",
            "of(5, 11) = BAD_VALUE");
    }

    // ---- Promise 10: count

    @Says(in = "Promise 10", text = "Returns a number.")
    static void countEachWhat(Probe p) {
        int[] due = {5, 6, 3, 4, 2, 0, 2, 8, 16, 0, 14, 30, 0, 6};
        for (int what = 0; what < due.length; what++) {
            asks(p, "count(" + what + ") = " + due[what]);
            p.look("count(" + what + ")", SIX);
        }
    }

    @Says(in = "Promise 10", text = "- `what`: 0 the day of now,")
    static void countDay(Probe p) {
        p.runs("count(0) = 0", "pass(1)", "count(0) = 1", "10 x pass(99)", "pass(8)", "count(0) = 999", "undo()", "count(0) = 991");
    }

    @Says(in = "Promise 10", text = "1 points,")
    static void countPoints(Probe p) {
        p.runs("count(1) = 0", "claim(0, 1, 0)", "count(1) = 1", "answer(0, 1, 0)", "count(1) = 2", "withdraw(0)", "count(1) = 2",
            "22 x claim(0, 1, 0)", "count(1) = 24");
    }

    @Says(in = "Promise 10", text = "2 claims,")
    static void countClaims(Probe p) {
        p.runs("count(2) = 0", "claim(0, 1, 0)", "answer(0, 1, 0)", "count(2) = 1", "claim(1, 1, 0)", "withdraw(2)", "count(2) = 2");
        p.runs("24 x claim(0, 1, 0)", "count(2) = 24");
    }

    @Says(in = "Promise 10", text = "3 points that stand,")
    static void countStanding(Probe p) {
        p.runs("count(3) = 0", "claim(0, 1, 0)", "count(3) = 1", "answer(0, 1, 0)", "count(3) = 1", "answer(1, 1, 0)",
            "count(3) = 2", "withdraw(1)", "count(3) = 2", "withdraw(0)", "withdraw(2)", "count(3) = 0");
        p.runs("24 x claim(0, 1, 0)", "count(3) = 24");
    }

    @Says(in = "Promise 10", text = "4 claims that stand,")
    static void countStandingClaims(Probe p) {
        p.runs("count(4) = 0", "claim(0, 1, 0)", "count(4) = 1", "answer(0, 1, 0)", "count(4) = 0", "answer(1, 1, 0)",
            "count(4) = 1", "claim(1, 1, 1)", "count(4) = 2", "overrule(0)", "count(4) = 1");
    }

    @Says(in = "Promise 10", text = "5 points that are out,")
    static void countOut(Probe p) {
        p.runs("set(1, 3)", "claim(0, 1, 1)", "answer(0, 3, 0)", "count(5) = 0", "claim(0, 3, 0)", "count(5) = 1", "overrule(0)",
            "count(5) = 2", "pass(15)", "count(5) = 3", "withdraw(1)", "count(5) = 3", "withdraw(2)", "count(5) = 3", "overrule(0)",
            "count(5) = 2");
    }

    @Says(in = "Promise 10", text = "6 points that are answered,")
    static void countAnswered(Probe p) {
        p.runs("count(6) = 0", "claim(0, 1, 0)", "count(6) = 0", "answer(0, 1, 0)", "count(6) = 1", "answer(1, 1, 0)",
            "count(6) = 1", "answer(0, 1, 0)", "count(6) = 2", "withdraw(1)", "count(6) = 1", "withdraw(3)", "count(6) = 0");
    }

    @Says(in = "Promise 10", text = "7, 8 pages of the side 0, 1 (points that are withdrawn or struck out left out),")
    static void countPages(Probe p) {
        p.runs("set(1, 9)", "claim(0, 5, 1)", "answer(0, 7, 0)", "answer(1, 2, 0)", "count(7) = 7", "count(8) = 7",
            "claim(0, 3, 0)", "count(7) = 7", "claim(0, 2, 0)", "count(7) = 9", "withdraw(0)", "count(7) = 7", "overrule(0)",
            "pass(15)", "count(7) = 7", "count(8) = 7", "withdraw(1)", "count(8) = 0", "set(1, 1)", "count(7) = 0");
        p.runs("set(1, 99)", "11 x claim(1, 9, 0)", "count(8) = 99", "count(7) = 0", "claim(1, 1, 0)", "count(8) = 99");
        p.runs("claim(0, 5, 1)", "answer(0, 7, 0)", "overrule(0)", "pass(15)", "points(0) = 0", "count(7) = 5", "count(8) = 7");
    }

    @Says(in = "Promise 10", text = "9 cases that are overruled, as a set,")
    static void countOverruled(Probe p) {
        p.runs("count(9) = 0", "overrule(0)", "count(9) = 1", "overrule(9)", "count(9) = 513", "overrule(0)", "count(9) = 512");
    }

    @Says(in = "Promise 10", text = "10, 11 the settings,")
    static void countSettings(Probe p) {
        p.runs("count(10) = 14", "count(11) = 30", "set(0, 60)", "set(1, 99)", "count(10) = 60", "count(11) = 99", "set(0, 1)",
            "set(1, 1)", "count(10) = 1", "count(11) = 1");
    }

    @Says(in = "Promise 10", text = "12 the length of the pad,")
    static void countPad(Probe p) {
        p.runs("count(12) = 0", "put(\"x\")", "count(12) = 1", "9 x put(\"abcdefgh\")", "put(\"abcdefg\")", "count(12) = 80",
            "put(\"a\") = TOO_MANY", "count(12) = 80", "wipe()", "count(12) = 0", "write(\"o1\")", "carryOut()", "count(12) = 0");
    }

    @Says(in = "Promise 10", text = "13 how many changes can be undone")
    static void countHistory(Probe p) {
        p.runs("count(13) = 0", "pass(1)", "count(13) = 1", "5 x pass(1)", "count(13) = 6", "pass(1)", "count(13) = 6", "undo()",
            "count(13) = 5", "5 x undo()", "count(13) = 0", "undo() = NOT_POSSIBLE", "count(13) = 0");
    }

    @Says(in = "Promise 10", text = "Returns the number; BAD_VALUE if what is out of range.")
    static void countRefuses(Probe p) {
        asks(p, "count(-1) = BAD_VALUE", "count(14) = BAD_VALUE", "count(MAX) = BAD_VALUE", "count(MIN) = BAD_VALUE",
            "count(0) = 5", "count(13) = 6");
    }

    // ---- Promise 11: points

    @Says(in = "Promise 11", text = "Returns points, as a set.")
    static void pointsEachWhat(Probe p) {
        int[] due = {0b111010, 0b001010, 0b000000, 0b000101, 0b101001, 0b010110};
        for (int what = 0; what < due.length; what++) {
            asks(p, "points(" + what + ") = " + due[what]);
            p.look("points(" + what + ")", SIX);
            p.runs("points(" + what + ") = 0");
        }
    }

    @Says(in = "Promise 11", text = "- `what`: 0 those that stand,")
    static void pointsStanding(Probe p) {
        asks(p, "points(0) = 0b111010", "withdraw(5)", "points(0) = 0b011110", "overrule(2)", "points(0) = 0b001110");
    }

    @Says(in = "Promise 11", text = "1 claims that stand,")
    static void pointsStandingClaims(Probe p) {
        asks(p, "points(1) = 0b001010", "withdraw(4)", "points(1) = 0b001011", "withdraw(1)", "points(1) = 0b001001");
    }

    @Says(in = "Promise 11", text = "2 those that are out,")
    static void pointsOut(Probe p) {
        asks(p, "points(2) = 0", "withdraw(1)", "points(2) = 0b000010", "overrule(3)", "points(2) = 0b100010", "set(1, 5)",
            "points(2) = 0b111010", "pass(15)", "points(2) = 0b111110");
    }

    @Says(in = "Promise 11", text = "3 those that are answered,")
    static void pointsAnswered(Probe p) {
        asks(p, "points(3) = 0b000101", "withdraw(5)", "points(3) = 0b000001", "pass(15)", "points(3) = 0");
    }

    @Says(in = "Promise 11", text = "4 those of the side 0, 5 of the side 1")
    static void pointsOfASide(Probe p) {
        asks(p, "points(4) = 0b101001", "points(5) = 0b010110", "withdraw(0)", "withdraw(1)", "points(4) = 0b101001",
            "points(5) = 0b010110");
    }

    @Says(in = "Promise 11", text = "Returns the set; BAD_VALUE if what is out of range.")
    static void pointsRefuses(Probe p) {
        asks(p, "points(-1) = BAD_VALUE", "points(6) = BAD_VALUE", "points(MAX) = BAD_VALUE", "points(MIN) = BAD_VALUE");
    }

    // ---- Promise 12: share

    @Says(in = "Promise 12", text = "Returns the share of a side's claims (withdrawn ones too) that stand:")
    static void shareOfClaims(Probe p) {
        String half = "share(0) = " + Float.floatToIntBits(0.5f);
        asks(p, half, "share(1) = " + Float.floatToIntBits(1f), "withdraw(3)", "share(0) = 0", "withdraw(4)", half,
            "withdraw(0)", "share(0) = 0", "share(1) = " + Float.floatToIntBits(1f), "withdraw(1)", "share(1) = 0");
        p.look("share(0)", SIX);
    }

    @Says(in = "Promise 12", text = "the bits, as Float.floatToIntBits tells them, of how many these are, as a float, "
        + "divided by all claims of the side, as a float.")
    static void shareBits(Probe p) {
        for (int all = 1; all <= 24; all++) {
            String[] rows = {"set(1, 99)", all + " x claim(1, 1, 0)", "share(1) = " + Float.floatToIntBits(1f)};
            for (int standing = all - 1; standing >= 0; standing--) {
                rows = Probe.with(rows, "withdraw(" + standing + ") = " + standing,
                    "share(1) = " + Float.floatToIntBits((float) standing / (float) all));
            }
            p.runs(rows);
        }
    }

    @Says(in = "Promise 12", text = "Returns the bits; NO_SUCH if there is no such side;")
    static void shareRefuses(Probe p) {
        p.runs("share(-1) = NO_SUCH", "share(2) = NO_SUCH", "share(MAX) = NO_SUCH", "share(MIN) = NO_SUCH", "share(0) = NONE",
            "claim(0, 1, 0)", "claim(1, 1, 0)", "share(-1) = NO_SUCH", "share(2) = NO_SUCH", "share(NONE) = NO_SUCH");
    }

    @Says(in = "Promise 12", text = "NONE if it has no claims.")
    static void shareOfNone(Probe p) {
        p.runs("share(0) = NONE", "share(1) = NONE", "claim(0, 1, 0)", "answer(0, 1, 0)", "share(1) = NONE", "share(0) = 0",
            "withdraw(0)", "share(0) = 0", "claim(1, 1, 0)", "share(1) = " + Float.floatToIntBits(1f));
    }
}
