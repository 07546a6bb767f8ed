/** The changes that file points: claim() and answer(). */
final class FilingCases {
    private FilingCases() {
    }

    private static final String[] TWO = {"claim(0, 2, 1)", "answer(0, 3, 0)", "pass(4)"};

    // ---- Promise 3: claim

    @Says(in = "Promise 3", text = "Files a claim.")
    static void claims(Probe p) {
        p.runs("pass(6)", "claim(1, 7, 0b110)", "of(0, 0) = 1", "of(0, 1) = 7", "of(0, 2) = 6", "of(0, 3) = NONE",
            "of(0, 4) = 0b110", "of(0, 6) = 0", "of(0, 9) = 0", "count(2) = 1");
        p.runs("claim(0, 1, 0)", "withdraw(0)", "undo()", "undo()", "claim(1, 2, 3)", "of(0, 6) = 0", "of(0, 0) = 1");
    }

    @Says(in = "Promise 3", text = "This is a change.")
    static void claimIsAChange(Probe p) {
        p.change("claim(1, 9, 1023)", TWO);
        p.change("claim(0, 1, 0)");
    }

    @Says(in = "Promise 3", text = "- `side`: 0 or 1")
    static void claimSide(Probe p) {
        p.runs("claim(-1, 1, 0) = BAD_VALUE", "claim(0, 1, 0) = 0", "claim(1, 1, 0) = 1", "claim(2, 1, 0) = BAD_VALUE",
            "of(0, 0) = 0", "of(1, 0) = 1");
    }

    @Says(in = "Promise 3", text = "- `pages`: 1 to 9")
    static void claimPages(Probe p) {
        p.runs("claim(0, 0, 0) = BAD_VALUE", "claim(0, 1, 0) = 0", "claim(0, 9, 0) = 1", "claim(0, 10, 0) = BAD_VALUE",
            "of(0, 1) = 1", "of(1, 1) = 9");
    }

    @Says(in = "Promise 3", text = "- `cases`: 0 to 1023, a set")
    static void claimCases(Probe p) {
        p.runs("claim(0, 1, -1) = BAD_VALUE", "claim(0, 1, 0) = 0", "claim(0, 1, 1023) = 1", "claim(0, 1, 1024) = BAD_VALUE",
            "of(0, 4) = 0", "of(1, 4) = 1023");
    }

    @Says(in = "Promise 3", text = "Returns its number;")
    static void claimReturns(Probe p) {
        p.runs("claim(0, 1, 0) = 0", "answer(0, 1, 0) = 1", "claim(1, 1, 0) = 2", "withdraw(2)", "claim(1, 1, 0) = 3", "undo()",
            "claim(0, 1, 0) = 3", "20 x claim(0, 1, 0)", "undo()", "claim(1, 1, 0) = 23");
    }

    @Says(in = "Promise 3", text = "BAD_VALUE if an argument is out of range;")
    static void claimRefuses(Probe p) {
        p.runs("claim(MAX, 1, 0) = BAD_VALUE", "claim(MIN, 1, 0) = BAD_VALUE", "claim(0, -1, 0) = BAD_VALUE",
            "claim(0, MAX, 0) = BAD_VALUE", "claim(0, MIN, 0) = BAD_VALUE", "claim(0, 1, MAX) = BAD_VALUE",
            "claim(0, 1, MIN) = BAD_VALUE", "claim(0, 1, 2047) = BAD_VALUE", "claim(2, 0, 1024) = BAD_VALUE", "claim(0, 1, 0) = 0");
        p.runs("24 x claim(0, 1, 0)", "claim(2, 1, 0) = BAD_VALUE", "claim(0, 10, 0) = BAD_VALUE", "claim(0, 1, -1) = BAD_VALUE");
    }

    @Says(in = "Promise 3", text = "TOO_MANY if there are 24 points.")
    static void claimTooMany(Probe p) {
        p.runs("23 x claim(0, 1, 0)", "claim(1, 9, 1023) = 23", "claim(0, 1, 0) = TOO_MANY", "claim(1, 1, 0) = TOO_MANY",
            "withdraw(23)", "claim(0, 1, 0) = TOO_MANY", "undo()", "undo()", "claim(0, 1, 0) = 23");
        p.runs("set(1, 1)", "24 x claim(0, 2, 0)", "count(3) = 0", "claim(0, 1, 0) = TOO_MANY");
    }

    // ---- Promise 4: answer

    @Says(in = "Promise 4", text = "Files an answer to a point.")
    static void answers(Probe p) {
        p.runs("claim(1, 2, 0)", "claim(0, 2, 0)", "pass(6)", "answer(0, 7, 0b110)", "of(2, 0) = 0", "of(2, 1) = 7", "of(2, 2) = 6",
            "of(2, 3) = 0", "of(2, 4) = 0b110", "of(2, 6) = 0", "of(2, 9) = 1", "of(2, 10) = 14", "of(0, 8) = 0b100",
            "of(1, 8) = 0", "count(2) = 2");
        p.runs("claim(0, 1, 0)", "answer(0, 1, 0)", "pass(9)", "withdraw(1)", "undo()", "undo()", "undo()", "pass(4)",
            "answer(0, 1, 0)", "of(1, 6) = 0", "of(1, 10) = 14");
    }

    @Says(in = "Promise 4", text = "This is a change.")
    static void answerIsAChange(Probe p) {
        p.change("answer(0, 9, 1023)", TWO);
        p.change("answer(1, 1, 0)", TWO);
    }

    @Says(in = "Promise 4", text = "- `pages`: 1 to 9")
    static void answerPages(Probe p) {
        p.runs("claim(0, 1, 0)", "answer(0, 0, 0) = BAD_VALUE", "answer(0, 1, 0) = 1", "answer(0, 9, 0) = 2",
            "answer(0, 10, 0) = BAD_VALUE", "of(1, 1) = 1", "of(2, 1) = 9");
    }

    @Says(in = "Promise 4", text = "- `cases`: 0 to 1023, a set")
    static void answerCases(Probe p) {
        p.runs("claim(0, 1, 0)", "answer(0, 1, -1) = BAD_VALUE", "answer(0, 1, 0) = 1", "answer(0, 1, 1023) = 2",
            "answer(0, 1, 1024) = BAD_VALUE", "of(1, 4) = 0", "of(2, 4) = 1023");
    }

    @Says(in = "Promise 4", text = "Returns its number;")
    static void answerReturns(Probe p) {
        p.runs("claim(0, 1, 0)", "answer(0, 1, 0) = 1", "answer(1, 1, 0) = 2", "claim(0, 1, 0) = 3", "answer(0, 1, 0) = 4",
            "undo()", "answer(3, 1, 0) = 4", "18 x answer(0, 1, 0)", "answer(22, 1, 0) = 23");
    }

    @Says(in = "Promise 4", text = "NO_SUCH if there is no such point;")
    static void answerRefusesPoint(Probe p) {
        p.runs("answer(0, 1, 0) = NO_SUCH", "claim(0, 1, 0)", "answer(1, 1, 0) = NO_SUCH", "answer(-1, 1, 0) = NO_SUCH",
            "answer(NONE, 1, 0) = NO_SUCH", "answer(32, 1, 0) = NO_SUCH", "answer(MAX, 1, 0) = NO_SUCH",
            "answer(MIN, 1, 0) = NO_SUCH", "answer(0, 1, 0) = 1", "undo()", "answer(1, 1, 0) = NO_SUCH");
        p.runs("24 x claim(0, 1, 0)", "answer(24, 1, 0) = NO_SUCH", "answer(23, 1, 0) = TOO_MANY");
    }

    @Says(in = "Promise 4", text = "BAD_VALUE if another argument is out of range;")
    static void answerRefuses(Probe p) {
        p.runs("claim(0, 1, 0)", "answer(0, -1, 0) = BAD_VALUE", "answer(0, MAX, 0) = BAD_VALUE", "answer(0, MIN, 0) = BAD_VALUE",
            "answer(0, 1, MAX) = BAD_VALUE", "answer(0, 1, MIN) = BAD_VALUE", "answer(0, 1, 2047) = BAD_VALUE",
            "answer(0, 0, 1024) = BAD_VALUE", "answer(0, 1, 0) = 1");
        p.runs("24 x claim(0, 1, 0)", "answer(0, 10, 0) = BAD_VALUE", "answer(0, 1, 1024) = BAD_VALUE", "withdraw(0)",
            "answer(0, 10, 0) = BAD_VALUE");
    }

    @Says(in = "Promise 4", text = "TOO_MANY if there are 24 points;")
    static void answerTooMany(Probe p) {
        p.runs("claim(0, 1, 0)", "22 x answer(0, 1, 0)", "answer(22, 1, 0) = 23", "answer(0, 1, 0) = TOO_MANY",
            "answer(23, 1, 0) = TOO_MANY", "withdraw(5)", "answer(5, 1, 0) = TOO_MANY", "undo()", "undo()", "answer(0, 1, 0) = 23");
    }

    @Says(in = "Promise 4", text = "NOT_POSSIBLE if the point is withdrawn.")
    static void answerRefusesWithdrawn(Probe p) {
        p.runs("claim(0, 1, 0)", "answer(0, 1, 0)", "withdraw(0)", "withdraw(1)", "answer(0, 1, 0) = NOT_POSSIBLE",
            "answer(1, 1, 0) = NOT_POSSIBLE", "undo()", "answer(1, 1, 0) = 2", "answer(0, 1, 0) = NOT_POSSIBLE",
            "withdraw(1)", "answer(2, 1, 0) = 3");
        p.runs("claim(0, 1, 1)", "answer(0, 1, 0)", "set(1, 1)", "claim(0, 1, 0)", "overrule(0)", "pass(15)", "of(0, 6) = 4",
            "of(1, 6) = 3", "of(2, 6) = 2", "answer(0, 1, 0) = 3", "answer(1, 1, 0) = 4", "answer(2, 1, 0) = 5",
            "answer(5, 1, 0) = 6");
    }
}
