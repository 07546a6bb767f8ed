/** What if: toFall(), toStand(), bestAnswer(), changesIn() and leastPages(). */
final class WhatIfCases {
    private WhatIfCases() {
    }

    /** A row for each point of a bundle of wide PAGES: a claim of side 0, or an answer to the point told. */
    private static String[] tree(int... targets) {
        String[] rows = {"set(1, 99)"};
        for (int target : targets) {
            rows = Probe.with(rows, target < 0 ? "claim(0, 1, 0)" : "answer(" + target + ", 1, 0)");
        }
        return rows;
    }

    private static final int CLAIM = -1;
    private static final String[] CHAIN = tree(CLAIM, 0, 1, 2);

    // ---- Promise 13: toFall

    @Says(in = "Promise 13", text = "Finds the fewest answers more by which a point would not stand,")
    static void toFallFindsFewest(Probe p) {
        p.runs(Probe.with(tree(CLAIM), "toFall(0) = 1"));
        p.runs(Probe.with(tree(CLAIM, 0, 1), "toFall(0) = 1", "toFall(2) = 1"));
        p.runs(Probe.with(tree(CLAIM, 0, 1, 1), "toFall(0) = 2"));
        p.runs(Probe.with(tree(CLAIM, 0, 1, 1, 0, 4), "toFall(0) = 1"));
        p.runs(Probe.with(tree(CLAIM, 0, 1, 1, 0, 4, 4, 4), "toFall(0) = 2"));
        p.runs(Probe.with(tree(CLAIM, 0, 1, 1, 2, 4), "toFall(0) = 2"));
        p.runs(Probe.with(tree(CLAIM, 0, 1, 1, 1, 1, 1, 1, 1, 1, 1, 1, 1, 1, 1, 1, 1, 1, 1, 1, 1, 1, 1, 1), "toFall(0) = 22"));
        p.look("toFall(0)", TermsCases.RICH);
    }

    @Says(in = "Promise 13", text = "if each of them answered a point that has no answers (of whatever kind), "
        + "no two of them the same one,")
    static void toFallByPointsWithoutAnswers(Probe p) {
        p.runs(Probe.with(tree(CLAIM, 0), "withdraw(1)", "toFall(0) = NONE"));
        p.runs(Probe.with(tree(CLAIM, 0), "pass(15)", "of(1, 6) = 3", "toFall(0) = NONE"));
        p.runs(Probe.with(tree(CLAIM), "answer(0, 1, 1)", "overrule(0)", "toFall(0) = NONE"));
        p.runs("claim(0, 1, 0)", "set(1, 1)", "answer(0, 2, 0)", "of(1, 6) = 2", "toFall(0) = NONE");
        p.runs(Probe.with(tree(CLAIM, 0, 1, 1), "withdraw(3)", "toFall(0) = 1"));
        p.runs(Probe.with(tree(CLAIM, 0, 1, 1, 3), "withdraw(4)", "toFall(0) = NONE"));
    }

    @Says(in = "Promise 13", text = "was not out (whatever pages it takes), and was answered by none.")
    static void toFallByAnswersThatStand(Probe p) {
        p.runs("set(1, 1)", "claim(0, 1, 0)", "claim(1, 1, 0)", "toFall(0) = 1", "toFall(1) = 1");
        p.runs("set(1, 1)", "24 x claim(0, 1, 0)", "toFall(0) = 1", "toFall(23) = 0");
        p.runs("overrule(0)", "claim(0, 1, 0)", "10 x pass(99)", "pass(9)", "toFall(0) = 1");
    }

    @Says(in = "Promise 13", text = "Returns how many (0 if it does not stand);")
    static void toFallOfFallen(Probe p) {
        p.runs(Probe.with(CHAIN, "toFall(0) = 0", "toFall(1) = 1", "toFall(2) = 0", "toFall(3) = 1", "withdraw(3)",
            "toFall(3) = 0", "toFall(1) = 0"));
        p.runs("set(1, 1)", "claim(0, 2, 0)", "claim(0, 1, 1)", "answer(1, 1, 0)", "overrule(0)", "pass(15)", "toFall(0) = 0",
            "toFall(1) = 0", "toFall(2) = 0");
    }

    @Says(in = "Promise 13", text = "NO_SUCH if there is no such point;")
    static void toFallRefuses(Probe p) {
        p.runs("toFall(0) = NO_SUCH", "claim(0, 1, 0)", "toFall(0) = 1", "toFall(1) = NO_SUCH", "toFall(-1) = NO_SUCH",
            "toFall(NONE) = NO_SUCH", "toFall(32) = NO_SUCH", "toFall(MAX) = NO_SUCH", "toFall(MIN) = NO_SUCH", "undo()",
            "toFall(0) = NO_SUCH");
        p.runs("24 x claim(0, 1, 0)", "toFall(23) = 1", "toFall(24) = NO_SUCH");
    }

    @Says(in = "Promise 13", text = "NONE if it cannot be so.")
    static void toFallOfNone(Probe p) {
        p.runs(Probe.with(CHAIN, "withdraw(2)", "toFall(1) = NONE", "withdraw(3)", "toFall(1) = NONE", "toFall(0) = 0"));
        p.runs(Probe.with(CHAIN, "withdraw(3)", "toFall(2) = NONE", "toFall(0) = NONE"));
    }

    // ---- Promise 14: toStand

    @Says(in = "Promise 14", text = "Finds the fewest such answers more by which a point would stand.")
    static void toStandFindsFewest(Probe p) {
        p.runs(Probe.with(tree(CLAIM, 0), "toStand(0) = 1"));
        p.runs(Probe.with(tree(CLAIM, 0, 0), "toStand(0) = 2"));
        p.runs(Probe.with(tree(CLAIM, 0, 0, 1), "toStand(0) = 1"));
        p.runs(Probe.with(tree(CLAIM, 0, 1, 2), "toStand(0) = 1", "toStand(2) = 1"));
        p.runs(Probe.with(tree(CLAIM, 0, 1, 2, 1, 4), "toStand(0) = 1"));
        p.runs(Probe.with(tree(CLAIM, 0, 1, 2, 2, 1, 5, 5, 5), "toStand(0) = 2", "toStand(5) = 3"));
        p.runs(Probe.with(tree(CLAIM, 0, 0, 0, 0, 0, 0, 0, 0, 0, 0, 0, 0, 0, 0, 0, 0, 0, 0, 0, 0, 0, 0, 0), "toStand(0) = 23"));
        p.runs(Probe.with(tree(CLAIM, 0, 1), "withdraw(2)", "answer(1, 1, 0)", "toStand(1) = 1", "answer(0, 1, 0)",
            "toStand(0) = 1", "set(1, 1)"));
        p.look("toStand(1)", TermsCases.RICH);
    }

    @Says(in = "Promise 14", text = "Returns how many (0 if it stands);")
    static void toStandOfStanding(Probe p) {
        p.runs(Probe.with(CHAIN, "toStand(3) = 0", "toStand(2) = 1", "toStand(1) = 0", "toStand(0) = 1", "withdraw(1)",
            "toStand(0) = 0"));
    }

    @Says(in = "Promise 14", text = "NO_SUCH if there is no such point;")
    static void toStandRefusesPoint(Probe p) {
        p.runs("toStand(0) = NO_SUCH", "claim(0, 1, 0)", "toStand(0) = 0", "toStand(1) = NO_SUCH", "toStand(-1) = NO_SUCH",
            "toStand(NONE) = NO_SUCH", "toStand(32) = NO_SUCH", "toStand(MAX) = NO_SUCH", "toStand(MIN) = NO_SUCH", "undo()",
            "toStand(0) = NO_SUCH");
        p.runs("24 x claim(0, 1, 0)", "toStand(23) = 0", "toStand(24) = NO_SUCH");
    }

    @Says(in = "Promise 14", text = "NOT_POSSIBLE if it is out;")
    static void toStandRefusesOut(Probe p) {
        p.runs(Probe.with(CHAIN, "withdraw(3)", "toStand(3) = NOT_POSSIBLE", "withdraw(0)", "toStand(0) = NOT_POSSIBLE", "pass(14)",
            "toStand(2) = 0", "pass(1)", "toStand(2) = NOT_POSSIBLE"));
        p.runs("set(1, 1)", "claim(0, 2, 0)", "claim(0, 1, 1)", "toStand(0) = NOT_POSSIBLE", "toStand(1) = 0", "overrule(0)",
            "toStand(1) = NOT_POSSIBLE");
    }

    @Says(in = "Promise 14", text = "NONE if it cannot be so.")
    static void toStandOfNone(Probe p) {
        p.runs(Probe.with(tree(CLAIM, 0, 1), "withdraw(2)", "toStand(0) = NONE"));
        p.runs(Probe.with(tree(CLAIM, 0, 1, 0), "withdraw(2)", "toStand(0) = NONE", "withdraw(1)", "toStand(0) = 1"));
        p.runs(Probe.with(tree(CLAIM, 0, 1), "renew(1)", "pass(9)", "renew(1)", "pass(6)", "of(2, 6) = 3", "toStand(0) = NONE"));
    }

    // ---- Promise 15: bestAnswer

    @Says(in = "Promise 15", text = "Finds the point, of those that are not out and have no answers,")
    static void bestOfOpenPoints(Probe p) {
        p.runs("2 x claim(0, 1, 0)", "withdraw(0)", "bestAnswer(0) = 1", "bestAnswer(1) = 1");
        p.runs("claim(0, 1, 0)", "answer(0, 1, 0)", "withdraw(1)", "claim(0, 1, 0)", "bestAnswer(0) = 2", "bestAnswer(1) = 1");
        p.runs("set(1, 5)", "claim(0, 6, 0)", "claim(0, 1, 1)", "overrule(0)", "claim(1, 1, 0)", "answer(2, 1, 0)", "pass(15)",
            "bestAnswer(0) = NONE", "claim(0, 1, 0)", "bestAnswer(0) = 4", "bestAnswer(1) = 1");
        p.look("bestAnswer(0)", TermsCases.RICH);
        p.look("bestAnswer(1)", TermsCases.RICH);
    }

    @Says(in = "Promise 15", text = "by one such answer to which the most claims would change (stand or not),")
    static void bestChangesMostClaims(Probe p) {
        p.runs(Probe.with(tree(CLAIM, 0, 0, CLAIM, 3, 4), "bestAnswer(0) = 5", "bestAnswer(1) = 1"));
        p.runs(Probe.with(tree(CLAIM, 0), "bestAnswer(0) = 1", "bestAnswer(1) = 1"));
        p.runs(Probe.with(tree(CLAIM, 0, 1), "bestAnswer(0) = 2", "bestAnswer(1) = 1"));
        p.runs(Probe.with(tree(CLAIM, 0, 0), "bestAnswer(1) = 0", "claim(1, 1, 0)", "bestAnswer(0) = 3", "bestAnswer(1) = 1"));
        p.runs("set(1, 1)", "claim(0, 1, 0)", "claim(1, 1, 0)", "bestAnswer(0) = 0", "bestAnswer(1) = 1");
    }

    @Says(in = "Promise 15", text = "of several the lowest one.")
    static void bestIsTheLowest(Probe p) {
        p.runs("3 x claim(0, 1, 0)", "bestAnswer(0) = 0", "withdraw(0)", "bestAnswer(0) = 1");
        p.runs(Probe.with(tree(CLAIM, 0, 0), "bestAnswer(0) = 1", "bestAnswer(1) = 0", "withdraw(1)", "bestAnswer(0) = 2",
            "bestAnswer(1) = 1"));
        p.runs(Probe.with(tree(CLAIM, 0, CLAIM, 2), "bestAnswer(0) = 1", "bestAnswer(1) = 1"));
    }

    @Says(in = "Promise 15", text = "- `what`: 0 the point, 1 how many claims would change Returns the number;")
    static void bestAnswers(Probe p) {
        p.runs("withdraw(0) = NO_SUCH", "4 x claim(0, 1, 0)", "withdraw(0)", "withdraw(1)", "withdraw(2)", "bestAnswer(0) = 3",
            "bestAnswer(1) = 1");
        p.runs("set(1, 99)", "23 x claim(0, 1, 0)", "answer(0, 1, 0)", "bestAnswer(0) = 1", "bestAnswer(1) = 1");
        p.runs("set(1, 99)", "23 x claim(0, 1, 1)", "claim(0, 1, 0)", "overrule(0)", "bestAnswer(0) = 23", "bestAnswer(1) = 1");
    }

    @Says(in = "Promise 15", text = "BAD_VALUE if what is neither 0 nor 1;")
    static void bestRefuses(Probe p) {
        p.runs("bestAnswer(-1) = BAD_VALUE", "bestAnswer(2) = BAD_VALUE", "claim(0, 1, 0)", "bestAnswer(-1) = BAD_VALUE",
            "bestAnswer(2) = BAD_VALUE", "bestAnswer(MAX) = BAD_VALUE", "bestAnswer(MIN) = BAD_VALUE", "bestAnswer(0) = 0",
            "bestAnswer(1) = 1");
    }

    @Says(in = "Promise 15", text = "NONE if each point is out, or has an answer.")
    static void bestOfNone(Probe p) {
        p.runs("bestAnswer(0) = NONE", "bestAnswer(1) = NONE", "claim(0, 1, 0)", "bestAnswer(0) = 0", "answer(0, 1, 0)",
            "bestAnswer(0) = 1", "withdraw(1)", "bestAnswer(0) = NONE", "bestAnswer(1) = NONE", "of(0, 5) = 1");
        p.runs("claim(0, 1, 0)", "withdraw(0)", "bestAnswer(0) = NONE", "bestAnswer(1) = NONE");
    }

    // ---- Promise 16: changesIn

    @Says(in = "Promise 16", text = "Tells in how many days it will be other points that stand than now,")
    static void changesInTells(Probe p) {
        p.runs("claim(0, 1, 0)", "answer(0, 1, 0)", "changesIn() = 15", "pass(14) = 1", "points(0) = 0b10", "changesIn() = 1",
            "pass(1) = 1", "points(0) = 0b01", "changesIn() = NONE", "renew(1)", "changesIn() = 15");
        p.runs("set(0, 60)", "claim(0, 1, 0)", "answer(0, 1, 0)", "changesIn() = 61", "set(0, 1)", "changesIn() = 2", "pass(1)",
            "changesIn() = 1");
        p.runs("claim(0, 1, 0)", "answer(0, 1, 0)", "answer(1, 1, 0)", "pass(5)", "renew(2)", "points(0) = 0b101",
            "changesIn() = 15", "renew(1)", "pass(3)", "renew(2)", "changesIn() = 15");
        p.look("changesIn()", TermsCases.RICH);
    }

    @Says(in = "Promise 16", text = "if nothing else is done (beyond the day 999, too).")
    static void changesInBeyond(Probe p) {
        p.runs("set(0, 60)", "10 x pass(99)", "pass(9)", "claim(0, 1, 0)", "answer(0, 1, 0)", "changesIn() = 61",
            "pass(1) = NOT_POSSIBLE", "set(0, 1)", "changesIn() = 2");
    }

    @Says(in = "Promise 16", text = "Returns how many;")
    static void changesInReturns(Probe p) {
        for (int days = 0; days <= 14; days++) {
            String[] rows = {"claim(0, 1, 0)", "answer(0, 1, 0)", "answer(0, 1, 0)"};
            String[] later = days == 0 ? rows : Probe.with(rows, "pass(" + days + ")");
            p.runs(Probe.with(later, "renew(2)", "changesIn() = " + (15 - days), "withdraw(1)", "changesIn() = 15"));
        }
    }

    @Says(in = "Promise 16", text = "NONE if it will never be so.")
    static void changesInNever(Probe p) {
        p.runs("changesIn() = NONE", "claim(0, 1, 0)", "changesIn() = NONE", "answer(0, 1, 0)", "withdraw(1)", "changesIn() = NONE");
        p.runs("set(1, 1)", "claim(0, 1, 0)", "answer(0, 2, 0)", "changesIn() = NONE", "answer(0, 1, 1)", "overrule(0)",
            "changesIn() = NONE", "overrule(0)", "changesIn() = 15");
        p.runs("set(0, 60)", "claim(0, 1, 0)", "answer(0, 1, 0)", "pass(61)", "changesIn() = NONE");
    }

    // ---- Promise 17: leastPages

    @Says(in = "Promise 17", text = "Finds the least PAGES, 1 to 99, by which no point would be struck out.")
    static void leastPagesFinds(Probe p) {
        p.runs("claim(0, 1, 0)", "leastPages() = 1", "claim(0, 1, 0)", "leastPages() = 2", "claim(1, 9, 0)", "leastPages() = 9",
            "answer(2, 9, 0)", "leastPages() = 11", "set(1, 1)", "leastPages() = 11", "set(1, 10)", "points(2) = 0b1000",
            "set(1, 11)", "points(2) = 0");
        p.runs("claim(0, 9, 1)", "answer(0, 8, 0)", "overrule(0)", "pass(15)", "leastPages() = 9", "withdraw(0)",
            "leastPages() = 8", "withdraw(1)", "leastPages() = 1");
        p.look("leastPages()", TermsCases.RICH);
    }

    @Says(in = "Promise 17", text = "Returns the setting;")
    static void leastPagesReturns(Probe p) {
        p.runs("leastPages() = 1", "11 x claim(1, 9, 0)", "leastPages() = 99", "claim(0, 9, 0)", "leastPages() = 99", "set(1, 99)",
            "points(2) = 0", "set(1, 98)", "points(2) = 0b10000000000");
    }

    @Says(in = "Promise 17", text = "NONE if there is none.")
    static void leastPagesOfNone(Probe p) {
        p.runs("11 x claim(1, 9, 0)", "claim(1, 1, 0)", "leastPages() = NONE", "withdraw(11)", "leastPages() = 99");
        p.runs("24 x claim(0, 9, 0)", "leastPages() = NONE");
    }
}
