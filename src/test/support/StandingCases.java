/** What stands, and the five reasons against it. */
final class StandingCases {
    private StandingCases() {
    }

    @Says(in = "What stands", text = "A point is out if one of these is so; its reason is the first one:")
    static void firstReason(Probe p) {
        String[] allFour = {"set(1, 5)", "claim(1, 1, 0)", "claim(0, 3, 0)", "answer(0, 3, 1)", "overrule(0)", "pass(15)"};
        p.runs(Probe.with(allFour, "of(2, 6) = 2", "points(2) = 0b100", "withdraw(2)", "of(2, 6) = 1"));
        p.runs(Probe.with(allFour, "set(1, 6)", "of(2, 6) = 3", "points(2) = 0b100", "withdraw(2)", "of(2, 6) = 1"));
        p.runs(Probe.with(allFour, "set(1, 6)", "renew(2)", "of(2, 6) = 4", "withdraw(2)", "of(2, 6) = 1"));
        p.runs(Probe.with(allFour, "renew(2)", "of(2, 6) = 2", "overrule(0)", "of(2, 6) = 2", "set(1, 6)", "of(2, 6) = 0"));
        p.runs(Probe.with(allFour, "set(1, 6)", "overrule(0)", "of(2, 6) = 3", "set(0, 15)", "of(2, 6) = 0"));
        p.runs(Probe.with(allFour, "set(1, 9)", "renew(2)", "answer(2, 1, 0)", "of(3, 6) = 0", "of(2, 6) = 4", "overrule(0)",
            "of(2, 6) = 5"));
    }

    @Says(in = "What stands", text = "It is withdrawn.")
    static void withdrawn(Probe p) {
        p.runs("claim(0, 1, 0)", "answer(0, 1, 0)", "of(1, 6) = 0", "of(0, 6) = 5", "withdraw(1) = 1", "of(1, 6) = 1",
            "of(0, 6) = 0", "withdraw(0) = 0", "of(0, 6) = 1", "points(2) = 0b11");
    }

    @Says(in = "What stands", text = "It is struck out: the pages of its side's points that are not withdrawn,")
    static void struckOutOfItsSide(Probe p) {
        p.runs("set(1, 10)", "claim(0, 6, 0)", "claim(1, 6, 0)", "claim(0, 4, 0)", "points(2) = 0", "claim(0, 1, 0)",
            "of(3, 6) = 2", "points(2) = 0b1000", "answer(0, 4, 0)", "of(4, 6) = 0", "answer(0, 1, 0)", "of(5, 6) = 2",
            "withdraw(0)", "of(3, 6) = 0", "of(5, 6) = 2", "withdraw(1)", "of(5, 6) = 0");
    }

    @Says(in = "What stands", text = "filed up to it (by their numbers, this one too),")
    static void filedUpToIt(Probe p) {
        p.runs("set(1, 4)", "claim(0, 5, 0)", "of(0, 6) = 2");
        p.runs("set(1, 5)", "claim(0, 5, 0)", "of(0, 6) = 0", "claim(0, 1, 0)", "of(0, 6) = 0", "of(1, 6) = 2");
        p.runs("set(1, 5)", "claim(0, 1, 0)", "answer(0, 3, 0)", "pass(3)", "claim(1, 2, 0)", "answer(0, 1, 0)", "pass(3)",
            "renew(1)", "points(2) = 0b1000", "of(3, 6) = 2");
    }

    @Says(in = "What stands", text = "struck ones left out,")
    static void struckOnesLeftOut(Probe p) {
        p.runs("set(1, 10)", "claim(0, 6, 0)", "claim(0, 5, 0)", "claim(0, 4, 0)", "claim(0, 1, 0)", "points(2) = 0b1010",
            "count(7) = 10");
        p.runs("set(1, 1)", "3 x claim(0, 2, 0)", "claim(0, 1, 0)", "points(2) = 0b0111");
    }

    @Says(in = "What stands", text = "are more than PAGES.")
    static void moreThanPages(Probe p) {
        p.runs("3 x claim(0, 9, 0)", "claim(0, 3, 0)", "points(2) = 0", "set(1, 29)", "points(2) = 0b1000", "set(1, 30)",
            "points(2) = 0", "claim(0, 1, 0)", "points(2) = 0b10000", "set(1, 31)", "points(2) = 0");
    }

    @Says(in = "What stands", text = "(So a point that is struck out takes no pages from those behind it; "
        + "one that lapsed, or whose cases are overruled, does.)")
    static void whatTakesPages(Probe p) {
        p.runs("set(1, 9)", "claim(1, 5, 0)", "claim(1, 5, 0)", "claim(1, 4, 0)", "points(2) = 0b010", "of(2, 6) = 0");
        p.runs("set(1, 9)", "claim(1, 1, 0)", "answer(0, 5, 0)", "pass(15)", "of(1, 6) = 3", "claim(0, 5, 0)", "of(2, 6) = 2",
            "claim(0, 4, 0)", "of(3, 6) = 0");
        p.runs("set(1, 9)", "claim(0, 5, 2)", "overrule(1)", "of(0, 6) = 4", "claim(0, 5, 0)", "of(1, 6) = 2", "claim(0, 4, 0)",
            "of(2, 6) = 0");
        p.runs("set(1, 9)", "claim(0, 5, 0)", "answer(0, 1, 0)", "of(0, 6) = 5", "claim(0, 5, 0)", "of(2, 6) = 2");
    }

    @Says(in = "What stands", text = "It answers a point, and more than LAPSE days went by since it was filed,")
    static void lapsed(Probe p) {
        p.runs("claim(0, 1, 0)", "pass(5)", "answer(0, 1, 0)", "pass(14)", "of(1, 6) = 0", "pass(1)", "of(1, 6) = 3",
            "of(0, 6) = 0", "pass(99)", "of(0, 6) = 0", "of(1, 6) = 3");
        p.runs("claim(0, 1, 0)", "answer(0, 1, 0)", "pass(3)", "set(0, 3)", "of(1, 6) = 0", "set(0, 2)", "of(1, 6) = 3",
            "set(0, 60)", "of(1, 6) = 0", "pass(57)", "of(1, 6) = 0", "pass(1)", "of(1, 6) = 3");
    }

    @Says(in = "What stands", text = "or renewed last.")
    static void lapsedAfterRenewal(Probe p) {
        p.runs("claim(0, 1, 0)", "answer(0, 1, 0)", "pass(10)", "renew(1)", "pass(4)", "renew(1)", "pass(14)", "of(1, 6) = 0",
            "pass(1)", "of(1, 6) = 3", "renew(1)", "of(1, 6) = 0", "pass(14)", "of(1, 6) = 0", "pass(1)", "of(1, 6) = 3");
    }

    @Says(in = "What stands", text = "It cites cases, and all of these are overruled.")
    static void baseless(Probe p) {
        p.runs("claim(0, 1, 0)", "claim(0, 1, 0b100)", "claim(0, 1, 0b1100)", "overrule(2)", "of(0, 6) = 0", "of(1, 6) = 4",
            "of(2, 6) = 0", "overrule(3)", "of(2, 6) = 4", "overrule(2)", "of(1, 6) = 0", "of(2, 6) = 0", "of(0, 6) = 0");
        p.runs("claim(0, 1, 1023)", "claim(1, 1, 0)", "overrule(0)", "overrule(1)", "overrule(2)", "overrule(3)", "overrule(4)",
            "overrule(5)", "overrule(6)", "overrule(7)", "overrule(8)", "points(2) = 0", "overrule(9)", "points(2) = 0b1");
    }

    @Says(in = "What stands", text = "A point that is not out stands if no answer to it stands;")
    static void standsIfNoAnswerStands(Probe p) {
        p.runs("claim(0, 1, 0)", "answer(0, 1, 0)", "answer(1, 1, 0)", "points(0) = 0b101", "answer(0, 1, 2)", "points(0) = 0b1100",
            "overrule(1)", "points(0) = 0b101", "answer(2, 1, 0)", "points(0) = 0b10010", "withdraw(1)", "points(0) = 0b10001");
        p.runs("claim(0, 1, 0)", "set(1, 1)", "answer(0, 2, 0)", "points(0) = 0b1", "set(1, 2)", "points(0) = 0b10", "pass(15)",
            "points(0) = 0b1");
        p.runs("set(1, 99)", "claim(0, 1, 0)", "22 x answer(0, 1, 1)", "overrule(0)", "points(0) = 0b1", "answer(0, 1, 0)",
            "points(0) = 0b100000000000000000000000");
    }

    @Says(in = "What stands", text = "otherwise it is answered: reason 5.")
    static void answered(Probe p) {
        p.runs("claim(0, 1, 0)", "points(3) = 0", "answer(0, 1, 0)", "of(0, 6) = 5", "of(0, 5) = 0", "points(3) = 0b1",
            "points(2) = 0", "answer(1, 1, 0)", "of(0, 6) = 0", "of(1, 6) = 5", "points(3) = 0b10");
    }

    @Says(in = "What stands", text = "(So an unanswered point stands.)")
    static void unanswered(Probe p) {
        p.runs("claim(0, 1, 0)", "points(0) = 0b1", "claim(1, 9, 1023)", "points(0) = 0b11", "answer(1, 1, 0)", "of(2, 5) = 1",
            "pass(99)", "of(0, 5) = 1");
    }
}
