/** The new object, and the changes but for those that file points. */
final class ChangeCases {
    private ChangeCases() {
    }

    private static final String[] THREE = {"claim(0, 2, 1)", "answer(0, 3, 0)", "claim(1, 4, 0)", "pass(4)"};

    @Says(in = "Promise 1", text = "Creates a bundle without points, on the day 0.")
    static void newObject(Probe p) {
        int[] counts = {0, 0, 0, 0, 0, 0, 0, 0, 0, 0, 14, 30, 0, 0};
        for (int what = 0; what < counts.length; what++) {
            p.runs("count(" + what + ") = " + counts[what]);
        }
        for (int what = 0; what <= 5; what++) {
            p.runs("points(" + what + ") = 0");
        }
        p.runs("of(0, 0) = NO_SUCH", "share(0) = NONE", "share(1) = NONE", "bestAnswer(0) = NONE", "changesIn() = NONE",
            "leastPages() = 1", "fault() = 0", "wipe() = 0", "undo() = NOT_POSSIBLE", "restore(0) = NOT_POSSIBLE",
            "restore(1) = NOT_POSSIBLE", "claim(0, 1, 0) = 0", "of(0, 2) = 0");
    }

    // ---- Promise 2: set

    @Says(in = "Promise 2", text = "Changes a setting.")
    static void setChangesOne(Probe p) {
        p.runs("set(0, 7)", "count(10) = 7", "count(11) = 30", "set(1, 8)", "count(10) = 7", "count(11) = 8");
    }

    @Says(in = "Promise 2", text = "This is a change.")
    static void setIsAChange(Probe p) {
        p.change("set(0, 2)", THREE);
        p.change("set(1, 2)", THREE);
        p.change("set(0, 14)", THREE);
        p.change("set(1, 30)", THREE);
    }

    @Says(in = "Promise 2", text = "Returns the previous value;")
    static void setReturnsPrevious(Probe p) {
        p.runs("set(0, 60) = 14", "set(0, 60) = 60", "set(0, 1) = 60", "set(0, 2) = 1", "set(1, 99) = 30", "set(1, 99) = 99",
            "set(1, 1) = 99", "undo()", "set(1, 5) = 99");
    }

    @Says(in = "Promise 2", text = "BAD_VALUE if there is no such setting,")
    static void setRefusesSetting(Probe p) {
        p.runs("set(-1, 5) = BAD_VALUE", "set(2, 5) = BAD_VALUE", "set(MAX, 5) = BAD_VALUE", "set(MIN, 5) = BAD_VALUE",
            "set(32, 5) = BAD_VALUE", "set(0, 5) = 14", "set(1, 5) = 30");
    }

    @Says(in = "Promise 2", text = "or the value is out of its range.")
    static void setRefusesValue(Probe p) {
        p.runs("set(0, 0) = BAD_VALUE", "set(0, 61) = BAD_VALUE", "set(0, -1) = BAD_VALUE", "set(0, MAX) = BAD_VALUE",
            "set(0, MIN) = BAD_VALUE", "set(0, 99) = BAD_VALUE", "set(0, 1) = 14", "set(0, 60) = 1");
        p.runs("set(1, 0) = BAD_VALUE", "set(1, 100) = BAD_VALUE", "set(1, -1) = BAD_VALUE", "set(1, MAX) = BAD_VALUE",
            "set(1, MIN) = BAD_VALUE", "set(1, 61) = 30", "set(1, 1) = 61", "set(1, 99) = 1");
    }

    // ---- Promise 5: withdraw

    @Says(in = "Promise 5", text = "Withdraws a point.")
    static void withdraws(Probe p) {
        p.runs("2 x claim(0, 1, 0)", "answer(1, 1, 0)", "withdraw(0)", "of(0, 6) = 1", "of(2, 6) = 0", "withdraw(2)",
            "of(2, 6) = 1", "of(1, 6) = 0");
        p.runs("set(1, 1)", "claim(0, 2, 0)", "of(0, 6) = 2", "withdraw(0) = 0", "of(0, 6) = 1");
        p.runs("claim(0, 2, 0)", "answer(0, 1, 1)", "pass(15)", "overrule(0)", "withdraw(1) = 1", "of(1, 6) = 1");
    }

    @Says(in = "Promise 5", text = "This is a change.")
    static void withdrawIsAChange(Probe p) {
        p.change("withdraw(0)", THREE);
        p.change("withdraw(1)", THREE);
    }

    @Says(in = "Promise 5", text = "Returns how many points stand then;")
    static void withdrawReturnsStanding(Probe p) {
        p.runs("2 x claim(0, 1, 0)", "answer(0, 1, 0)", "answer(2, 1, 0)", "withdraw(3) = 2", "withdraw(0) = 2", "withdraw(2) = 1",
            "withdraw(1) = 0");
        p.runs("set(1, 3)", "claim(0, 3, 0)", "claim(0, 2, 0)", "claim(0, 1, 0)", "withdraw(0) = 2");
        p.runs("set(1, 99)", "24 x claim(0, 1, 0)", "withdraw(23) = 23");
    }

    @Says(in = "Promise 5", text = "NO_SUCH if there is no such point;")
    static void withdrawRefusesPoint(Probe p) {
        p.runs("withdraw(0) = NO_SUCH", "claim(0, 1, 0)", "withdraw(1) = NO_SUCH", "withdraw(-1) = NO_SUCH",
            "withdraw(NONE) = NO_SUCH", "withdraw(32) = NO_SUCH", "withdraw(MAX) = NO_SUCH", "withdraw(MIN) = NO_SUCH",
            "withdraw(0) = 0");
        p.runs("24 x claim(0, 1, 0)", "withdraw(24) = NO_SUCH", "withdraw(23) = 23", "undo()", "undo()", "withdraw(23) = NO_SUCH");
    }

    @Says(in = "Promise 5", text = "NOT_POSSIBLE if it is withdrawn.")
    static void withdrawRefusesWithdrawn(Probe p) {
        p.runs("claim(0, 1, 0)", "answer(0, 1, 0)", "withdraw(0) = 1", "withdraw(0) = NOT_POSSIBLE", "withdraw(1) = 0",
            "withdraw(1) = NOT_POSSIBLE", "undo()", "withdraw(1) = 0");
    }

    // ---- Promise 6: renew

    @Says(in = "Promise 6", text = "Renews an answer: it lasts from today on.")
    static void renews(Probe p) {
        p.runs("claim(0, 1, 0)", "answer(0, 1, 0)", "pass(6)", "of(1, 10) = 8", "renew(1)", "of(1, 10) = 14", "pass(14)",
            "of(1, 6) = 0", "pass(1)", "of(1, 6) = 3", "renew(1)", "of(1, 6) = 0", "of(1, 10) = 14");
    }

    @Says(in = "Promise 6", text = "This is a change.")
    static void renewIsAChange(Probe p) {
        p.change("renew(1)", THREE);
        p.change("renew(1)", Probe.with(THREE, "renew(1)"));
        p.change("renew(1)", Probe.with(THREE, "pass(30)"));
    }

    @Says(in = "Promise 6", text = "Returns how many days it had lasted;")
    static void renewReturnsDays(Probe p) {
        p.runs("claim(0, 1, 0)", "pass(9)", "answer(0, 1, 0)", "renew(1) = 0", "pass(1)", "renew(1) = 1", "pass(14)",
            "renew(1) = 14", "pass(15)", "renew(1) = 15", "renew(1) = 0");
        p.runs("claim(0, 1, 0)", "answer(0, 1, 0)", "10 x pass(99)", "pass(9)", "renew(1) = 999", "renew(1) = 0");
    }

    @Says(in = "Promise 6", text = "NO_SUCH if there is no such point;")
    static void renewRefusesPoint(Probe p) {
        p.runs("renew(0) = NO_SUCH", "claim(0, 1, 0)", "answer(0, 1, 0)", "renew(2) = NO_SUCH", "renew(-1) = NO_SUCH",
            "renew(NONE) = NO_SUCH", "renew(33) = NO_SUCH", "renew(MAX) = NO_SUCH", "renew(MIN) = NO_SUCH", "renew(1) = 0");
        p.runs("claim(0, 1, 0)", "23 x answer(0, 1, 0)", "renew(24) = NO_SUCH", "renew(23) = 0");
    }

    @Says(in = "Promise 6", text = "NOT_POSSIBLE if it is a claim, or withdrawn.")
    static void renewRefusesClaim(Probe p) {
        p.runs("claim(0, 1, 0)", "answer(0, 1, 0)", "answer(1, 1, 0)", "renew(0) = NOT_POSSIBLE", "renew(1) = 0", "withdraw(1)",
            "renew(1) = NOT_POSSIBLE", "withdraw(0)", "renew(0) = NOT_POSSIBLE", "renew(2) = 0");
        p.runs("set(1, 5)", "claim(0, 1, 0)", "answer(0, 6, 1)", "overrule(0)", "pass(20)", "of(1, 6) = 2", "renew(1) = 20");
    }

    // ---- Promise 7: overrule

    @Says(in = "Promise 7", text = "Overrules a case, or the other way round, if it is overruled.")
    static void overrules(Probe p) {
        p.runs("overrule(3)", "count(9) = 0b1000", "overrule(4)", "count(9) = 0b11000", "overrule(3)", "count(9) = 0b10000",
            "overrule(3)", "count(9) = 0b11000");
    }

    @Says(in = "Promise 7", text = "This is a change.")
    static void overruleIsAChange(Probe p) {
        p.change("overrule(0)", THREE);
        p.change("overrule(0)", Probe.with(THREE, "overrule(0)"));
        p.change("overrule(9)", THREE);
    }

    @Says(in = "Promise 7", text = "Returns 1 if it is overruled then, otherwise 0;")
    static void overruleReturns(Probe p) {
        p.runs("overrule(9) = 1", "overrule(0) = 1", "overrule(9) = 0", "overrule(0) = 0", "overrule(5) = 1", "undo()",
            "overrule(5) = 1");
    }

    @Says(in = "Promise 7", text = "NO_SUCH if there is no such case.")
    static void overruleRefuses(Probe p) {
        p.runs("overrule(-1) = NO_SUCH", "overrule(10) = NO_SUCH", "overrule(31) = NO_SUCH", "overrule(32) = NO_SUCH",
            "overrule(MAX) = NO_SUCH", "overrule(MIN) = NO_SUCH", "overrule(0) = 1", "overrule(9) = 1");
    }

    // ---- Promise 8: pass

    @Says(in = "Promise 8", text = "Days pass.")
    static void daysPass(Probe p) {
        p.runs("pass(1)", "count(0) = 1", "pass(99)", "count(0) = 100", "pass(30)", "count(0) = 130");
    }

    @Says(in = "Promise 8", text = "This is a change.")
    static void passIsAChange(Probe p) {
        p.change("pass(1)", THREE);
        p.change("pass(99)", THREE);
        p.change("pass(1)");
    }

    @Says(in = "Promise 8", text = "- `days`: 1 to 99")
    static void passTakes(Probe p) {
        p.runs("pass(0) = BAD_VALUE", "pass(1) = 0", "pass(99) = 0", "pass(100) = BAD_VALUE", "count(0) = 100");
    }

    @Says(in = "Promise 8", text = "Returns how many points stand then;")
    static void passReturnsStanding(Probe p) {
        p.runs("claim(0, 1, 0)", "answer(0, 1, 0)", "answer(0, 1, 0)", "claim(1, 1, 0)", "pass(14) = 3", "renew(1)", "pass(1) = 2",
            "pass(13) = 2", "pass(1) = 2", "withdraw(0)", "withdraw(3)", "pass(1) = 0");
    }

    @Says(in = "Promise 8", text = "BAD_VALUE if days is out of range;")
    static void passRefusesDays(Probe p) {
        p.runs("pass(-1) = BAD_VALUE", "pass(0) = BAD_VALUE", "pass(100) = BAD_VALUE", "pass(MAX) = BAD_VALUE",
            "pass(MIN) = BAD_VALUE", "10 x pass(99)", "pass(100) = BAD_VALUE", "pass(MAX) = BAD_VALUE", "pass(0) = BAD_VALUE");
    }

    @Says(in = "Promise 8", text = "NOT_POSSIBLE if the day of now would be above 999.")
    static void passRefusesLastDay(Probe p) {
        p.runs("10 x pass(99)", "pass(10) = NOT_POSSIBLE", "pass(99) = NOT_POSSIBLE", "pass(9) = 0", "count(0) = 999",
            "pass(1) = NOT_POSSIBLE", "claim(0, 1, 0)", "of(0, 2) = 999", "undo()", "undo()", "count(0) = 990", "pass(8) = 0",
            "pass(2) = NOT_POSSIBLE", "pass(1) = 0", "count(0) = 999");
    }
}
