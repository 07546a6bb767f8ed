/** Undo and saved states. */
final class HistoryCases {
    private HistoryCases() {
    }

    private static final String[] SOME = {"claim(0, 2, 1)", "answer(0, 3, 0)", "pass(4)"};

    // ---- Promise 22: undo

    @Says(in = "Promise 22", text = "Undoes the latest change: everything except the pad, the slots and the history "
        + "is as it was before it.")
    static void undoes(Probe p) {
        for (String call : new String[] {"set(0, 1)", "set(1, 1)", "claim(1, 9, 7)", "answer(1, 9, 7)", "withdraw(0)", "withdraw(1)",
            "renew(1)", "overrule(0)", "pass(99)"}) {
            p.same(SOME, Probe.with(SOME, call, "undo()"));
            p.same(Probe.with(SOME, "overrule(5)"), Probe.with(SOME, "overrule(5)", call, "undo()"));
        }
        String[] others = {"pass(1)", "claim(1, 9, 7)", "claim(1, 8, 6)", "answer(0, 7, 5)", "save(0)", "4 x undo()"};
        p.same(Probe.with(others, SOME), Probe.with(others, Probe.with(SOME, "restore(0)", "undo()")));
        p.runs("claim(0, 1, 0)", "save(1)", "undo()", "restore(0) = NOT_POSSIBLE", "restore(1) = 1");
        p.runs("pass(1)", "write(\"o1\")", "undo() = 0", "count(12) = 2", "carryOut() = 1", "undo() = 0", "count(12) = 0");
        p.runs("pass(1)", "save(0)", "pass(1)", "save(0)", "undo() = 1", "undo() = 0", "restore(0) = 0", "count(0) = 2");
        p.runs("write(\"o1\")", "pass(1)", "write(\";o2\")", "undo() = 0", "count(12) = 5", "fault() = NONE");
    }

    @Says(in = "Promise 22", text = "A history of at most 6 states is kept:")
    static void sixStates(Probe p) {
        p.runs("5 x pass(1)", "count(13) = 5", "pass(1)", "count(13) = 6", "undo() = 5", "undo() = 4", "undo() = 3", "undo() = 2",
            "undo() = 1", "undo() = 0", "count(0) = 0", "undo() = NOT_POSSIBLE");
        p.runs("7 x pass(1)", "count(13) = 6", "6 x undo()", "count(0) = 1", "undo() = NOT_POSSIBLE");
        p.runs("99 x pass(1)", "count(13) = 6", "6 x undo()", "count(0) = 93", "undo() = NOT_POSSIBLE", "pass(1)", "undo() = 0",
            "count(0) = 93");
    }

    @Says(in = "Promise 22", text = "each method that is a change, and returns no error, records the state before it "
        + "(also if nothing is different then);")
    static void eachChangeRecords(Probe p) {
        for (String call : new String[] {"set(0, 14)", "set(1, 30)", "set(0, 15)", "claim(0, 1, 0)", "answer(0, 1, 0)",
            "withdraw(0)", "renew(1)", "overrule(0)", "pass(1)", "restore(0)"}) {
            p.runs("save(0)", "claim(0, 2, 1)", "answer(0, 3, 0)", call, "count(13) = 3", "undo() = 2", "count(1) = 2");
        }
        p.runs("write(\"w0\")", "carryOut() = 0", "count(13) = 1", "claim(0, 1, 0)", "save(0)", "restore(0) = 1", "count(13) = 3",
            "undo() = 2", "count(1) = 1", "undo() = 1", "count(1) = 0", "undo() = 0", "undo() = NOT_POSSIBLE");
        p.runs("claim(0, 1, 0)", "save(0)", "put(\"o1\")", "wipe()", "of(0, 0)", "share(0)", "toFall(0)", "leastPages()",
            "withdraw(1) = NO_SUCH", "fault()", "count(13) = 1");
    }

    @Says(in = "Promise 22", text = "when one more is recorded, the oldest one is dropped.")
    static void oldestIsDropped(Probe p) {
        p.runs("pass(1)", "pass(2)", "pass(3)", "pass(4)", "pass(5)", "pass(6)", "pass(7)", "undo() = 5", "count(0) = 21",
            "undo() = 4", "count(0) = 15", "undo() = 3", "count(0) = 10", "undo() = 2", "count(0) = 6", "undo() = 1",
            "count(0) = 3", "undo() = 0", "count(0) = 1", "undo() = NOT_POSSIBLE");
        p.runs("20 x pass(1)", "undo()", "undo()", "pass(9)", "pass(9)", "pass(9)", "count(13) = 6", "3 x undo()", "count(0) = 18",
            "undo() = 2", "count(0) = 17", "undo() = 1", "undo() = 0", "count(0) = 15", "undo() = NOT_POSSIBLE");
        p.runs("6 x pass(1)", "set(0, 14)", "6 x undo()", "count(0) = 1");
    }

    @Says(in = "Promise 22", text = "An order of a text records nothing by itself.")
    static void ordersRecordNothing(Probe p) {
        p.runs("pass(1)", "write(\"o1;o2;o3;o4;o5;o6;o7;o8\")", "carryOut() = 8", "count(13) = 2", "undo() = 1", "count(9) = 0",
            "undo() = 0", "count(0) = 0");
        p.runs("write(\"c0/1;a0/1;w0;r1;o1;t1\")", "carryOut() = 6", "count(13) = 1", "undo() = 0", "count(1) = 0");
    }

    @Says(in = "Promise 22", text = "Returns how many changes can be undone then;")
    static void undoReturns(Probe p) {
        p.runs("3 x pass(1)", "undo() = 2", "undo() = 1", "pass(1)", "undo() = 1", "undo() = 0");
        p.runs("9 x pass(1)", "undo() = 5", "pass(1)", "undo() = 5");
    }

    @Says(in = "Promise 22", text = "NOT_POSSIBLE if there is none.")
    static void undoRefuses(Probe p) {
        p.runs("undo() = NOT_POSSIBLE", "pass(1)", "undo() = 0", "undo() = NOT_POSSIBLE", "pass(0) = BAD_VALUE",
            "undo() = NOT_POSSIBLE", "save(0)", "put(\"o1\")", "undo() = NOT_POSSIBLE");
    }

    // ---- Promise 23: save

    @Says(in = "Promise 23", text = "Saves everything except the pad, the history and the slots in a slot, "
        + "and overwrites what was saved there.")
    static void saves(Probe p) {
        String[] before = {"set(0, 20)", "set(1, 9)", "claim(0, 2, 1)", "answer(0, 3, 0)", "pass(4)", "renew(1)", "overrule(0)",
            "withdraw(0)"};
        p.same(Probe.with(before, "save(0)", "6 x overrule(5)"), Probe.with(before, "save(0)", "set(0, 9)", "set(1, 10)",
            "claim(0, 1, 0)", "withdraw(1)", "overrule(0)", "pass(9)", "write(\"o1\")", "wipe()", "restore(0)", "6 x overrule(5)"));
        p.same(Probe.with(before, "save(0)", "6 x overrule(5)"),
            Probe.with(Probe.with(new String[] {"save(0)"}, before), "save(0)", "6 x overrule(5)"));
        p.runs("write(\"o1\")", "save(0)", "wipe()", "write(\"o2;o3\")", "pass(1)", "restore(0) = 0", "count(12) = 5",
            "count(13) = 2", "count(0) = 0", "undo() = 1", "count(0) = 1", "restore(1) = NOT_POSSIBLE");
        p.runs("claim(0, 1, 0)", "save(0)", "claim(0, 1, 0)", "save(0) = 2", "undo()", "undo()", "restore(0) = 2");
        p.runs("save(0) = 0", "claim(0, 1, 0)", "save(1) = 1", "restore(0) = 0", "restore(1) = 1", "save(0) = 1",
            "restore(0) = 1");
        p.runs("24 x claim(0, 1, 0)", "save(0) = 24", "3 x undo()", "save(1) = 21", "restore(0) = 24", "restore(1) = 21",
            "of(21, 0) = NO_SUCH");
    }

    @Says(in = "Promise 23", text = "- `slot`: 0 or 1")
    static void saveTakes(Probe p) {
        p.runs("save(-1) = BAD_VALUE", "save(0) = 0", "save(1) = 0", "save(2) = BAD_VALUE", "count(13) = 0");
    }

    @Says(in = "Promise 23", text = "Returns how many points there are;")
    static void saveReturns(Probe p) {
        p.runs("save(0) = 0", "claim(0, 1, 0)", "save(0) = 1", "answer(0, 1, 0)", "withdraw(0)", "save(1) = 2", "22 x claim(0, 1, 0)",
            "save(0) = 24", "undo()", "save(1) = 23");
    }

    @Says(in = "Promise 23", text = "BAD_VALUE if there is no such slot.")
    static void saveRefuses(Probe p) {
        p.runs("save(MAX) = BAD_VALUE", "save(MIN) = BAD_VALUE", "save(32) = BAD_VALUE", "save(33) = BAD_VALUE", "save(-1) = BAD_VALUE",
            "save(2) = BAD_VALUE", "restore(0) = NOT_POSSIBLE", "restore(1) = NOT_POSSIBLE");
    }

    // ---- Promise 24: restore

    @Says(in = "Promise 24", text = "Restores what was saved last in a slot, which keeps it.")
    static void restores(Probe p) {
        String[] saved = {"set(0, 20)", "set(1, 9)", "claim(0, 2, 1)", "answer(0, 3, 0)", "answer(1, 1, 4)", "pass(4)", "renew(1)",
            "overrule(0)", "withdraw(2)", "save(1)"};
        String[] other = {"set(0, 3)", "set(1, 2)", "claim(1, 9, 7)", "pass(30)", "renew(1)", "overrule(2)", "withdraw(0)"};
        p.same(Probe.with(saved, "6 x set(0, 20)"), Probe.with(Probe.with(saved, other), "restore(1)", "6 x set(0, 20)"));
        p.same(Probe.with(saved, "6 x set(0, 20)"),
            Probe.with(Probe.with(Probe.with(saved, other), "restore(1)"), Probe.with(other, "restore(1)", "6 x set(0, 20)")));
        p.runs("claim(0, 1, 0)", "save(0)", "claim(0, 1, 0)", "save(0)", "claim(0, 1, 0)", "restore(0) = 2");
        String[] elsewise = {"pass(1)", "claim(1, 5, 6)", "claim(0, 4, 9)", "answer(0, 9, 1)", "answer(1, 8, 2)", "withdraw(1)"};
        p.same(Probe.with(saved, "save(0)", "6 x set(0, 20)"), Probe.with(Probe.with(new String[] {"save(0)"}, saved),
            Probe.with(Probe.with(new String[] {"restore(0)"}, elsewise), "restore(1)", "save(0)", "6 x set(0, 20)")));
        p.runs("save(0)", "claim(0, 1, 0)", "withdraw(0)", "restore(0) = 0", "claim(0, 1, 0) = 0", "of(0, 6) = 0");
    }

    @Says(in = "Promise 24", text = "This is a change.")
    static void restoreIsAChange(Probe p) {
        p.change("restore(0)", "save(0)", "claim(0, 2, 1)", "answer(0, 3, 0)", "pass(4)");
        p.change("restore(1)", "claim(0, 2, 1)", "answer(0, 3, 0)", "pass(4)", "save(1)");
        p.runs("save(0)", "6 x pass(1)", "restore(0)", "count(13) = 6", "count(0) = 0", "undo() = 5", "count(0) = 6", "5 x undo()",
            "count(0) = 1");
    }

    @Says(in = "Promise 24", text = "- `slot`: 0 or 1")
    static void restoreTakes(Probe p) {
        p.runs("save(0)", "claim(0, 1, 0)", "save(1)", "restore(-1) = BAD_VALUE", "restore(0) = 0", "restore(1) = 1",
            "restore(2) = BAD_VALUE");
    }

    @Says(in = "Promise 24", text = "Returns how many points there are then;")
    static void restoreReturns(Probe p) {
        p.runs("save(0)", "24 x claim(0, 1, 0)", "withdraw(3)", "save(1)", "restore(0) = 0", "count(1) = 0", "restore(1) = 24",
            "count(1) = 24", "count(3) = 23");
    }

    @Says(in = "Promise 24", text = "BAD_VALUE if there is no such slot;")
    static void restoreRefusesSlot(Probe p) {
        p.runs("restore(-1) = BAD_VALUE", "restore(2) = BAD_VALUE", "save(0)", "save(1)", "restore(-1) = BAD_VALUE",
            "restore(2) = BAD_VALUE", "restore(32) = BAD_VALUE", "restore(33) = BAD_VALUE", "restore(MAX) = BAD_VALUE",
            "restore(MIN) = BAD_VALUE", "restore(0) = 0");
    }

    @Says(in = "Promise 24", text = "NOT_POSSIBLE if nothing was saved in it.")
    static void restoreRefusesEmpty(Probe p) {
        p.runs("restore(0) = NOT_POSSIBLE", "restore(1) = NOT_POSSIBLE", "save(1)", "restore(0) = NOT_POSSIBLE", "restore(1) = 0",
            "undo() = 0", "restore(1) = 0", "save(0)", "restore(0) = 0");
        p.runs("save(0)", "restore(1) = NOT_POSSIBLE", "restore(0) = 0");
    }

    // ---- as long as an object is used

    @Says(in = "What it is", text = "An object is used for at most 512 calls after it has been made;")
    static void lastCall(Probe p) {
        p.runs("24 x claim(0, 1, 0)", "469 x overrule(3)", "count(9) = 0b1000", "count(13) = 6", "save(0) = 24", "withdraw(0) = 23",
            "restore(0) = 24", "undo() = 5", "11 x toFall(1)", "put(\"o\") = 1", "count(12) = 1");
    }
}
