/** The pad: put(), wipe(), fault() and carryOut(). */
final class PadCases {
    private PadCases() {
    }

    private static String hex(long number) {
        return "0x" + Long.toHexString(number);
    }

    // ---- Promise 18: put

    @Says(in = "Promise 18", text = "Appends characters to the pad.")
    static void putAppends(Probe p) {
        p.runs("put(\"o\")", "fault() = 1", "put(\"1\")", "fault() = NONE", "put(\";o2;o3\")", "fault() = NONE", "count(13) = 0",
            "carryOut() = 3", "count(9) = 0b1110", "put(\"o1\") = 2", "carryOut() = 1", "count(9) = 0b1100");
    }

    @Says(in = "Promise 18", text = "They are given as a number: its lowest 8 bits are the last character, "
        + "the next 8 bits the one before, and so on;")
    static void putOrder(Probe p) {
        p.runs("put(0x63302f372b313938) = 8", "fault() = NONE", "carryOut() = 1", "of(0, 0) = 0", "of(0, 1) = 7",
            "of(0, 4) = 0b1100000010");
        p.runs("put(0x6f31) = 2", "carryOut() = 1", "count(9) = 0b10");
        p.runs("put(0x316f) = 2", "fault() = 0");
        p.runs("put(0x743132) = 3", "carryOut() = 1", "count(0) = 12");
    }

    @Says(in = "Promise 18", text = "8 bits that are 0 mean that there are no more characters, "
        + "and everything above them has to be 0, too.")
    static void putEnds(Probe p) {
        long signs = 0;
        for (int length = 1; length <= 8; length++) {
            signs = signs << 8 | 'a';
            p.runs("put(" + hex(signs) + ") = " + length, "count(12) = " + length);
        }
    }

    @Says(in = "Promise 18", text = "- `characters`: 1 to 8 characters")
    static void putTakes(Probe p) {
        p.runs("put(0) = BAD_VALUE", "put(\"a\") = 1", "put(\"abcdefgh\") = 9", "count(12) = 9");
    }

    @Says(in = "Promise 18", text = "Returns the length of the pad then;")
    static void putReturns(Probe p) {
        p.runs("put(\"a\") = 1", "put(\"abc\") = 4", "put(\"abcdefgh\") = 12", "wipe() = 12", "put(\"ab\") = 2");
        p.runs("9 x put(\"abcdefgh\")", "put(\"abcdefgh\") = 80");
    }

    @Says(in = "Promise 18", text = "BAD_VALUE if there is no character,")
    static void putRefusesNothing(Probe p) {
        p.runs("put(0) = BAD_VALUE", "put(0x6100) = BAD_VALUE", "put(0x6161616161616100) = BAD_VALUE", "put(LONG_MIN) = BAD_VALUE",
            "10 x put(\"abcdefgh\")", "put(0) = BAD_VALUE");
    }

    @Says(in = "Promise 18", text = "a code is not 33 to 126,")
    static void putRefusesCodes(Probe p) {
        for (int place = 0; place < 8; place++) {
            long hole = ~(255L << (8 * place)) & 0x6161616161616161L;
            for (int code : new int[] {1, 31, 32, 127, 128, 160, 255}) {
                p.runs("put(" + hex(hole | (long) code << (8 * place)) + ") = BAD_VALUE");
            }
            for (int code : new int[] {33, 34, 125, 126}) {
                p.runs("put(" + hex(hole | (long) code << (8 * place)) + ") = 8");
            }
        }
        for (int code = 1; code < 256; code++) {
            p.runs("put(" + code + ") = " + (code >= 33 && code <= 126 ? "1" : "BAD_VALUE"));
        }
        p.runs("put(-1) = BAD_VALUE", "put(0x7f61) = BAD_VALUE", "put(0x6120) = BAD_VALUE");
    }

    @Says(in = "Promise 18", text = "or a bit above 8 bits that are 0 is not 0;")
    static void putRefusesBits(Probe p) {
        long signs = 0;
        for (int length = 1; length < 8; length++) {
            signs = signs << 8 | 'a';
            for (int bit = 8 * length + 8; bit < 64; bit++) {
                p.runs("put(" + hex(signs | 1L << bit) + ") = BAD_VALUE");
            }
            if (length < 7) {
                p.runs("put(" + hex(signs | 0x61L << (8 * length + 8)) + ") = BAD_VALUE");
            }
        }
    }

    @Says(in = "Promise 18", text = "TOO_MANY if the pad would be longer than 80.")
    static void putTooMany(Probe p) {
        String[] almost = {"9 x put(\"abcdefgh\")"};
        p.runs(Probe.with(almost, "put(\"abcdefgh\") = 80", "put(\"a\") = TOO_MANY", "count(12) = 80", "wipe()", "put(\"a\") = 1"));
        p.runs(Probe.with(almost, "put(\"a\") = 73", "put(\"abcdefgh\") = TOO_MANY", "put(\"abcdefg\") = 80"));
        p.runs(Probe.with(almost, "put(\"abcdefg\") = 79", "put(\"ab\") = TOO_MANY", "put(\"a\") = 80", "put(\"a\") = TOO_MANY",
            "put(\"abcdefgh\") = TOO_MANY", "put(32) = BAD_VALUE"));
    }

    // ---- Promise 19: wipe

    @Says(in = "Promise 19", text = "Empties the pad, and returns the length that it had.")
    static void wipe(Probe p) {
        p.runs("wipe() = 0", "put(\"a\")", "wipe() = 1", "count(12) = 0", "fault() = 0", "wipe() = 0", "10 x put(\"abcdefgh\")",
            "wipe() = 80", "wipe() = 0", "put(\"o1\") = 2", "fault() = NONE", "carryOut() = 1", "wipe() = 0", "count(13) = 1");
        p.same(new String[] {"claim(0, 1, 0)", "save(0)", "pass(1)"},
            new String[] {"claim(0, 1, 0)", "save(0)", "write(\"o1;o2\")", "pass(1)", "wipe()"});
    }

    // ---- Promise 20: fault

    @Says(in = "Promise 20", text = "Returns the fault of the pad, NONE if there is none.")
    static void fault(Probe p) {
        p.runs("fault() = 0", "write(\"o\")", "fault() = 1", "write(\"1;c0/5+\")", "fault() = 8", "write(\"2\")", "fault() = NONE",
            "fault() = NONE", "write(\"x\")", "fault() = 9", "write(\"y\")", "fault() = 9", "count(12) = 11");
        p.runs("write(\"" + "o1;".repeat(26) + "o1\")", "fault() = NONE", "carryOut() = 27", "fault() = 0");
        p.look("fault()", TermsCases.RICH);
    }

    // ---- Promise 21: carryOut

    @Says(in = "Promise 21", text = "Carries the orders of the pad out, one after the other,")
    static void carriesOut(Probe p) {
        p.runs("write(\"c0/9+13;a0/2+11;c1/3;a1/4;o1;w2;t5;r1;t60\")", "carryOut() = 9", "count(0) = 65", "count(1) = 4",
            "count(9) = 0b10", "of(0, 4) = 0b1010", "of(1, 3) = 0", "of(1, 4) = 0b10", "of(2, 6) = 1", "of(3, 3) = 1",
            "of(3, 4) = 0", "renew(1) = 60", "renew(3) = 65");
        p.runs("write(\"t1;c0/1;t2;c0/1;a1/1;r2\")", "carryOut() = 6", "of(0, 2) = 1", "of(1, 2) = 3", "of(2, 3) = 1");
        p.runs("write(\"" + "o1;".repeat(26) + "o2\")", "carryOut() = 27", "count(9) = 0b100");
        p.runs("set(1, 99)", "write(\"" + "c0/1;".repeat(15) + "c0/1\")", "carryOut() = 16", "points(0) = 65535");
    }

    @Says(in = "Promise 21", text = "up to the first one that returns an error,")
    static void carryOutStops(Probe p) {
        for (String order : new String[] {"a3/1", "a2/1", "w3", "w2", "r3", "r2", "r0", "t0"}) {
            String[] before = {"claim(0, 1, 0)", "answer(0, 1, 0)", "answer(1, 1, 0)", "withdraw(2)"};
            p.runs(Probe.with(before, "write(\"o1;" + order + ";o2\")", "carryOut() = 1", "count(9) = 0b10", "fault() = 0"));
            p.runs(Probe.with(before, "write(\"" + order + ";o2\")", "carryOut() = 0", "count(9) = 0", "count(1) = 3"));
            p.runs(Probe.with(before, "write(\"o1;o2;" + order + "\")", "carryOut() = 2", "count(9) = 0b110", "count(12) = 0"));
        }
        p.runs("24 x claim(0, 1, 0)", "write(\"o1;c0/1;o2\")", "carryOut() = 1", "write(\"o1;a0/1;o2\")", "carryOut() = 1",
            "count(9) = 0");
        p.runs("22 x claim(0, 1, 0)", "write(\"c0/1;a22/1;c0/1;w0\")", "carryOut() = 2", "count(1) = 24", "of(0, 6) = 0");
        p.runs("10 x pass(99)", "write(\"t9;t1;o2\")", "carryOut() = 1", "count(0) = 999", "count(9) = 0");
        p.runs("claim(0, 1, 0)", "write(\"w0;a0/1;w0\")", "carryOut() = 1", "of(0, 6) = 1", "count(1) = 1");
    }

    @Says(in = "Promise 21", text = "and empties the pad.")
    static void carryOutEmpties(Probe p) {
        p.runs("write(\"o1;o2\")", "carryOut() = 2", "count(12) = 0", "fault() = 0", "carryOut() = BAD_TEXT", "put(\"o1\") = 2");
        p.runs("write(\"w5;o2\")", "carryOut() = 0", "count(12) = 0", "fault() = 0", "wipe() = 0");
    }

    @Says(in = "Promise 21", text = "This is a change (one, with all of them; also if none is carried out).")
    static void carryOutIsOneChange(Probe p) {
        String[] before = {"claim(0, 1, 0)", "answer(0, 1, 0)", "pass(2)"};
        for (String text : new String[] {"c0/1;a2/1;w0;o1;t3;r1;o2;o3", "o1;w9;o2", "w9", "t0"}) {
            p.runs(Probe.with(before, "write(\"" + text + "\")", "carryOut()", "count(13) = 4", "undo() = 3"));
            p.same(before, Probe.with(before, "write(\"" + text + "\")", "carryOut()", "undo()"));
        }
        p.runs("6 x pass(1)", "write(\"w9\")", "carryOut() = 0", "count(13) = 6", "6 x undo()", "count(0) = 1");
    }

    @Says(in = "Promise 21", text = "Returns how many orders were carried out;")
    static void carryOutReturns(Probe p) {
        p.runs("write(\"o1\")", "carryOut() = 1", "write(\"o1;o1\")", "carryOut() = 2", "write(\"w0\")", "carryOut() = 0",
            "write(\"o1;w0;o1\")", "carryOut() = 1", "write(\"" + "o1;".repeat(26) + "w0\")", "carryOut() = 26");
    }

    @Says(in = "Promise 21", text = "BAD_TEXT if the pad has a fault (then it stays).")
    static void carryOutRefuses(Probe p) {
        p.runs("carryOut() = BAD_TEXT", "write(\"o1;\")", "carryOut() = BAD_TEXT", "count(12) = 3", "count(9) = 0", "put(\"o2\") = 5",
            "carryOut() = 2", "count(9) = 0b110");
        p.runs("write(\"o1;x\")", "carryOut() = BAD_TEXT", "count(9) = 0", "count(13) = 0", "wipe() = 4");
        p.runs("write(\"" + "o1;".repeat(26) + "o!\")", "carryOut() = BAD_TEXT", "count(12) = 80", "count(9) = 0");
    }
}
