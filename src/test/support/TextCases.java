/** The texts: what may stand in them, what the orders mean, and where the fault is. */
final class TextCases {
    private TextCases() {
    }

    /** Where text can end: at these lengths it has no fault; at the others it ends too early. */
    private static void ends(Probe p, String text, int... wholeAt) {
        for (int length = 0; length <= text.length(); length++) {
            boolean whole = false;
            for (int at : wholeAt) {
                whole |= at == length;
            }
            p.fault(text.substring(0, length), whole ? PointAnswers.NONE : length);
        }
    }

    /** At each place of a text the signs that it may not have there are the fault. */
    private static void refuses(Probe p, String text, int at, String signs) {
        for (char sign : signs.toCharArray()) {
            p.fault(text.substring(0, at) + sign, at);
            p.fault(text.substring(0, at) + sign + text.substring(at), at);
        }
    }

    private static final String NO_DIGITS = "/:;+c!~";

    @Says(in = "Texts", text = "The pad is a text of at most 80 characters, a row of orders:")
    static void length(Probe p) {
        p.runs("write(\"" + "o1;".repeat(26) + "o2\") = 80", "put(\"1\") = TOO_MANY", "fault() = NONE", "carryOut() = 27",
            "count(9) = 0b100");
        p.runs("write(\"" + "o1;".repeat(26) + "o\") = 79", "put(\"45\") = TOO_MANY", "put(\"4\") = 80", "carryOut() = 27",
            "count(9) = 0b10000");
        p.runs("write(\"c0/1+" + "9".repeat(75) + "\") = 80", "fault() = NONE", "carryOut() = 1", "of(0, 4) = 0b1000000000");
    }

    @Says(in = "Texts", text = "text = order { \";\" order }")
    static void text(Probe p) {
        ends(p, "o1", 2);
        ends(p, "o1;w2;t3", 2, 5, 8);
        refuses(p, "o1;w2", 0, ";,1!");
        refuses(p, "o1;w2", 2, ",:/+w");
        refuses(p, "o1;w2", 3, ";1,x");
        p.fault("o1;", 3);
        p.fault(";o1", 0);
        p.fault("o1;;o2", 3);
        p.fault("o1o2", 2);
    }

    @Says(in = "Texts", text = "order = \"c\" side \"/\" pages cites |")
    static void claimOrder(Probe p) {
        ends(p, "c0/5", 4);
        ends(p, "c1/9+31", 4, 6, 7);
        refuses(p, "c0/5", 0, "CdbC0/+");
        refuses(p, "c0/5", 1, NO_DIGITS);
        refuses(p, "c0/5", 2, "0.;:+c");
        refuses(p, "c0/5", 3, NO_DIGITS);
        refuses(p, "c0/5", 4, "0159/,:c");
    }

    @Says(in = "Texts", text = "\"a\" number \"/\" pages cites |")
    static void answerOrder(Probe p) {
        ends(p, "a0/5", 4);
        ends(p, "a23/9+31", 5, 7, 8);
        refuses(p, "a0/5", 0, "A`0/");
        refuses(p, "a0/5", 1, NO_DIGITS);
        refuses(p, "a0/5", 2, ".;:+a");
        refuses(p, "a12/5", 3, "0.;:+a");
        refuses(p, "a0/5", 3, NO_DIGITS);
        refuses(p, "a0/5", 4, "0159/,:a");
    }

    @Says(in = "Texts", text = "\"w\" number |")
    static void withdrawOrder(Probe p) {
        numberOrder(p, "w", "Wvx");
    }

    @Says(in = "Texts", text = "\"r\" number |")
    static void renewOrder(Probe p) {
        numberOrder(p, "r", "Rqs");
    }

    private static void numberOrder(Probe p, String letter, String others) {
        ends(p, letter + "7", 2);
        ends(p, letter + "10", 2, 3);
        refuses(p, letter + "7", 0, others);
        refuses(p, letter + "7", 1, NO_DIGITS + letter);
        refuses(p, letter + "7", 2, "/:+," + letter);
        refuses(p, letter + "10", 3, "/:+0," + letter);
    }

    @Says(in = "Texts", text = "\"o\" digit |")
    static void overruleOrder(Probe p) {
        ends(p, "o7", 2);
        refuses(p, "o7", 0, "Onp0");
        refuses(p, "o7", 1, NO_DIGITS + "o");
        refuses(p, "o7", 2, "07/:+,o");
    }

    @Says(in = "Texts", text = "\"t\" number cites =")
    static void passOrder(Probe p) {
        numberOrder(p, "t", "Tsu");
    }

    @Says(in = "Texts", text = "[ \"+\" digit { digit } ]")
    static void cites(Probe p) {
        ends(p, "c0/1+0123456789", 4, 6, 7, 8, 9, 10, 11, 12, 13, 14, 15);
        ends(p, "a0/1+9;o1", 4, 6, 9);
        refuses(p, "c0/1+2", 5, NO_DIGITS);
        refuses(p, "c0/1+2", 6, "/:+,c");
        refuses(p, "o1", 2, "+");
    }

    @Says(in = "Texts", text = "\"c\": claim() of a side, with pages, and cases that it cites;")
    static void claimMeans(Probe p) {
        means(p, "c0/5", "claim(0, 5, 0)");
        means(p, "c1/9+0", "claim(1, 9, 0b1)");
        means(p, "c1/1+94", "claim(1, 1, 0b1000010000)");
        means(p, "c0/2+9876543210", "claim(0, 2, 1023)");
    }

    @Says(in = "Texts", text = "\"a\": answer() to a point;")
    static void answerMeans(Probe p) {
        means(p, "a0/5", "answer(0, 5, 0)");
        means(p, "a1/9+35", "answer(1, 9, 0b101000)");
        means(p, "a11/1+0", "answer(11, 1, 1)");
    }

    @Says(in = "Texts", text = "\"w\": withdraw();")
    static void withdrawMeans(Probe p) {
        means(p, "w0", "withdraw(0)");
        means(p, "w12", "withdraw(12)");
    }

    @Says(in = "Texts", text = "\"r\": renew();")
    static void renewMeans(Probe p) {
        means(p, "r1", "renew(1)");
        means(p, "r12", "renew(12)");
    }

    @Says(in = "Texts", text = "\"o\": overrule() a case, or the other way round;")
    static void overruleMeans(Probe p) {
        means(p, "o0", "overrule(0)");
        means(p, "o9", "overrule(9)");
        p.runs("overrule(9)", "write(\"o9\")", "carryOut() = 1", "count(9) = 0", "write(\"o9;o8;o9\")", "carryOut() = 3",
            "count(9) = 0b100000000");
    }

    @Says(in = "Texts", text = "\"t\": pass() days.")
    static void passMeans(Probe p) {
        means(p, "t1", "pass(1)");
        means(p, "t42", "pass(42)");
        means(p, "t99", "pass(99)");
    }

    /** The order does what the call does, with twelve points and one answer that can be renewed. */
    private static void means(Probe p, String order, String call) {
        String[] before = {"set(1, 99)", "claim(0, 1, 0)", "answer(0, 2, 1)", "claim(1, 3, 2)", "8 x claim(1, 1, 4)",
            "answer(2, 1, 0)", "answer(11, 1, 0)", "pass(9)"};
        p.runs(Probe.with(before, "write(\"" + order + "\")", "carryOut() = 1"));
        p.same(Probe.with(before, "write(\"" + order + "\")", "carryOut()"), Probe.with(before, call));
    }

    @Says(in = "Texts", text = "A side is 0 or 1,")
    static void sides(Probe p) {
        p.fault("c0/1", PointAnswers.NONE);
        p.fault("c1/1", PointAnswers.NONE);
        refuses(p, "c1/1", 1, "23456789/:");
        p.fault("c01/1", 2);
    }

    @Says(in = "Texts", text = "pages are 1 to 9,")
    static void pages(Probe p) {
        for (int pages = 1; pages <= 9; pages++) {
            p.fault("c0/" + pages, PointAnswers.NONE);
            p.fault("a0/" + pages, PointAnswers.NONE);
        }
        p.fault("c0/0", 3);
        p.fault("a0/0", 3);
        p.fault("c0/:", 3);
        p.fault("c0/10", 4);
        p.fault("a0/10", 4);
        p.fault("c0/01", 3);
    }

    @Says(in = "Texts", text = "a digit is 0 to 9 (it can be told twice),")
    static void digits(Probe p) {
        for (int digit = 0; digit <= 9; digit++) {
            p.fault("o" + digit, PointAnswers.NONE);
            p.fault("c0/1+" + digit, PointAnswers.NONE);
            p.fault("c0/1+" + digit + digit, PointAnswers.NONE);
        }
        refuses(p, "o1", 1, "/:");
        refuses(p, "c0/1+1", 5, "/:");
        refuses(p, "c0/1+1", 6, "/:");
        p.runs("write(\"c0/1+33\")", "carryOut() = 1", "of(0, 4) = 0b1000");
        p.runs("write(\"c0/1+030\")", "carryOut() = 1", "of(0, 4) = 0b1001");
    }

    @Says(in = "Texts", text = "a number 0 to 99, without leading zeros.")
    static void numbers(Probe p) {
        for (String letter : new String[] {"w", "r", "t"}) {
            for (String number : new String[] {"0", "1", "9", "10", "19", "90", "99"}) {
                p.fault(letter + number, PointAnswers.NONE);
                p.fault("a" + number + "/1", PointAnswers.NONE);
            }
            p.fault(letter + "00", 2);
            p.fault(letter + "01", 2);
            p.fault(letter + "09", 2);
            p.fault(letter + "100", 3);
            p.fault(letter + "001", 2);
        }
        p.fault("a00/1", 2);
        p.fault("a01/1", 2);
        p.fault("a100/1", 3);
    }

    @Says(in = "Texts", text = "The fault is the index of the first character that cannot stand at its place "
        + "when the text is read from left to right")
    static void firstFault(Probe p) {
        p.fault("x;y", 0);
        p.fault("o1;x;y", 3);
        p.fault("o1;c2/0;x", 4);
        p.fault("c0/0;c2/1", 3);
        p.fault("w1;r2;o3;t4;c0/1+2;a5/6+77;!", 27);
        p.fault("o1;".repeat(26) + "o!", 79);
        p.fault("w10;w10;" + "o1;".repeat(23) + "o1!", 79);
        p.fault("!" + "o1;".repeat(26) + "o", 0);
    }

    @Says(in = "Texts", text = "(also of a digit by which a number would be above 99);")
    static void digitTooMany(Probe p) {
        for (String letter : new String[] {"w", "r", "t", "a"}) {
            p.fault(letter + "100", 3);
            p.fault(letter + "999;x", 3);
            p.fault("o1;" + letter + "9999", 6);
        }
        p.fault("a999/1", 3);
    }

    @Says(in = "Texts", text = "if there is none and the text ends too early")
    static void endsTooEarly(Probe p) {
        for (String text : new String[] {"c", "c0", "c0/", "c0/1+", "a", "a1", "a12", "a1/", "a1/1+", "w", "r", "o", "t"}) {
            p.fault(text, text.length());
            p.fault("o1;" + text, text.length() + 3);
        }
        p.fault("o1;", 3);
        p.fault("o1;o2;", 6);
        p.fault("w10;w10;" + "o1;".repeat(24), 80);
        p.fault("o1;".repeat(25) + "c0/1+", 80);
    }

    @Says(in = "Texts", text = "(also if it is empty), it is the length of the text.")
    static void empty(Probe p) {
        p.fault("", 0);
        p.runs("carryOut() = BAD_TEXT", "write(\"o1\")", "wipe() = 2", "fault() = 0", "carryOut() = BAD_TEXT", "write(\"o1\")",
            "carryOut() = 1", "fault() = 0", "carryOut() = BAD_TEXT");
    }

    @Says(in = "Texts", text = "The constants: `NO_SUCH = -1, BAD_VALUE = -2, BAD_TEXT = -3, TOO_MANY = -4, NOT_POSSIBLE = -5, "
        + "NONE = -6`: Error codes, and NONE: there is none.")
    static void codes(Probe p) {
        p.check("NO_SUCH", PointAnswers.NO_SUCH == -1);
        p.check("BAD_VALUE", PointAnswers.BAD_VALUE == -2);
        p.check("BAD_TEXT", PointAnswers.BAD_TEXT == -3);
        p.check("TOO_MANY", PointAnswers.TOO_MANY == -4);
        p.check("NOT_POSSIBLE", PointAnswers.NOT_POSSIBLE == -5);
        p.check("NONE", PointAnswers.NONE == -6);
    }

    @Says(in = "Texts", text = "`LAPSE = 0, PAGES = 1`: Settings.")
    static void settings(Probe p) {
        p.check("LAPSE", PointAnswers.LAPSE == 0);
        p.check("PAGES", PointAnswers.PAGES == 1);
        p.runs("set(0, 5) = 14", "set(1, 6) = 30", "count(10) = 5", "count(11) = 6");
    }
}
