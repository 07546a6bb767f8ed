import java.util.function.IntSupplier;

/** What the document promises, promise by promise: ordinary inputs, edges, and wrong inputs. */
public final class PromiseTest {
    private static final int NO_SUCH = -1, BAD_VALUE = -2, BAD_TEXT = -3, TOO_MANY = -4, NOT_POSSIBLE = -5, NONE = -6;
    private static final int MAX = Integer.MAX_VALUE, MIN = Integer.MIN_VALUE;

    private static int asked = 0;
    private static int wrong = 0;
    private static PointAnswers x;

    public static void main(String[] args) {
        constants();
        newObject();
        set();
        claim();
        answer();
        withdraw();
        renew();
        overrule();
        pass();
        of();
        reasons();
        struckPoints();
        count();
        points();
        share();
        toFall();
        toStand();
        bestAnswer();
        changesIn();
        leastPages();
        put();
        wipe();
        fault();
        carryOut();
        carryOutIsOneChange();
        undo();
        undoRecordsEachChange();
        undoLeavesPadAndSlots();
        save();
        restore();
        System.out.println("PromiseTest: " + (asked - wrong) + " passed, " + wrong + " failed");
        if (wrong != 0) {
            System.exit(1);
        }
    }

    private static void due(String call, long got, long want) {
        asked++;
        if (got != want) {
            wrong++;
            String caller = StackWalker.getInstance().walk(f -> f.skip(1).findFirst().get().getMethodName());
            System.out.println(caller + ": " + call + " answered " + got + ", due is " + want);
        }
    }

    /** A call that fails changes nothing, and records nothing. */
    private static void fails(String call, IntSupplier asks, int want) {
        String before = allThereIs();
        due(call, asks.getAsInt(), want);
        if (!before.equals(allThereIs())) {
            wrong++;
            System.out.println(call + " failed, but changed something");
        }
    }

    private static String allThereIs() {
        StringBuilder all = new StringBuilder();
        for (int what = 0; what <= 13; what++) {
            all.append(x.count(what)).append(' ');
        }
        for (int what = 0; what <= 5; what++) {
            all.append(x.points(what)).append(' ');
        }
        return all.append(eachPoint()).append(x.fault()).toString();
    }

    private static String eachPoint() {
        StringBuilder all = new StringBuilder();
        for (int point = 0; point < x.count(1); point++) {
            for (int what = 0; what <= 10; what++) {
                all.append(x.of(point, what)).append(' ');
            }
        }
        return all.toString();
    }

    private static int write(String text) {
        int length = x.count(12);
        for (int from = 0; from < text.length(); from += 8) {
            length = x.put(coded(text.substring(from, Math.min(text.length(), from + 8))));
        }
        return length;
    }

    private static long coded(String signs) {
        long number = 0;
        for (char sign : signs.toCharArray()) {
            number = number << 8 | sign;
        }
        return number;
    }

    /** A new object with claims of side 0 and answers: "0" claims, "1" answers the point 1 and so on. */
    private static void tree(int... targets) {
        x = new PointAnswers();
        x.set(PointAnswers.PAGES, 99);
        for (int target : targets) {
            if (target == NONE) {
                x.claim(0, 1, 0);
            } else {
                x.answer(target, 1, 0);
            }
        }
    }

    private static void constants() {
        due("NO_SUCH", PointAnswers.NO_SUCH, -1);
        due("BAD_VALUE", PointAnswers.BAD_VALUE, -2);
        due("BAD_TEXT", PointAnswers.BAD_TEXT, -3);
        due("TOO_MANY", PointAnswers.TOO_MANY, -4);
        due("NOT_POSSIBLE", PointAnswers.NOT_POSSIBLE, -5);
        due("NONE", PointAnswers.NONE, -6);
        due("LAPSE", PointAnswers.LAPSE, 0);
        due("PAGES", PointAnswers.PAGES, 1);
    }

    private static void newObject() {
        x = new PointAnswers();
        int[] counts = {0, 0, 0, 0, 0, 0, 0, 0, 0, 0, 14, 30, 0, 0};
        for (int what = 0; what < counts.length; what++) {
            due("count(" + what + ")", x.count(what), counts[what]);
        }
        due("undo()", x.undo(), NOT_POSSIBLE);
        due("restore(0)", x.restore(0), NOT_POSSIBLE);
        due("fault()", x.fault(), 0);
    }

    private static void set() {
        x = new PointAnswers();
        due("set(0, 1)", x.set(0, 1), 14);
        due("set(0, 60)", x.set(0, 60), 1);
        due("set(0, 60)", x.set(0, 60), 60);
        due("set(1, 99)", x.set(1, 99), 30);
        due("set(1, 1)", x.set(1, 1), 99);
        due("count(10)", x.count(10), 60);
        due("count(11)", x.count(11), 1);
        due("count(13)", x.count(13), 5);
        fails("set(0, 0)", () -> x.set(0, 0), BAD_VALUE);
        fails("set(0, 61)", () -> x.set(0, 61), BAD_VALUE);
        fails("set(1, 0)", () -> x.set(1, 0), BAD_VALUE);
        fails("set(1, 100)", () -> x.set(1, 100), BAD_VALUE);
        fails("set(2, 5)", () -> x.set(2, 5), BAD_VALUE);
        fails("set(-1, 5)", () -> x.set(-1, 5), BAD_VALUE);
        fails("set(0, MIN)", () -> x.set(0, MIN), BAD_VALUE);
    }

    private static void claim() {
        x = new PointAnswers();
        x.pass(3);
        due("claim(0, 1, 0)", x.claim(0, 1, 0), 0);
        due("claim(1, 9, 1023)", x.claim(1, 9, 1023), 1);
        due("of(1, 0)", x.of(1, 0), 1);
        due("of(1, 1)", x.of(1, 1), 9);
        due("of(1, 2)", x.of(1, 2), 3);
        due("of(1, 4)", x.of(1, 4), 1023);
        fails("claim(-1, 1, 0)", () -> x.claim(-1, 1, 0), BAD_VALUE);
        fails("claim(2, 1, 0)", () -> x.claim(2, 1, 0), BAD_VALUE);
        fails("claim(0, 0, 0)", () -> x.claim(0, 0, 0), BAD_VALUE);
        fails("claim(0, 10, 0)", () -> x.claim(0, 10, 0), BAD_VALUE);
        fails("claim(0, 1, -1)", () -> x.claim(0, 1, -1), BAD_VALUE);
        fails("claim(0, 1, 1024)", () -> x.claim(0, 1, 1024), BAD_VALUE);
        for (int i = 2; i < 24; i++) {
            due("claim", x.claim(i & 1, 1, 0), i);
        }
        fails("the 25th claim", () -> x.claim(0, 1, 0), TOO_MANY);
        fails("a wrong 25th claim", () -> x.claim(0, 1, 1024), BAD_VALUE);
    }

    private static void answer() {
        x = new PointAnswers();
        fails("answer(0, 1, 0)", () -> x.answer(0, 1, 0), NO_SUCH);
        x.claim(1, 2, 0);
        x.pass(5);
        due("answer(0, 9, 1023)", x.answer(0, 9, 1023), 1);
        due("of(1, 0)", x.of(1, 0), 0);
        due("of(1, 1)", x.of(1, 1), 9);
        due("of(1, 2)", x.of(1, 2), 5);
        due("of(1, 3)", x.of(1, 3), 0);
        due("answer(1, 1, 0)", x.answer(1, 1, 0), 2);
        due("of(2, 0)", x.of(2, 0), 1);
        fails("answer(-1, 1, 0)", () -> x.answer(-1, 1, 0), NO_SUCH);
        fails("answer(3, 0, 0)", () -> x.answer(3, 0, 0), NO_SUCH);
        fails("answer(0, 0, 0)", () -> x.answer(0, 0, 0), BAD_VALUE);
        fails("answer(0, 10, 0)", () -> x.answer(0, 10, 0), BAD_VALUE);
        fails("answer(0, 1, -1)", () -> x.answer(0, 1, -1), BAD_VALUE);
        fails("answer(0, 1, 1024)", () -> x.answer(0, 1, 1024), BAD_VALUE);
        x.withdraw(2);
        fails("answer(2, 1, 0)", () -> x.answer(2, 1, 0), NOT_POSSIBLE);
        fails("answer(2, 10, 0)", () -> x.answer(2, 10, 0), BAD_VALUE);
        x.pass(15);
        due("answer to a lapsed one", x.answer(1, 1, 0), 3);
        for (int i = 4; i < 24; i++) {
            due("answer", x.answer(0, 1, 0), i);
        }
        fails("the 25th point", () -> x.answer(0, 1, 0), TOO_MANY);
        fails("the 25th point, to a withdrawn one", () -> x.answer(2, 1, 0), TOO_MANY);
        fails("a wrong 25th point", () -> x.answer(0, 1, 1024), BAD_VALUE);
        fails("answer(24, 1, 0)", () -> x.answer(24, 1, 0), NO_SUCH);
    }

    private static void withdraw() {
        tree(NONE, 0, 1, NONE);
        due("withdraw(2)", x.withdraw(2), 2);
        due("of(2, 6)", x.of(2, 6), 1);
        due("of(0, 6)", x.of(0, 6), 5);
        due("withdraw(1)", x.withdraw(1), 2);
        due("of(0, 6)", x.of(0, 6), 0);
        fails("withdraw(1)", () -> x.withdraw(1), NOT_POSSIBLE);
        fails("withdraw(4)", () -> x.withdraw(4), NO_SUCH);
        fails("withdraw(-1)", () -> x.withdraw(-1), NO_SUCH);
        x.undo();
        due("of(1, 6) after undo", x.of(1, 6), 0);
    }

    private static void renew() {
        tree(NONE, 0);
        due("renew(1)", x.renew(1), 0);
        x.pass(14);
        due("of(1, 10)", x.of(1, 10), 0);
        due("renew(1)", x.renew(1), 14);
        due("of(1, 10)", x.of(1, 10), 14);
        due("of(1, 2)", x.of(1, 2), 0);
        x.pass(15);
        due("of(1, 6)", x.of(1, 6), 3);
        due("renew(1), lapsed", x.renew(1), 15);
        due("of(1, 6)", x.of(1, 6), 0);
        fails("renew(0)", () -> x.renew(0), NOT_POSSIBLE);
        fails("renew(2)", () -> x.renew(2), NO_SUCH);
        fails("renew(-6)", () -> x.renew(-6), NO_SUCH);
        x.withdraw(1);
        fails("renew(1), withdrawn", () -> x.renew(1), NOT_POSSIBLE);
    }

    private static void overrule() {
        x = new PointAnswers();
        x.claim(0, 1, 0b1000000001);
        due("overrule(9)", x.overrule(9), 1);
        due("of(0, 6)", x.of(0, 6), 0);
        due("overrule(0)", x.overrule(0), 1);
        due("of(0, 6)", x.of(0, 6), 4);
        due("count(9)", x.count(9), 0b1000000001);
        due("overrule(9)", x.overrule(9), 0);
        due("of(0, 6)", x.of(0, 6), 0);
        due("count(9)", x.count(9), 1);
        fails("overrule(10)", () -> x.overrule(10), NO_SUCH);
        fails("overrule(-1)", () -> x.overrule(-1), NO_SUCH);
        fails("overrule(32)", () -> x.overrule(32), NO_SUCH);
    }

    private static void pass() {
        tree(NONE, 0);
        due("pass(14)", x.pass(14), 1);
        due("points(0)", x.points(0), 2);
        due("pass(1)", x.pass(1), 1);
        due("points(0)", x.points(0), 1);
        fails("pass(0)", () -> x.pass(0), BAD_VALUE);
        fails("pass(100)", () -> x.pass(100), BAD_VALUE);
        fails("pass(-1)", () -> x.pass(-1), BAD_VALUE);
        fails("pass(MAX)", () -> x.pass(MAX), BAD_VALUE);
        for (int i = 0; i < 9; i++) {
            x.pass(99);
        }
        due("count(0)", x.count(0), 906);
        fails("pass(94)", () -> x.pass(94), NOT_POSSIBLE);
        fails("pass(100), late", () -> x.pass(100), BAD_VALUE);
        due("pass(93)", x.pass(93), 1);
        due("count(0)", x.count(0), 999);
        fails("pass(1)", () -> x.pass(1), NOT_POSSIBLE);
    }

    private static void of() {
        x = new PointAnswers();
        x.pass(2);
        x.claim(1, 4, 5);
        x.answer(0, 3, 0);
        x.answer(0, 2, 8);
        x.pass(3);
        x.answer(1, 1, 0);
        int[][] want = {
            {1, 4, 2, NONE, 5, 0, 5, 2, 6, 0, NONE},
            {0, 3, 2, 0, 0, 0, 5, 3, 8, 1, 11},
            {0, 2, 2, 0, 8, 1, 0, NONE, 0, 1, 11},
            {1, 1, 5, 1, 0, 1, 0, NONE, 0, 2, 14},
        };
        for (int point = 0; point < want.length; point++) {
            for (int what = 0; what <= 10; what++) {
                due("of(" + point + ", " + what + ")", x.of(point, what), want[point][what]);
            }
        }
        fails("of(4, 0)", () -> x.of(4, 0), NO_SUCH);
        fails("of(4, 11)", () -> x.of(4, 11), NO_SUCH);
        fails("of(-1, 0)", () -> x.of(-1, 0), NO_SUCH);
        fails("of(MAX, 0)", () -> x.of(MAX, 0), NO_SUCH);
        fails("of(0, 11)", () -> x.of(0, 11), BAD_VALUE);
        fails("of(0, -1)", () -> x.of(0, -1), BAD_VALUE);
        x.pass(11);
        due("of(1, 10), its last day", x.of(1, 10), 0);
        due("of(1, 5)", x.of(1, 5), 0);
        x.pass(1);
        due("of(1, 10), lapsed", x.of(1, 10), NONE);
        due("of(3, 10)", x.of(3, 10), 2);
        x.withdraw(0);
        due("of(0, 7), withdrawn", x.of(0, 7), NONE);
        due("of(0, 8), withdrawn", x.of(0, 8), 6);
        x.renew(2);
        due("of(0, 7), withdrawn", x.of(0, 7), 2);
    }

    private static void reasons() {
        x = new PointAnswers();
        x.set(1, 5);
        x.claim(1, 1, 0);
        x.claim(0, 3, 0);
        x.answer(0, 3, 1);
        x.overrule(0);
        x.pass(15);
        due("struck, lapsed, overruled", x.of(2, 6), 2);
        x.set(1, 6);
        due("lapsed, overruled", x.of(2, 6), 3);
        x.renew(2);
        due("overruled", x.of(2, 6), 4);
        x.overrule(0);
        due("none", x.of(2, 6), 0);
        x.answer(2, 1, 0);
        due("answered", x.of(2, 6), 5);
        x.overrule(0);
        due("overruled before answered", x.of(2, 6), 4);
        x.set(1, 5);
        x.withdraw(2);
        due("withdrawn before all", x.of(2, 6), 1);
        due("of(0, 6)", x.of(0, 6), 0);
    }

    private static void struckPoints() {
        x = new PointAnswers();
        x.set(1, 10);
        x.claim(0, 6, 1);
        x.claim(1, 9, 0);
        x.claim(0, 5, 0);
        x.claim(0, 4, 0);
        x.claim(0, 1, 0);
        due("points(2)", x.points(2), 0b10100);
        due("count(7)", x.count(7), 10);
        due("count(8)", x.count(8), 9);
        x.overrule(0);
        due("an overruled one takes pages", x.of(2, 6), 2);
        x.withdraw(0);
        due("a withdrawn one takes none", x.points(2), 0b00001);
        due("count(7)", x.count(7), 10);
        x.set(0, 1);
        x.answer(2, 1, 0);
        x.answer(5, 1, 0);
        due("struck behind", x.of(6, 6), 2);
        x.undo();
        x.pass(2);
        x.claim(1, 1, 0);
        due("a lapsed one takes pages", x.of(5, 6), 3);
        due("a lapsed one takes pages", x.of(6, 6), 2);
    }

    private static void count() {
        x = new PointAnswers();
        x.claim(0, 2, 0);
        x.claim(1, 3, 2);
        x.claim(0, 4, 0);
        x.answer(0, 5, 0);
        x.answer(3, 6, 0);
        x.answer(2, 7, 0);
        x.withdraw(1);
        x.pass(7);
        x.overrule(4);
        x.set(0, 20);
        x.set(1, 40);
        write("w1");
        int[] want = {7, 6, 3, 3, 1, 1, 2, 12, 12, 16, 20, 40, 2, 6};
        for (int what = 0; what < want.length; what++) {
            due("count(" + what + ")", x.count(what), want[what]);
        }
        fails("count(14)", () -> x.count(14), BAD_VALUE);
        fails("count(-1)", () -> x.count(-1), BAD_VALUE);
        fails("count(MAX)", () -> x.count(MAX), BAD_VALUE);
    }

    private static void points() {
        x = new PointAnswers();
        x.claim(0, 2, 0);
        x.claim(1, 3, 0);
        x.answer(0, 5, 0);
        x.claim(0, 4, 0);
        x.withdraw(1);
        int[] want = {0b1100, 0b1000, 0b0010, 0b0001, 0b1001, 0b0110};
        for (int what = 0; what < want.length; what++) {
            due("points(" + what + ")", x.points(what), want[what]);
        }
        fails("points(6)", () -> x.points(6), BAD_VALUE);
        fails("points(-1)", () -> x.points(-1), BAD_VALUE);
        x = new PointAnswers();
        x.claim(0, 1, 1);
        x.claim(1, 1, 3);
        x.claim(0, 1, 6);
        x.answer(2, 1, 0);
        x.answer(2, 1, 0);
        x.overrule(0);
        x.overrule(1);
        x.pass(15);
        due("points(2): overruled and lapsed, two each", x.points(2), 0b11011);
        tree(NONE, NONE, NONE, NONE, NONE, NONE, NONE, NONE, NONE, NONE, NONE, NONE,
            NONE, NONE, NONE, NONE, NONE, NONE, NONE, NONE, NONE, NONE, NONE, NONE);
        due("points(0), 24 of them", x.points(0), (1 << 24) - 1);
    }

    private static void share() {
        for (int all = 1; all <= 24; all++) {
            x = new PointAnswers();
            x.set(1, 99);
            for (int i = 0; i < all; i++) {
                x.claim(1, 1, 0);
            }
            due("share(0)", x.share(0), NONE);
            for (int standing = all; standing >= 0; standing--) {
                due("share(1)", x.share(1), Float.floatToIntBits((float) standing / (float) all));
                x.withdraw(standing - 1);
            }
        }
        x = new PointAnswers();
        due("share(0)", x.share(0), NONE);
        due("share(2)", x.share(2), NO_SUCH);
        due("share(-1)", x.share(-1), NO_SUCH);
        x.claim(0, 1, 0);
        x.answer(0, 1, 0);
        due("share(0), answered", x.share(0), 0);
        due("share(1), answers only", x.share(1), NONE);
    }

    private static void toFall() {
        tree(NONE, 0, 1, NONE, 3, 3);
        due("toFall(0): by its answer's answer", x.toFall(0), 1);
        due("toFall(1), answered", x.toFall(1), 0);
        due("toFall(3), answered", x.toFall(3), 0);
        due("toFall(2), without answers", x.toFall(2), 1);
        fails("toFall(6)", () -> x.toFall(6), NO_SUCH);
        fails("toFall(-1)", () -> x.toFall(-1), NO_SUCH);
        tree(NONE);
        due("toFall(0), without answers", x.toFall(0), 1);
        x.withdraw(0);
        due("toFall(0), withdrawn", x.toFall(0), 0);
        tree(NONE, 0, 1, 1, 0, 4);
        due("toFall(0): the cheaper answer", x.toFall(0), 1);
        x.answer(4, 1, 0);
        due("toFall(0): two at least", x.toFall(0), 2);
        tree(NONE, 0);
        x.withdraw(1);
        due("toFall(0), a withdrawn answer", x.toFall(0), NONE);
        due("toFall(1), withdrawn", x.toFall(1), 0);
        tree(NONE, 0, 1, 2);
        x.withdraw(3);
        due("toFall(2)", x.toFall(2), NONE);
        due("toFall(0)", x.toFall(0), NONE);
    }

    private static void toStand() {
        tree(NONE, 0, 0, 2, 3);
        due("toStand(0): both answers must fall", x.toStand(0), 2);
        due("toStand(1)", x.toStand(1), 0);
        due("toStand(3)", x.toStand(3), 1);
        fails("toStand(5)", () -> x.toStand(5), NO_SUCH);
        fails("toStand(-1)", () -> x.toStand(-1), NO_SUCH);
        x.withdraw(1);
        due("toStand(1), withdrawn", x.toStand(1), NOT_POSSIBLE);
        due("toStand(0)", x.toStand(0), 1);
        tree(NONE, 0, 1);
        x.withdraw(2);
        due("toStand(0): the answer can't fall", x.toStand(0), NONE);
        due("toStand(1)", x.toStand(1), 0);
    }

    private static void bestAnswer() {
        x = new PointAnswers();
        due("bestAnswer(0), no point", x.bestAnswer(0), NONE);
        due("bestAnswer(1), no point", x.bestAnswer(1), NONE);
        due("bestAnswer(2), no point", x.bestAnswer(2), BAD_VALUE);
        due("bestAnswer(-1)", x.bestAnswer(-1), BAD_VALUE);
        tree(NONE);
        due("bestAnswer(0), one point", x.bestAnswer(0), 0);
        due("bestAnswer(1), one point", x.bestAnswer(1), 1);
        tree(NONE, 0, 0, NONE, 3, 4);
        due("bestAnswer(0)", x.bestAnswer(0), 5);
        due("bestAnswer(1)", x.bestAnswer(1), 1);
        x.withdraw(5);
        due("bestAnswer(0): the lowest, for nothing", x.bestAnswer(0), 1);
        due("bestAnswer(1): nothing", x.bestAnswer(1), 0);
        x.withdraw(1);
        due("bestAnswer(0): the other one counts now", x.bestAnswer(0), 2);
        due("bestAnswer(1)", x.bestAnswer(1), 1);
        x.withdraw(2);
        due("bestAnswer(0): each is out or has an answer", x.bestAnswer(0), NONE);
        due("bestAnswer(1)", x.bestAnswer(1), NONE);
    }

    private static void changesIn() {
        x = new PointAnswers();
        due("changesIn()", x.changesIn(), NONE);
        x.claim(0, 1, 0);
        due("changesIn(), claims last", x.changesIn(), NONE);
        x.answer(0, 1, 0);
        due("changesIn()", x.changesIn(), 15);
        x.pass(14);
        due("changesIn()", x.changesIn(), 1);
        x.pass(1);
        due("changesIn(), lapsed", x.changesIn(), NONE);
        x.renew(1);
        x.set(0, 60);
        due("changesIn()", x.changesIn(), 61);
        x.answer(1, 1, 1);
        due("changesIn(), both at once", x.changesIn(), 61);
        x.pass(5);
        x.renew(2);
        due("changesIn(): an answered one lapses unseen", x.changesIn(), 61);
        x.withdraw(2);
        due("changesIn()", x.changesIn(), 56);
        x.withdraw(1);
        due("changesIn(), all withdrawn", x.changesIn(), NONE);
        tree(NONE, 0, NONE, 2);
        x.withdraw(1);
        x.withdraw(3);
        x.answer(0, 9, 1);
        x.overrule(0);
        due("changesIn(): those that are out for good", x.changesIn(), NONE);
        x.overrule(0);
        x.claim(1, 9, 0);
        x.set(1, 9);
        x.withdraw(4);
        x.answer(0, 1, 0);
        due("changesIn(): those that are struck out", x.changesIn(), NONE);
        x = new PointAnswers();
        for (int i = 0; i < 10; i++) {
            x.pass(99);
        }
        x.claim(0, 1, 0);
        x.answer(0, 1, 0);
        due("changesIn(), beyond the day 999", x.changesIn(), 15);
    }

    private static void leastPages() {
        x = new PointAnswers();
        due("leastPages(), no point", x.leastPages(), 1);
        x.claim(0, 5, 0);
        x.claim(1, 7, 0);
        due("leastPages()", x.leastPages(), 7);
        x.withdraw(1);
        due("leastPages()", x.leastPages(), 5);
        x.set(1, 1);
        due("leastPages(), whatever is struck", x.leastPages(), 5);
        x.withdraw(0);
        due("leastPages(), all withdrawn", x.leastPages(), 1);
        for (int i = 0; i < 11; i++) {
            x.claim(1, 9, 0);
        }
        due("leastPages(), 99", x.leastPages(), 99);
        x.claim(1, 1, 0);
        due("leastPages(), 100", x.leastPages(), NONE);
    }

    private static void put() {
        x = new PointAnswers();
        due("put one", x.put('a'), 1);
        due("put the lowest and the highest", x.put(33L << 8 | 126), 3);
        fails("put(0)", () -> x.put(0), BAD_VALUE);
        fails("put(32)", () -> x.put(32), BAD_VALUE);
        fails("put(127)", () -> x.put(127), BAD_VALUE);
        fails("put(a bit above)", () -> x.put((long) 'a' << 16 | 'a'), BAD_VALUE);
        fails("put(the highest bit above)", () -> x.put(1L << 63 | 'a'), BAD_VALUE);
        fails("put(no last character)", () -> x.put((long) 'a' << 8), BAD_VALUE);
        fails("put(a code in the middle)", () -> x.put('a' << 16 | 32 << 8 | 'a'), BAD_VALUE);
        fails("put(-1)", () -> x.put(-1L), BAD_VALUE);
        fails("put(MIN)", () -> x.put(Long.MIN_VALUE), BAD_VALUE);
        for (int length = 11; length <= 75; length += 8) {
            due("put eight", x.put(coded("abcdefgh")), length);
        }
        fails("put six to 75", () -> x.put(coded("abcdef")), TOO_MANY);
        fails("put(32), almost full", () -> x.put(coded("abcde ")), BAD_VALUE);
        due("put five to 75", x.put(coded("abcde")), 80);
        fails("put one to 80", () -> x.put('a'), TOO_MANY);
        due("count(12)", x.count(12), 80);
        due("count(13): no change", x.count(13), 0);
        x.wipe();
        due("the order of characters", write("c0/1+98"), 7);
        due("carryOut()", x.carryOut(), 1);
        due("of(0, 4)", x.of(0, 4), 0b1100000000);
    }

    private static void wipe() {
        x = new PointAnswers();
        due("wipe(), empty", x.wipe(), 0);
        write("w1;w2;w3;w4");
        due("wipe()", x.wipe(), 11);
        due("count(12)", x.count(12), 0);
        due("fault()", x.fault(), 0);
        due("count(13): no change", x.count(13), 0);
        due("put", write("o1"), 2);
        due("fault(): what was wiped is gone", x.fault(), NONE);
    }

    private static void fault() {
        String[] good = {"c0/1", "c1/9+0", "c0/5+0123456789", "c0/1+00", "a0/1", "a9/9", "a10/1", "a99/1+5",
            "w0", "w99", "r7", "r70", "o0", "o9", "t0", "t99", "w1;r2;o3;t4;a5/6+7;c1/8"};
        for (String text : good) {
            faultIs(text, NONE);
            for (int to = 0; to <= text.length(); to++) {
                boolean whole = to > 0 && text.substring(0, to).matches(".*([wroth]\\d+|/\\d|\\+\\d+)");
                faultIs(text.substring(0, to), whole ? NONE : to);
            }
            faultIs(text + ";", text.length() + 1);
            faultIs(text + "/", text.length());
            faultIs(text + ";;", text.length() + 1);
            faultIs(text + "c", text.length());
        }
        String[] bad = {";w1 0", "x 0", "C0/1 0", "1 0", "c2/1 1", "c/1 1", "c01/1 2", "c0;1 2", "c0/0 3", "c0/10 4", "c0/+ 3",
            "c0/1+; 5", "c0/1++ 5", "c0/1+1+2 6", "a/1 1", "a00/1 2", "a05/1 2", "a100/1 3", "a999/1 3", "a99;1 3",
            "a1/0 3", "a1/11 4", "w; 1", "w01 2", "w100 3", "w-1 1", "r990 3", "o10 2", "o; 1", "t100 3", "t00 2",
            "w1,w2 2", "w1;;w2 3", "w1;x 3", "w1;w 4", "o~ 1", "o/ 1", "o: 1", "c0/1+/ 5", "c0/1+: 5", "c0/: 3"};
        for (String row : bad) {
            int gap = row.indexOf(' ');
            faultIs(row.substring(0, gap), Integer.parseInt(row.substring(gap + 1)));
        }
        faultIs("w1;".repeat(26) + "w1", NONE);
        faultIs("w1;".repeat(26) + "w;", 79);
        faultIs("c0/1+" + "0".repeat(75), NONE);
        faultIs("w1;".repeat(26) + "w", 79);
    }

    private static void faultIs(String text, int want) {
        x = new PointAnswers();
        write(text);
        due("fault() of " + text, x.fault(), want);
        due("count(12) of " + text, x.count(12), text.length());
    }

    private static void carryOut() {
        x = new PointAnswers();
        fails("carryOut(), empty", () -> x.carryOut(), BAD_TEXT);
        write("c0/9+13;a0/2+11;c1/3;a1/4;o1;w2;t5;r1;t60");
        due("carryOut()", x.carryOut(), 9);
        int[][] want = {
            {0, 9, 0, NONE, 10}, {1, 2, 0, 0, 2}, {1, 3, 0, NONE, 0}, {0, 4, 0, 1, 0},
        };
        for (int point = 0; point < want.length; point++) {
            for (int what = 0; what < 5; what++) {
                due("of(" + point + ", " + what + ")", x.of(point, what), want[point][what]);
            }
        }
        due("count(0)", x.count(0), 65);
        due("count(9)", x.count(9), 2);
        due("of(2, 6)", x.of(2, 6), 1);
        due("renewed on the day 5", x.renew(1), 60);
        due("not renewed", x.renew(3), 65);
        write("c0/1;w");
        fails("carryOut(), a fault", () -> x.carryOut(), BAD_TEXT);
        due("count(12): it stays", x.count(12), 6);
        x.wipe();
        write("o5;w99;o6");
        due("carryOut(), an error in the middle", x.carryOut(), 1);
        due("count(9)", x.count(9), 2 | 32);
        due("count(12)", x.count(12), 0);
        write("t0;o7");
        due("carryOut(), no days", x.carryOut(), 0);
        write("r0");
        due("carryOut(), a claim", x.carryOut(), 0);
        write("a24/1");
        due("carryOut(), no such point", x.carryOut(), 0);
        write("o1;o1");
        due("carryOut(), and back", x.carryOut(), 2);
        due("count(9)", x.count(9), 2 | 32);
        write("t37;t5");
        due("carryOut(), days of two digits", x.carryOut(), 2);
        due("count(0)", x.count(0), 107);
    }

    private static void carryOutIsOneChange() {
        x = new PointAnswers();
        x.claim(0, 1, 0);
        write("c0/1;c0/2;c0/3;c0/4;c0/5;c0/6;c0/7;c0/8");
        due("carryOut()", x.carryOut(), 8);
        due("count(13)", x.count(13), 2);
        write("w99");
        due("carryOut(), none", x.carryOut(), 0);
        due("count(13)", x.count(13), 3);
        due("undo()", x.undo(), 2);
        due("count(1)", x.count(1), 9);
        due("count(12): the pad stays empty", x.count(12), 0);
        due("undo()", x.undo(), 1);
        due("count(1)", x.count(1), 1);
        due("undo()", x.undo(), 0);
        due("count(1)", x.count(1), 0);
    }

    private static void undo() {
        x = new PointAnswers();
        fails("undo(), none", () -> x.undo(), NOT_POSSIBLE);
        for (int i = 1; i <= 7; i++) {
            x.pass(i);
            due("count(13)", x.count(13), Math.min(i, 6));
        }
        int[] days = {21, 15, 10, 6, 3, 1};
        for (int i = 0; i < days.length; i++) {
            due("undo()", x.undo(), 5 - i);
            due("count(0)", x.count(0), days[i]);
        }
        fails("undo(), the oldest was dropped", () -> x.undo(), NOT_POSSIBLE);
        for (int i = 0; i < 20; i++) {
            x.pass(1);
        }
        x.undo();
        x.undo();
        x.pass(9);
        due("undo()", x.undo(), 4);
        due("count(0)", x.count(0), 19);
    }

    private static void undoRecordsEachChange() {
        IntSupplier[] changes = {() -> x.set(0, 14), () -> x.set(0, 3), () -> x.set(1, 1), () -> x.claim(1, 2, 3),
            () -> x.answer(1, 2, 3), () -> x.withdraw(1), () -> x.renew(1), () -> x.overrule(0), () -> x.pass(9),
            () -> x.restore(0)};
        for (IntSupplier change : changes) {
            x = new PointAnswers();
            x.save(0);
            x.claim(0, 1, 1);
            x.answer(0, 1, 0);
            x.pass(1);
            String before = allThereIs();
            change.getAsInt();
            due("count(13)", x.count(13), 4);
            due("undo()", x.undo(), 3);
            due("all is as before", allThereIs().equals(before) ? 1 : 0, 1);
        }
    }

    private static void undoLeavesPadAndSlots() {
        x = new PointAnswers();
        x.claim(0, 1, 0);
        x.save(1);
        write("w0");
        x.undo();
        due("count(12)", x.count(12), 2);
        due("restore(1)", x.restore(1), 1);
        due("undo()", x.undo(), 0);
        due("count(1)", x.count(1), 0);
    }

    private static void save() {
        x = new PointAnswers();
        due("save(0)", x.save(0), 0);
        x.claim(0, 1, 0);
        x.claim(0, 1, 0);
        due("save(1)", x.save(1), 2);
        due("count(13): no change", x.count(13), 2);
        fails("save(2)", () -> x.save(2), BAD_VALUE);
        fails("save(-1)", () -> x.save(-1), BAD_VALUE);
        fails("save(32)", () -> x.save(32), BAD_VALUE);
        due("restore(0)", x.restore(0), 0);
        due("restore(1)", x.restore(1), 2);
        x.claim(1, 1, 0);
        due("save(1), over it", x.save(1), 3);
        x.withdraw(0);
        due("restore(1)", x.restore(1), 3);
        due("what was saved is not withdrawn", x.of(0, 6), 0);
    }

    private static void restore() {
        x = new PointAnswers();
        fails("restore(0)", () -> x.restore(0), NOT_POSSIBLE);
        fails("restore(1)", () -> x.restore(1), NOT_POSSIBLE);
        fails("restore(2)", () -> x.restore(2), BAD_VALUE);
        fails("restore(-1)", () -> x.restore(-1), BAD_VALUE);
        x.set(0, 20);
        x.set(1, 40);
        x.pass(8);
        x.overrule(3);
        x.claim(0, 1, 0);
        x.answer(0, 1, 0);
        x.save(0);
        fails("restore(1), the other slot", () -> x.restore(1), NOT_POSSIBLE);
        x.set(0, 30);
        x.set(1, 50);
        x.pass(8);
        x.overrule(3);
        x.withdraw(0);
        x.renew(1);
        x.claim(1, 1, 0);
        write("w1");
        due("restore(0)", x.restore(0), 2);
        int[] want = {8, 2, 1, 1, 0, 0, 1, 1, 1, 8, 20, 40, 2, 6};
        for (int what = 0; what < want.length; what++) {
            due("count(" + what + ")", x.count(what), want[what]);
        }
        due("of(1, 10)", x.of(1, 10), 20);
        due("undo() of a restore()", x.undo(), 5);
        due("count(1)", x.count(1), 3);
        due("restore(0)", x.restore(0), 2);
        x.withdraw(0);
        due("restore(0), kept", x.restore(0), 2);
        due("of(0, 6)", x.of(0, 6), 5);
        x.undo();
        due("of(0, 6)", x.of(0, 6), 1);
        restoreOverOtherPoints();
    }

    private static void restoreOverOtherPoints() {
        x = new PointAnswers();
        x.save(0);
        x.claim(0, 1, 0);
        x.answer(0, 2, 3);
        x.save(1);
        x.restore(0);
        x.pass(4);
        x.claim(1, 8, 5);
        x.claim(1, 9, 6);
        x.withdraw(0);
        String before = eachPoint();
        due("restore(1)", x.restore(1), 2);
        int[][] want = {{0, 1, 0, NONE, 0, 0, 5, 1, 2, 0, NONE}, {1, 2, 0, 0, 3, 1, 0, NONE, 0, 1, 14}};
        for (int point = 0; point < want.length; point++) {
            for (int what = 0; what <= 10; what++) {
                due("of(" + point + ", " + what + ")", x.of(point, what), want[point][what]);
            }
        }
        x.undo();
        x.pass(1);
        x.undo();
        x.restore(1);
        x.undo();
        x.overrule(0);
        x.undo();
        due("the points are as before", eachPoint().equals(before) ? 1 : 0, 1);
        x.restore(0);
        x.claim(0, 1, 0);
        due("a new point in a withdrawn one's place", x.of(0, 6), 0);
    }
}
