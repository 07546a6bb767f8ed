import java.util.ArrayDeque;
import java.util.ArrayList;
import java.util.Arrays;
import java.util.Deque;
import java.util.List;
import java.util.Map;
import java.util.Random;
import java.util.function.IntUnaryOperator;
import java.util.regex.Matcher;
import java.util.regex.Pattern;

/**
 * Compares long runs of calls with a second program, which says the document's terms as directly as
 * it can and finds the answers to "what if" by trying. The runs are the same each time.
 */
public final class ModelTest {
    private static final int NO_SUCH = -1, BAD_VALUE = -2, BAD_TEXT = -3, TOO_MANY = -4, NOT_POSSIBLE = -5, NONE = -6;
    private static final int RUNS = 1500, CALLS = 512, MOST_OPEN_TO_TRY = 12;

    private static long compared = 0;
    private static int wrong = 0;

    public static void main(String[] args) {
        for (int run = 0; run < RUNS && wrong == 0; run++) {
            new Run(run).go();
        }
        System.out.println("ModelTest: " + (compared - wrong) + " passed, " + wrong + " failed");
        if (wrong != 0) {
            System.exit(1);
        }
    }

    /** One point; a state's points are never changed in place. */
    private record Filed(int side, int pages, int cases, int target, int day, int from, boolean withdrawn) {
        Filed gone() {
            return new Filed(side, pages, cases, target, day, from, true);
        }

        Filed renewed(int today) {
            return new Filed(side, pages, cases, target, day, today, withdrawn);
        }
    }

    private record State(List<Filed> list, int day, int lapse, int pages, int overruled) {
        State with(int number, Filed filed) {
            List<Filed> other = new ArrayList<>(list);
            if (number == list.size()) {
                other.add(filed);
            } else {
                other.set(number, filed);
            }
            return new State(other, day, lapse, pages, overruled);
        }

        State onDay(int other) {
            return new State(list, other, lapse, pages, overruled);
        }

        State withPages(int other) {
            return new State(list, day, lapse, other, overruled);
        }

        boolean[] struck() {
            boolean[] struck = new boolean[list.size()];
            for (int i = 0; i < struck.length; i++) {
                int sum = 0;
                for (int j = 0; j <= i; j++) {
                    Filed other = list.get(j);
                    if (other.side == list.get(i).side && !other.withdrawn && !struck[j]) {
                        sum += other.pages;
                    }
                }
                struck[i] = !list.get(i).withdrawn && sum > pages;
            }
            return struck;
        }

        int outReason(int number) {
            Filed filed = list.get(number);
            if (filed.withdrawn) {
                return 1;
            }
            if (struck()[number]) {
                return 2;
            }
            if (filed.target != NONE && day - filed.from > lapse) {
                return 3;
            }
            boolean good = filed.cases == 0;
            for (int i = 0; i < 10; i++) {
                good |= (filed.cases >> i & 1) == 1 && (overruled >> i & 1) == 0;
            }
            return good ? 0 : 4;
        }

        int[] outReasons() {
            int[] reasons = new int[list.size()];
            for (int i = 0; i < reasons.length; i++) {
                reasons[i] = outReason(i);
            }
            return reasons;
        }

        boolean stands(int number, int[] reasons, int answeredToo) {
            if (reasons[number] != 0 || (answeredToo >> number & 1) == 1) {
                return false;
            }
            for (int i = 0; i < list.size(); i++) {
                if (list.get(i).target == number && stands(i, reasons, answeredToo)) {
                    return false;
                }
            }
            return true;
        }

        int standing(int answeredToo) {
            int[] reasons = outReasons();
            int set = 0;
            for (int i = 0; i < list.size(); i++) {
                set |= stands(i, reasons, answeredToo) ? 1 << i : 0;
            }
            return set;
        }

        int answersTo(int number) {
            int set = 0;
            for (int i = 0; i < list.size(); i++) {
                set |= list.get(i).target == number ? 1 << i : 0;
            }
            return set;
        }

        int ofSide(int side) {
            int set = 0;
            for (int i = 0; i < list.size(); i++) {
                set |= list.get(i).side == side ? 1 << i : 0;
            }
            return set;
        }

        int withReason(int least, int most) {
            int set = 0;
            int standing = standing(0);
            for (int i = 0; i < list.size(); i++) {
                int reason = outReason(i) != 0 ? outReason(i) : (standing >> i & 1) == 1 ? 0 : 5;
                set |= reason >= least && reason <= most ? 1 << i : 0;
            }
            return set;
        }

        int withoutAnswers() {
            int set = 0;
            for (int i = 0; i < list.size(); i++) {
                set |= answersTo(i) == 0 ? 1 << i : 0;
            }
            return set;
        }
    }

    private static final class Model {
        private static final Pattern TEXT = text();
        private static final Map<Character, String> ORDERS =
            Map.of('c', "claim", 'a', "answer", 'w', "withdraw", 'r', "renew", 'o', "overrule", 't', "pass");

        State state = new State(List.of(), 0, 14, 30, 0);
        final Deque<State> history = new ArrayDeque<>();
        final State[] slots = new State[2];
        String pad = "";

        private static Pattern text() {
            String number = "(0|[1-9][0-9]?)";
            String paper = "/[1-9](\\+[0-9]+)?";
            String order = "(c[01]" + paper + "|a" + number + paper + "|[wrt]" + number + "|o[0-9])";
            return Pattern.compile(order + "(;" + order + ")*");
        }

        /** The first sign behind which no text could be read any more. */
        int fault() {
            for (int i = 1; i <= pad.length(); i++) {
                Matcher matcher = TEXT.matcher(pad.substring(0, i));
                if (!matcher.matches() && !matcher.hitEnd()) {
                    return i - 1;
                }
            }
            return TEXT.matcher(pad).matches() ? NONE : pad.length();
        }

        int change(State other, int answer) {
            if (answer >= 0) {
                history.addLast(state);
                if (history.size() > 6) {
                    history.removeFirst();
                }
                state = other;
            }
            return answer;
        }

        private State after;

        int ask(String name, long[] a) {
            after = state;
            switch (name) {
                case "put": return put(a[0]);
                case "wipe": {
                    int length = pad.length();
                    pad = "";
                    return length;
                }
                case "fault": return fault();
                case "undo":
                    if (history.isEmpty()) {
                        return NOT_POSSIBLE;
                    }
                    state = history.removeLast();
                    return history.size();
                case "save":
                    if (a[0] < 0 || a[0] > 1) {
                        return BAD_VALUE;
                    }
                    slots[(int) a[0]] = state;
                    return state.list.size();
                case "carryOut":
                    if (fault() != NONE) {
                        return BAD_TEXT;
                    }
                    int done = carry();
                    pad = "";
                    return change(after, done);
                default: {
                    int answer = alter(name, (int) a[0], (int) a[1], (int) a[2]);
                    return change(after, answer);
                }
            }
        }

        private int put(long number) {
            String text = "";
            for (long rest = number; rest != 0; rest >>>= 8) {
                char sign = (char) (rest & 255);
                if (sign < 33 || sign > 126) {
                    return BAD_VALUE;
                }
                text = sign + text;
            }
            if (text.isEmpty()) {
                return BAD_VALUE;
            }
            if (pad.length() + text.length() > 80) {
                return TOO_MANY;
            }
            pad += text;
            return pad.length();
        }

        private int carry() {
            int done = 0;
            for (String order : pad.split(";")) {
                String[] parts = order.substring(1).split("[/+]");
                int first = Integer.parseInt(parts[0]);
                int pages = parts.length > 1 ? Integer.parseInt(parts[1]) : 0;
                int cases = 0;
                for (char digit : (parts.length > 2 ? parts[2] : "").toCharArray()) {
                    cases |= 1 << Character.digit(digit, 10);
                }
                if (alter(ORDERS.get(order.charAt(0)), first, pages, cases) < 0) {
                    return done;
                }
                done++;
            }
            return done;
        }

        /** Changes "after"; it stays as it is after an error. */
        private int alter(String name, int a, int b, int c) {
            State s = after;
            int size = s.list.size();
            boolean point = a >= 0 && a < size;
            boolean paper = b >= 1 && b <= 9 && c >= 0 && c <= 1023;
            switch (name) {
                case "set":
                    if (a == 0 && b >= 1 && b <= 60) {
                        after = new State(s.list, s.day, b, s.pages, s.overruled);
                        return s.lapse;
                    }
                    if (a == 1 && b >= 1 && b <= 99) {
                        after = s.withPages(b);
                        return s.pages;
                    }
                    return BAD_VALUE;
                case "claim":
                    if (a < 0 || a > 1 || !paper) {
                        return BAD_VALUE;
                    }
                    if (size == 24) {
                        return TOO_MANY;
                    }
                    after = s.with(size, new Filed(a, b, c, NONE, s.day, s.day, false));
                    return size;
                case "answer":
                    if (!point) {
                        return NO_SUCH;
                    }
                    if (!paper) {
                        return BAD_VALUE;
                    }
                    if (size == 24) {
                        return TOO_MANY;
                    }
                    if (s.list.get(a).withdrawn) {
                        return NOT_POSSIBLE;
                    }
                    after = s.with(size, new Filed(1 - s.list.get(a).side, b, c, a, s.day, s.day, false));
                    return size;
                case "withdraw":
                    if (!point) {
                        return NO_SUCH;
                    }
                    if (s.list.get(a).withdrawn) {
                        return NOT_POSSIBLE;
                    }
                    after = s.with(a, s.list.get(a).gone());
                    return Integer.bitCount(after.standing(0));
                case "renew":
                    if (!point) {
                        return NO_SUCH;
                    }
                    if (s.list.get(a).withdrawn || s.list.get(a).target == NONE) {
                        return NOT_POSSIBLE;
                    }
                    after = s.with(a, s.list.get(a).renewed(s.day));
                    return s.day - s.list.get(a).from;
                case "overrule":
                    if (a < 0 || a > 9) {
                        return NO_SUCH;
                    }
                    after = new State(s.list, s.day, s.lapse, s.pages, s.overruled ^ 1 << a);
                    return after.overruled >> a & 1;
                case "pass":
                    if (a < 1 || a > 99) {
                        return BAD_VALUE;
                    }
                    if (s.day + a > 999) {
                        return NOT_POSSIBLE;
                    }
                    after = s.onDay(s.day + a);
                    return Integer.bitCount(after.standing(0));
                case "restore":
                    if (a < 0 || a > 1) {
                        return BAD_VALUE;
                    }
                    if (slots[a] == null) {
                        return NOT_POSSIBLE;
                    }
                    after = slots[a];
                    return after.list.size();
                default:
                    throw new IllegalArgumentException(name);
            }
        }

        int of(int number, int what) {
            if (number < 0 || number >= state.list.size()) {
                return NO_SUCH;
            }
            Filed filed = state.list.get(number);
            int standing = state.standing(0);
            switch (what) {
                case 0: return filed.side;
                case 1: return filed.pages;
                case 2: return filed.day;
                case 3: return filed.target;
                case 4: return filed.cases;
                case 5: return standing >> number & 1;
                case 6:
                    for (int reason = 0; reason <= 5; reason++) {
                        if ((state.withReason(reason, reason) >> number & 1) == 1) {
                            return reason;
                        }
                    }
                    throw new IllegalStateException();
                case 7: {
                    int set = state.answersTo(number) & standing;
                    return set == 0 ? NONE : Integer.numberOfTrailingZeros(set);
                }
                case 8: return state.answersTo(number);
                case 9: return filed.target == NONE ? 0 : of(filed.target, 9) + 1;
                case 10:
                    return filed.target == NONE || state.day > filed.from + state.lapse ? NONE
                        : filed.from + state.lapse - state.day;
                default: return BAD_VALUE;
            }
        }

        int count(int what) {
            switch (what) {
                case 0: return state.day;
                case 1: return state.list.size();
                case 2: return Integer.bitCount(state.answersTo(NONE));
                case 3: return Integer.bitCount(state.withReason(0, 0));
                case 4: return Integer.bitCount(state.withReason(0, 0) & state.answersTo(NONE));
                case 5: return Integer.bitCount(state.withReason(1, 4));
                case 6: return Integer.bitCount(state.withReason(5, 5));
                case 7: case 8: {
                    int sum = 0;
                    for (int i = 0; i < state.list.size(); i++) {
                        boolean left = state.outReason(i) == 1 || state.outReason(i) == 2;
                        sum += left || state.list.get(i).side != what - 7 ? 0 : state.list.get(i).pages;
                    }
                    return sum;
                }
                case 9: return state.overruled;
                case 10: return state.lapse;
                case 11: return state.pages;
                case 12: return pad.length();
                case 13: return history.size();
                default: return BAD_VALUE;
            }
        }

        int points(int what) {
            switch (what) {
                case 0: return state.withReason(0, 0);
                case 1: return state.withReason(0, 0) & state.answersTo(NONE);
                case 2: return state.withReason(1, 4);
                case 3: return state.withReason(5, 5);
                case 4: return state.ofSide(0);
                case 5: return state.ofSide(1);
                default: return BAD_VALUE;
            }
        }

        int share(int side) {
            if (side < 0 || side > 1) {
                return NO_SUCH;
            }
            int claims = state.answersTo(NONE) & state.ofSide(side);
            return claims == 0 ? NONE : Float.floatToIntBits(
                (float) Integer.bitCount(claims & state.standing(0)) / (float) Integer.bitCount(claims));
        }

        /** Tries every set of points without answers. */
        int fewest(int number, boolean toStand) {
            if (number < 0 || number >= state.list.size()) {
                return NO_SUCH;
            }
            int[] reasons = state.outReasons();
            if (toStand && reasons[number] != 0) {
                return NOT_POSSIBLE;
            }
            int open = state.withoutAnswers();
            int fewest = 99;
            for (int set = open; ; set = set - 1 & open) {
                if (Integer.bitCount(set) < fewest && state.stands(number, reasons, set) == toStand) {
                    fewest = Integer.bitCount(set);
                }
                if (set == 0) {
                    return fewest == 99 ? NONE : fewest;
                }
            }
        }

        int bestAnswer(int what) {
            if (what < 0 || what > 1) {
                return BAD_VALUE;
            }
            int best = NONE;
            int most = NONE;
            for (int i = state.list.size() - 1; i >= 0; i--) {
                if (state.answersTo(i) == 0 && state.outReason(i) == 0) {
                    int changed = state.answersTo(NONE) & (state.standing(0) ^ state.standing(1 << i));
                    if (Integer.bitCount(changed) >= most) {
                        most = Integer.bitCount(changed);
                        best = i;
                    }
                }
            }
            return what == 0 ? best : most;
        }

        int changesIn() {
            for (int days = 1; days < 100; days++) {
                if (state.onDay(state.day + days).standing(0) != state.standing(0)) {
                    return days;
                }
            }
            return NONE;
        }

        int leastPages() {
            for (int pages = 1; pages <= 99; pages++) {
                boolean any = false;
                for (boolean struck : state.withPages(pages).struck()) {
                    any |= struck;
                }
                if (!any) {
                    return pages;
                }
            }
            return NONE;
        }
    }

    private static final class Run {
        private static final String[] CHANGES = {"set", "claim", "claim", "answer", "answer", "answer", "answer", "withdraw",
            "renew", "renew", "overrule", "pass", "pass", "put", "put", "put", "put", "wipe", "fault", "fault", "carryOut",
            "carryOut", "undo", "save", "restore"};
        private static final int[] ODD = {-1, -6, 24, 25, 32, 33, 100, 1024, Integer.MAX_VALUE, Integer.MIN_VALUE};

        private final int number;
        private final Random random;
        private final PointAnswers real = new PointAnswers();
        private final Model model = new Model();
        private String waiting = "";

        Run(int number) {
            this.number = number;
            this.random = new Random(number);
        }

        void go() {
            for (int calls = 0; calls < CALLS && wrong == 0; ) {
                calls += random.nextInt(3) == 0 ? look() : change();
            }
        }

        private int some(int from, int to) {
            return random.nextInt(40) == 0 ? ODD[random.nextInt(ODD.length)] : from + random.nextInt(to - from + 1);
        }

        private int somePoint() {
            return some(0, Math.max(0, model.state.list.size() - (random.nextInt(30) == 0 ? 0 : 1)));
        }

        private int someCases() {
            return random.nextBoolean() ? 0 : some(0, 1023) & (random.nextBoolean() ? -1 : 1 << random.nextInt(10));
        }

        private int change() {
            String name = CHANGES[random.nextInt(CHANGES.length)];
            if (name.equals("withdraw") && random.nextInt(3) != 0) {
                return 0;
            }
            long[] a = new long[3];
            switch (name) {
                case "set":
                    a[0] = some(0, 1);
                    a[1] = random.nextBoolean() ? some(0, 61) : some(60, 100);
                    break;
                case "claim":
                    a = new long[] {some(0, 1), some(1, 9), someCases()};
                    break;
                case "answer":
                    a = new long[] {somePoint(), some(1, 9), someCases()};
                    break;
                case "withdraw": case "renew":
                    a[0] = somePoint();
                    break;
                case "overrule":
                    a[0] = some(0, 9);
                    break;
                case "pass":
                    a[0] = random.nextInt(4) == 0 ? some(1, 99) : some(1, 9);
                    break;
                case "put":
                    a[0] = someSigns();
                    break;
                case "save": case "restore":
                    a[0] = some(0, 1);
                    break;
                default:
                    break;
            }
            compare(name, a, ask(name, a), model.ask(name, a));
            if (name.equals("carryOut") || name.equals("wipe")) {
                waiting = "";
            }
            return 1;
        }

        /** The next signs of a text that is being written, now and then with a fault. */
        private long someSigns() {
            if (random.nextInt(60) == 0) {
                return random.nextLong();
            }
            if (waiting.isEmpty()) {
                waiting = (model.pad.isEmpty() ? "" : ";") + someText();
            }
            int length = Math.min(waiting.length(), 1 + random.nextInt(8));
            String part = waiting.substring(0, length);
            waiting = waiting.substring(length);
            long signs = 0;
            for (char sign : part.toCharArray()) {
                signs = signs << 8 | (random.nextInt(150) == 0 ? 30 + random.nextInt(99) : sign);
            }
            return signs;
        }

        private String someText() {
            StringBuilder text = new StringBuilder();
            for (int orders = random.nextInt(4); orders >= 0; orders--) {
                text.append(someOrder()).append(orders > 0 ? ";" : "");
            }
            return text.toString();
        }

        private String someOrder() {
            String paper = "/" + (1 + random.nextInt(9));
            if (random.nextBoolean()) {
                paper += "+" + random.nextInt(1000);
            }
            int number = random.nextInt(40) == 0 ? random.nextInt(120) : random.nextInt(Math.max(1, model.state.list.size()));
            switch (random.nextInt(8)) {
                case 0: case 1: return "c" + random.nextInt(2) + paper;
                case 2: case 3: case 4: return "a" + number + paper;
                case 5: return (random.nextInt(4) == 0 ? "w" : "r") + number;
                case 6: return "o" + random.nextInt(10);
                default: return "t" + random.nextInt(12);
            }
        }

        private int ask(String name, long[] a) {
            switch (name) {
                case "set": return real.set((int) a[0], (int) a[1]);
                case "claim": return real.claim((int) a[0], (int) a[1], (int) a[2]);
                case "answer": return real.answer((int) a[0], (int) a[1], (int) a[2]);
                case "withdraw": return real.withdraw((int) a[0]);
                case "renew": return real.renew((int) a[0]);
                case "overrule": return real.overrule((int) a[0]);
                case "pass": return real.pass((int) a[0]);
                case "put": return real.put(a[0]);
                case "wipe": return real.wipe();
                case "fault": return real.fault();
                case "carryOut": return real.carryOut();
                case "undo": return real.undo();
                case "save": return real.save((int) a[0]);
                case "restore": return real.restore((int) a[0]);
                default: throw new IllegalArgumentException(name);
            }
        }

        private int look() {
            int point = somePoint();
            boolean canTry = Integer.bitCount(model.state.withoutAnswers()) <= MOST_OPEN_TO_TRY;
            switch (random.nextInt(9)) {
                case 0: return look("count", 0, 13, real::count, model::count);
                case 1: return look("points", 0, 5, real::points, model::points);
                case 2: return look("share", 0, 1, real::share, model::share);
                case 3: return look("bestAnswer", 0, 1, real::bestAnswer, model::bestAnswer);
                case 4: return look("of a point", 0, 10, what -> real.of(point, what), what -> model.of(point, what));
                case 5:
                    compare("changesIn", new long[0], real.changesIn(), model.changesIn());
                    return 1;
                case 6:
                    compare("leastPages", new long[0], real.leastPages(), model.leastPages());
                    return 1;
                case 7:
                    if (canTry) {
                        compare("toFall", new long[] {point}, real.toFall(point), model.fewest(point, false));
                    }
                    return 1;
                default:
                    if (canTry) {
                        compare("toStand", new long[] {point}, real.toStand(point), model.fewest(point, true));
                    }
                    return 1;
            }
        }

        private int look(String name, int from, int to, IntUnaryOperator real, IntUnaryOperator model) {
            for (int what = from; what <= to; what++) {
                compare(name, new long[] {what}, real.applyAsInt(what), model.applyAsInt(what));
            }
            int odd = some(from, to);
            compare(name, new long[] {odd}, real.applyAsInt(odd), model.applyAsInt(odd));
            return to - from + 2;
        }

        private void compare(String name, long[] a, int got, int want) {
            compared++;
            if (got != want) {
                wrong++;
                System.out.println("run " + number + ": " + name + Arrays.toString(a) + " answered " + got
                    + ", due is " + want + "; " + model.state + " pad " + model.pad);
            }
        }
    }
}
