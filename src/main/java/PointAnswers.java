/**
 * A clerk of skeleton arguments: claims of two sides, points that answer others, what of them
 * stands and why something does not, what would change that, texts, undo and saved states.
 *
 * <p>Sets of points and of cases are bit masks. No call makes an object: every row is made by a
 * constructor and used again.
 */
public final class PointAnswers {
    public static final int NO_SUCH = -1, BAD_VALUE = -2, BAD_TEXT = -3, TOO_MANY = -4, NOT_POSSIBLE = -5, NONE = -6;
    public static final int LAPSE = 0, PAGES = 1;

    private static final int MOST_POINTS = 24;
    private static final int MOST_PAGES_OF_A_POINT = 9;
    private static final int CASES = 10;
    private static final int ALL_CASES = (1 << CASES) - 1;
    private static final int FIRST_LAPSE = 14, MOST_LAPSE = 60;
    private static final int FIRST_PAGES = 30, MOST_PAGES = 99;
    private static final int MOST_DAYS_AT_ONCE = 99, LAST_DAY = 999;
    private static final int MOST_SIGNS = 80, SIGNS_AT_ONCE = 8;
    private static final int LOWEST_SIGN = 33, HIGHEST_SIGN = 126;
    private static final int MOST_STATES = 6;
    private static final int SLOTS = 2;
    /** More answers than there can be: what cannot be so costs this. */
    private static final int UNREACHABLE = 1000;
    private static final int FLOAT_FRACTION_BITS = 23, FLOAT_EXPONENT_OF_ONE = 127;

    private final Bundle now = new Bundle();
    private final Costs costs = new Costs();
    private final Pad pad = new Pad();
    private final Reader reader = new Reader();
    private final History history = new History();
    private final Bundle[] slots = new Bundle[SLOTS];
    private int savedSlots;

    public PointAnswers() {
        for (int i = 0; i < slots.length; i++) {
            slots[i] = new Bundle();
        }
    }

    // ---- changes

    public int set(int setting, int value) {
        history.prepare(now);
        return history.settle(now.adjust(setting, value));
    }

    public int claim(int side, int pages, int cases) {
        history.prepare(now);
        return history.settle(now.fileClaim(side, pages, cases));
    }

    public int answer(int point, int pages, int cases) {
        history.prepare(now);
        return history.settle(now.fileAnswer(point, pages, cases));
    }

    public int withdraw(int point) {
        history.prepare(now);
        return history.settle(now.takeBack(point));
    }

    public int renew(int point) {
        history.prepare(now);
        return history.settle(now.prolong(point));
    }

    public int overrule(int which) {
        history.prepare(now);
        return history.settle(now.turnCase(which));
    }

    public int pass(int days) {
        history.prepare(now);
        return history.settle(now.moveOn(days));
    }

    // ---- what there is

    public int of(int point, int what) {
        Point asked = now.find(point);
        if (asked == null) {
            return NO_SUCH;
        }
        switch (what) {
            case 0: return asked.side;
            case 1: return asked.pages;
            case 2: return asked.filed;
            case 3: return asked.target;
            case 4: return asked.cases;
            case 5: return has(now.standing(), point) ? 1 : 0;
            case 6: return now.reasonAgainst(point);
            case 7: return lowestOf(now.answersTo(point) & now.standing());
            case 8: return now.answersTo(point);
            case 9: return now.depthOf(point);
            case 10: return now.daysLeft(asked);
            default: return BAD_VALUE;
        }
    }

    public int count(int what) {
        switch (what) {
            case 0: return now.day;
            case 1: return now.size;
            case 2: return Integer.bitCount(now.claims());
            case 3: return Integer.bitCount(now.standing());
            case 4: return Integer.bitCount(now.claims() & now.standing());
            case 5: return Integer.bitCount(now.out());
            case 6: return Integer.bitCount(now.answered());
            case 7: return now.pagesOf(0, now.withdrawn() | now.struck());
            case 8: return now.pagesOf(1, now.withdrawn() | now.struck());
            case 9: return now.overruled;
            case 10: return now.lapse;
            case 11: return now.allowedPages;
            case 12: return pad.length;
            case 13: return history.kept;
            default: return BAD_VALUE;
        }
    }

    public int points(int what) {
        switch (what) {
            case 0: return now.standing();
            case 1: return now.claims() & now.standing();
            case 2: return now.out();
            case 3: return now.answered();
            case 4: return now.ofSide(0);
            case 5: return now.ofSide(1);
            default: return BAD_VALUE;
        }
    }

    public int share(int side) {
        if (side != 0 && side != 1) {
            return NO_SUCH;
        }
        int claims = now.claims() & now.ofSide(side);
        if (claims == 0) {
            return NONE;
        }
        return floatBits(Integer.bitCount(claims & now.standing()), Integer.bitCount(claims));
    }

    // ---- what if; nothing changes

    public int toFall(int point) {
        if (now.find(point) == null) {
            return NO_SUCH;
        }
        costs.weigh(now);
        return costs.answersToFall(point);
    }

    public int toStand(int point) {
        if (now.find(point) == null) {
            return NO_SUCH;
        }
        if (has(now.out(), point)) {
            return NOT_POSSIBLE;
        }
        costs.weigh(now);
        return costs.answersToStand(point);
    }

    public int bestAnswer(int what) {
        if (what != 0 && what != 1) {
            return BAD_VALUE;
        }
        int best = NONE;
        int most = NONE;
        int out = now.out();
        int standing = now.standingIf(out, 0);
        int open = now.withoutAnswers() & ~out;
        for (int i = 0; i < MOST_POINTS; i++) {
            if (has(open, i)) {
                int changed = Integer.bitCount((now.standingIf(out, 1 << i) ^ standing) & now.claims());
                if (changed > most) {
                    best = i;
                    most = changed;
                }
            }
        }
        return what == 0 ? best : most;
    }

    public int changesIn() {
        int lasting = now.withdrawn() | now.struck() | now.baseless();
        int standing = now.standing();
        // An answer that still lasts was renewed today at the latest, so each has lapsed then.
        for (int days = 1; days <= MOST_LAPSE + 1; days++) {
            if (now.standingIf(lasting | now.lapsedOn(now.day + days), 0) != standing) {
                return days;
            }
        }
        return NONE;
    }

    public int leastPages() {
        int withdrawn = now.withdrawn();
        int needed = Math.max(1, Math.max(now.pagesOf(0, withdrawn), now.pagesOf(1, withdrawn)));
        return needed > MOST_PAGES ? NONE : needed;
    }

    // ---- texts

    public int put(long characters) {
        int given = Pad.signsIn(characters);
        if (given == 0) {
            return BAD_VALUE;
        }
        if (pad.length + given > MOST_SIGNS) {
            return TOO_MANY;
        }
        for (int i = given - 1; i >= 0; i--) {
            pad.append(Pad.signOf(characters, i));
        }
        return pad.length;
    }

    public int wipe() {
        return pad.empty();
    }

    public int fault() {
        return reader.firstFault(pad);
    }

    public int carryOut() {
        if (reader.firstFault(pad) != NONE) {
            return BAD_TEXT;
        }
        history.prepare(now);
        reader.rewind();
        int done = 0;
        while (done < MOST_SIGNS && reader.readOrder(pad) && follow() >= 0) {
            done++;
            reader.take(pad, ';');
        }
        pad.empty();
        return history.settle(done);
    }

    // ---- undo, saving

    public int undo() {
        return history.bringBack(now);
    }

    public int save(int slot) {
        Bundle row = slotRow(slot);
        if (row == null) {
            return BAD_VALUE;
        }
        row.become(now);
        savedSlots |= 1 << slot;
        return now.size;
    }

    public int restore(int slot) {
        Bundle row = slotRow(slot);
        if (row == null) {
            return BAD_VALUE;
        }
        if (!has(savedSlots, slot)) {
            return NOT_POSSIBLE;
        }
        history.prepare(now);
        now.become(row);
        return history.settle(now.size);
    }

    // ---- parts of these

    private Bundle slotRow(int slot) {
        return slot >= 0 && slot < slots.length ? slots[slot] : null;
    }

    /** Follows the order that was read last, and answers as the method that it stands for. */
    private int follow() {
        switch (reader.kind) {
            case 'c': return now.fileClaim(reader.number, reader.pages, reader.cases);
            case 'a': return now.fileAnswer(reader.number, reader.pages, reader.cases);
            case 'w': return now.takeBack(reader.number);
            case 'r': return now.prolong(reader.number);
            case 'o': return now.turnCase(reader.number);
            case 't': return now.moveOn(reader.number);
            default: return BAD_TEXT;
        }
    }

    private static boolean has(int set, int member) {
        return ((set >>> member) & 1) == 1;
    }

    private static int lowestOf(int set) {
        for (int i = 0; i < MOST_POINTS; i++) {
            if (has(set, i)) {
                return i;
            }
        }
        return NONE;
    }

    /**
     * The bits of part / whole as a float, part being at most whole. Worked out in whole numbers,
     * as the language of this program has no other way to a float's bits.
     */
    private static int floatBits(int part, int whole) {
        if (part <= 0 || whole <= 0) {
            return 0;
        }
        long scaled = part;
        int exponent = FLOAT_EXPONENT_OF_ONE;
        while (scaled < whole && exponent > 0) {
            scaled *= 2;
            exponent--;
        }
        long dividend = scaled << FLOAT_FRACTION_BITS;
        long fraction = dividend / whole;
        // No tie can be: so small a whole leaves no rest, or has an odd factor and leaves never just a half.
        if (2 * (dividend % whole) > whole) {
            fraction++;
        }
        // The leading 1 of the fraction is not kept; if it was rounded up to 2, it counts one up here.
        return (exponent << FLOAT_FRACTION_BITS) + (int) (fraction - (1L << FLOAT_FRACTION_BITS));
    }

    private static final class Point {
        private int side;
        private int pages;
        private int cases;
        /** The point that it answers, NONE for a claim. */
        private int target;
        private int filed;
        /** The day on which it was filed, or renewed last. */
        private int lastsFrom;
        private boolean withdrawn;

        private void become(Point other) {
            side = other.side;
            pages = other.pages;
            cases = other.cases;
            target = other.target;
            filed = other.filed;
            lastsFrom = other.lastsFrom;
            withdrawn = other.withdrawn;
        }
    }

    /** All that undo and the slots bring back. */
    private static final class Bundle {
        private final Point[] rows = new Point[MOST_POINTS];
        private int size;
        private int day;
        private int overruled;
        private int lapse = FIRST_LAPSE;
        private int allowedPages = FIRST_PAGES;

        private Bundle() {
            for (int i = 0; i < rows.length; i++) {
                rows[i] = new Point();
            }
        }

        private void become(Bundle other) {
            size = other.size;
            day = other.day;
            overruled = other.overruled;
            lapse = other.lapse;
            allowedPages = other.allowedPages;
            for (int i = 0; i < rows.length && i < size; i++) {
                Point to = rows[i];
                Point from = other.find(i);
                if (to != null && from != null) {
                    to.become(from);
                }
            }
        }

        /** The point of a number, null if there is none. */
        private Point find(int number) {
            return number >= 0 && number < size && number < rows.length ? rows[number] : null;
        }

        /** The row of a point more, null if there are as many as there may be. */
        private Point freeRow() {
            return size >= 0 && size < rows.length ? rows[size] : null;
        }

        // Changes; each of them answers as the public method that is made of it.

        private int adjust(int setting, int value) {
            int previous = BAD_VALUE;
            if (setting == LAPSE && value >= 1 && value <= MOST_LAPSE) {
                previous = lapse;
                lapse = value;
            }
            if (setting == PAGES && value >= 1 && value <= MOST_PAGES) {
                previous = allowedPages;
                allowedPages = value;
            }
            return previous;
        }

        private int fileClaim(int side, int pages, int cases) {
            if (side < 0 || side > 1 || !canBeFiled(pages, cases)) {
                return BAD_VALUE;
            }
            return file(side, pages, cases, NONE);
        }

        private int fileAnswer(int number, int pages, int cases) {
            Point target = find(number);
            if (target == null) {
                return NO_SUCH;
            }
            if (!canBeFiled(pages, cases)) {
                return BAD_VALUE;
            }
            if (freeRow() == null) {
                return TOO_MANY;
            }
            if (target.withdrawn) {
                return NOT_POSSIBLE;
            }
            return file(1 - target.side, pages, cases, number);
        }

        private static boolean canBeFiled(int pages, int cases) {
            return pages >= 1 && pages <= MOST_PAGES_OF_A_POINT && cases >= 0 && cases <= ALL_CASES;
        }

        private int file(int side, int pages, int cases, int target) {
            Point row = freeRow();
            if (row == null) {
                return TOO_MANY;
            }
            row.side = side;
            row.pages = pages;
            row.cases = cases;
            row.target = target;
            row.filed = day;
            row.lastsFrom = day;
            row.withdrawn = false;
            size++;
            return size - 1;
        }

        private int takeBack(int number) {
            Point point = find(number);
            if (point == null) {
                return NO_SUCH;
            }
            if (point.withdrawn) {
                return NOT_POSSIBLE;
            }
            point.withdrawn = true;
            return Integer.bitCount(standing());
        }

        private int prolong(int number) {
            Point point = find(number);
            if (point == null) {
                return NO_SUCH;
            }
            if (point.target == NONE || point.withdrawn) {
                return NOT_POSSIBLE;
            }
            int lasted = day - point.lastsFrom;
            point.lastsFrom = day;
            return lasted;
        }

        private int turnCase(int which) {
            if (which < 0 || which >= CASES) {
                return NO_SUCH;
            }
            overruled ^= 1 << which;
            return has(overruled, which) ? 1 : 0;
        }

        private int moveOn(int days) {
            if (days < 1 || days > MOST_DAYS_AT_ONCE) {
                return BAD_VALUE;
            }
            if (day + days > LAST_DAY) {
                return NOT_POSSIBLE;
            }
            day += days;
            return Integer.bitCount(standing());
        }

        // Sets of points.

        private int all() {
            return (1 << size) - 1;
        }

        private int claims() {
            return answersTo(NONE);
        }

        /** The answers to a point; the claims, if NONE is given. */
        private int answersTo(int target) {
            int set = 0;
            for (int i = 0; i < size; i++) {
                Point point = find(i);
                if (point != null && point.target == target) {
                    set |= 1 << i;
                }
            }
            return set;
        }

        private int withoutAnswers() {
            int set = all();
            for (int i = 0; i < size; i++) {
                set &= ~targetOf(i);
            }
            return set;
        }

        /** The point that a point answers, as a set; none for a claim. */
        private int targetOf(int number) {
            Point point = find(number);
            return point == null || point.target == NONE ? 0 : 1 << point.target;
        }

        private int ofSide(int side) {
            int set = 0;
            for (int i = 0; i < size; i++) {
                Point point = find(i);
                if (point != null && point.side == side) {
                    set |= 1 << i;
                }
            }
            return set;
        }

        private int withdrawn() {
            int set = 0;
            for (int i = 0; i < size; i++) {
                Point point = find(i);
                if (point != null && point.withdrawn) {
                    set |= 1 << i;
                }
            }
            return set;
        }

        private int struck() {
            int set = 0;
            for (int side = 0; side <= 1; side++) {
                int taken = 0;
                for (int i = 0; i < size; i++) {
                    Point point = find(i);
                    if (point == null || point.side != side || point.withdrawn) {
                        continue;
                    }
                    if (taken + point.pages > allowedPages) {
                        set |= 1 << i;
                    } else {
                        taken += point.pages;
                    }
                }
            }
            return set;
        }

        private int lapsedOn(int someDay) {
            int set = 0;
            for (int i = 0; i < size; i++) {
                Point point = find(i);
                if (point != null && point.target != NONE && someDay - point.lastsFrom > lapse) {
                    set |= 1 << i;
                }
            }
            return set;
        }

        /** The points that cite cases of which none holds any more. */
        private int baseless() {
            int set = 0;
            for (int i = 0; i < size; i++) {
                Point point = find(i);
                if (point != null && point.cases != 0 && (point.cases & ~overruled) == 0) {
                    set |= 1 << i;
                }
            }
            return set;
        }

        private int out() {
            return withdrawn() | struck() | lapsedOn(day) | baseless();
        }

        private int standing() {
            return standingIf(out(), 0);
        }

        private int answered() {
            return all() & ~out() & ~standing();
        }

        /** The points that would stand if these were out, and those answered by one more that stands. */
        private int standingIf(int out, int answeredToo) {
            int answered = answeredToo;
            int standing = 0;
            // An answer has a higher number than its target, so it is known by then if it stands.
            for (int i = size - 1; i >= 0; i--) {
                if (!has(out | answered, i)) {
                    standing |= 1 << i;
                    answered |= targetOf(i);
                }
            }
            return standing;
        }

        // Numbers about points.

        private int reasonAgainst(int number) {
            if (has(withdrawn(), number)) {
                return 1;
            }
            if (has(struck(), number)) {
                return 2;
            }
            if (has(lapsedOn(day), number)) {
                return 3;
            }
            if (has(baseless(), number)) {
                return 4;
            }
            return has(standing(), number) ? 0 : 5;
        }

        private int depthOf(int number) {
            int depth = 0;
            Point point = find(number);
            while (depth < MOST_POINTS && point != null && point.target != NONE) {
                depth++;
                point = find(point.target);
            }
            return depth;
        }

        private int daysLeft(Point point) {
            int left = point.lastsFrom + lapse - day;
            return point.target == NONE || left < 0 ? NONE : left;
        }

        private int pagesOf(int side, int leftOut) {
            int sum = 0;
            for (int i = 0; i < size; i++) {
                Point point = find(i);
                if (point != null && point.side == side && !has(leftOut, i)) {
                    sum += point.pages;
                }
            }
            return sum;
        }
    }

    /** The fewest answers more by which each point would fall, and by which it would stand. */
    private static final class Costs {
        private final int[] fall = new int[MOST_POINTS];
        private final int[] stand = new int[MOST_POINTS];

        /**
         * A point falls by the cheapest answer that stands, and stands by the fall of all of them.
         * What two points need is never the same answer more, as each point answers one at most.
         */
        private void weigh(Bundle bundle) {
            int out = bundle.out();
            int withoutAnswers = bundle.withoutAnswers();
            int places = Math.min(fall.length, stand.length);
            for (int i = 0; i < places; i++) {
                fall[i] = UNREACHABLE;
                stand[i] = 0;
            }
            for (int i = places - 1; i >= 0; i--) {
                Point point = bundle.find(i);
                if (point == null) {
                    continue;
                }
                if (has(out, i)) {
                    fall[i] = 0;
                    stand[i] = UNREACHABLE;
                } else if (has(withoutAnswers, i)) {
                    fall[i] = 1;
                }
                addToTarget(point.target, fall[i], stand[i]);
            }
        }

        private void addToTarget(int target, int fallOfAnswer, int standOfAnswer) {
            if (target >= 0 && target < fall.length && target < stand.length) {
                fall[target] = Math.min(fall[target], standOfAnswer);
                stand[target] = Math.min(UNREACHABLE, stand[target] + fallOfAnswer);
            }
        }

        private int answersToFall(int number) {
            return reachable(number >= 0 && number < fall.length ? fall[number] : UNREACHABLE);
        }

        private int answersToStand(int number) {
            return reachable(number >= 0 && number < stand.length ? stand[number] : UNREACHABLE);
        }

        private static int reachable(int cost) {
            return cost >= UNREACHABLE ? NONE : cost;
        }
    }

    private static final class Pad {
        private final char[] signs = new char[MOST_SIGNS];
        private int length;

        /** Empties it, and tells the length that it had. */
        private int empty() {
            int before = length;
            length = 0;
            return before;
        }

        /** How many characters a number holds, 0 if it is none that holds some. */
        private static int signsIn(long characters) {
            int found = 0;
            while (found < SIGNS_AT_ONCE && signOf(characters, found) != 0) {
                char sign = signOf(characters, found);
                if (sign < LOWEST_SIGN || sign > HIGHEST_SIGN) {
                    return 0;
                }
                found++;
            }
            // A shift by 64 would be one by 0.
            boolean moreAbove = found < SIGNS_AT_ONCE && (characters >>> (8 * found)) != 0;
            return moreAbove ? 0 : found;
        }

        /** A character of a number, the last one being that at 0. */
        private static char signOf(long characters, int place) {
            return (char) ((characters >>> (8 * place)) & 255);
        }

        private void append(char sign) {
            if (length >= 0 && length < signs.length) {
                signs[length] = sign;
                length++;
            }
        }

        /** The character at an index, 0 (which no order has) behind the end. */
        private char signAt(int index) {
            return index >= 0 && index < length && index < signs.length ? signs[index] : 0;
        }
    }

    /** Reads a pad from left to right; where it fails, it is at the character that cannot stand there. */
    private static final class Reader {
        private int at;
        private int digit;
        /** The order that was read last: its letter, its side, number, case or days, and more. */
        private char kind;
        private int number;
        private int pages;
        private int cases;

        private void rewind() {
            at = 0;
        }

        private int firstFault(Pad pad) {
            rewind();
            for (int orders = 0; orders < MOST_SIGNS; orders++) {
                if (!readOrder(pad)) {
                    return at;
                }
                if (at >= pad.length) {
                    return NONE;
                }
                if (!take(pad, ';')) {
                    return at;
                }
            }
            return at;
        }

        private boolean readOrder(Pad pad) {
            kind = pad.signAt(at);
            switch (kind) {
                case 'c':
                    at++;
                    return readDigit(pad, '0', '1') && readPaper(pad);
                case 'a':
                    at++;
                    return readNumber(pad) && readPaper(pad);
                case 'w':
                case 'r':
                case 't':
                    at++;
                    return readNumber(pad);
                case 'o':
                    at++;
                    return readDigit(pad, '0', '9');
                default:
                    return false;
            }
        }

        private boolean take(Pad pad, char sign) {
            if (pad.signAt(at) != sign) {
                return false;
            }
            at++;
            return true;
        }

        private boolean takeDigit(Pad pad, char lowest, char highest) {
            char sign = pad.signAt(at);
            if (sign < lowest || sign > highest) {
                return false;
            }
            digit = sign - '0';
            at++;
            return true;
        }

        private boolean readDigit(Pad pad, char lowest, char highest) {
            if (!takeDigit(pad, lowest, highest)) {
                return false;
            }
            number = digit;
            return true;
        }

        /** A digit that it leaves (behind a 0, or the third one) cannot stand there for what follows. */
        private boolean readNumber(Pad pad) {
            if (!readDigit(pad, '0', '9')) {
                return false;
            }
            if (number > 0 && takeDigit(pad, '0', '9')) {
                number = 10 * number + digit;
            }
            return true;
        }

        private boolean readPaper(Pad pad) {
            if (!take(pad, '/') || !takeDigit(pad, '1', '9')) {
                return false;
            }
            pages = digit;
            return readCites(pad);
        }

        private boolean readCites(Pad pad) {
            cases = 0;
            if (!take(pad, '+')) {
                return true;
            }
            for (int digits = 0; digits < MOST_SIGNS && takeDigit(pad, '0', '9'); digits++) {
                cases |= 1 << digit;
            }
            return cases != 0;
        }
    }

    /** The states before the latest changes, the oldest one first. */
    private static final class History {
        /** One row more than states are kept, so that the state before a change has a free one. */
        private final Bundle[] rows = new Bundle[MOST_STATES + 1];
        private int kept;

        private History() {
            for (int i = 0; i < rows.length; i++) {
                rows[i] = new Bundle();
            }
        }

        private Bundle rowAt(int index) {
            return index >= 0 && index < rows.length ? rows[index] : null;
        }

        /** Notes the state before what may become a change; settle() tells if it was one. */
        private void prepare(Bundle bundle) {
            Bundle free = rowAt(kept);
            if (free != null) {
                free.become(bundle);
            }
        }

        /** Keeps the state that was noted, unless the answer is an error; hands the answer on. */
        private int settle(int answer) {
            if (answer >= 0) {
                if (kept < MOST_STATES) {
                    kept++;
                } else {
                    dropOldest();
                }
            }
            return answer;
        }

        private void dropOldest() {
            Bundle oldest = rowAt(0);
            // It goes up to the end, as the row that is free then.
            for (int i = 0; i + 1 < rows.length; i++) {
                rows[i] = rows[i + 1];
                rows[i + 1] = oldest;
            }
        }

        private int bringBack(Bundle bundle) {
            Bundle latest = rowAt(kept - 1);
            if (latest == null) {
                return NOT_POSSIBLE;
            }
            bundle.become(latest);
            kept--;
            return kept;
        }
    }
}
