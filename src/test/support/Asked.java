import java.util.ArrayList;
import java.util.List;
import java.util.Map;

/**
 * An object that is asked by calls written as texts, such as {@code claim(0, 5, 0b110)}. Beside the
 * document's methods there is {@code write("w1;o2")}: put(), as often as such a text needs it.
 */
final class Asked {
    private static final Map<String, Long> NAMES = Map.of(
        "NO_SUCH", -1L, "BAD_VALUE", -2L, "BAD_TEXT", -3L, "TOO_MANY", -4L, "NOT_POSSIBLE", -5L, "NONE", -6L,
        "MAX", (long) Integer.MAX_VALUE, "MIN", (long) Integer.MIN_VALUE, "LONG_MIN", Long.MIN_VALUE);
    private static final int MOST_CALLS = 512;

    private final PointAnswers object = new PointAnswers();
    private int calls;

    int ask(String call) {
        int open = call.indexOf('(');
        String name = call.substring(0, open);
        String inside = call.substring(open + 1, call.lastIndexOf(')'));
        if (inside.startsWith("\"")) {
            String text = inside.substring(1, inside.length() - 1);
            return name.equals("write") ? write(text) : put(coded(text));
        }
        String[] parts = inside.isEmpty() ? new String[0] : inside.split(", ");
        long[] a = new long[parts.length];
        for (int i = 0; i < a.length; i++) {
            a[i] = number(parts[i]);
        }
        return name.equals("put") ? put(a[0]) : call(name, a);
    }

    static long number(String text) {
        if (NAMES.containsKey(text)) {
            return NAMES.get(text);
        }
        if (text.startsWith("0b")) {
            return Long.parseLong(text.substring(2), 2);
        }
        return text.startsWith("0x") ? Long.parseUnsignedLong(text.substring(2), 16) : Long.parseLong(text);
    }

    static long coded(String signs) {
        long number = 0;
        for (char sign : signs.toCharArray()) {
            number = number << 8 | sign;
        }
        return number;
    }

    private void countCall() {
        calls++;
        if (calls > MOST_CALLS) {
            throw new IllegalStateException("nothing is promised beyond 512 calls");
        }
    }

    private int put(long characters) {
        countCall();
        return object.put(characters);
    }

    private int write(String text) {
        int answer = 0;
        for (int from = 0; from < text.length() && answer >= 0; from += 8) {
            answer = put(coded(text.substring(from, Math.min(text.length(), from + 8))));
        }
        return answer;
    }

    private int call(String name, long... a) {
        countCall();
        int first = a.length > 0 ? (int) a[0] : 0;
        int second = a.length > 1 ? (int) a[1] : 0;
        int third = a.length > 2 ? (int) a[2] : 0;
        switch (name) {
            case "set": return object.set(first, second);
            case "claim": return object.claim(first, second, third);
            case "answer": return object.answer(first, second, third);
            case "withdraw": return object.withdraw(first);
            case "renew": return object.renew(first);
            case "overrule": return object.overrule(first);
            case "pass": return object.pass(first);
            case "of": return object.of(first, second);
            case "count": return object.count(first);
            case "points": return object.points(first);
            case "share": return object.share(first);
            case "toFall": return object.toFall(first);
            case "toStand": return object.toStand(first);
            case "bestAnswer": return object.bestAnswer(first);
            case "changesIn": return object.changesIn();
            case "leastPages": return object.leastPages();
            case "wipe": return object.wipe();
            case "fault": return object.fault();
            case "carryOut": return object.carryOut();
            case "undo": return object.undo();
            case "save": return object.save(first);
            case "restore": return object.restore(first);
            default: throw new IllegalArgumentException(name);
        }
    }

    /** All that the looks can tell of what the object is now. */
    List<Integer> everyAnswer() {
        List<Integer> all = new ArrayList<>();
        for (int what = 0; what <= 13; what++) {
            all.add(call("count", what));
        }
        for (int what = 0; what <= 5; what++) {
            all.add(call("points", what));
        }
        for (int what = 0; what <= 1; what++) {
            all.add(call("share", what));
            all.add(call("bestAnswer", what));
        }
        all.add(call("changesIn"));
        all.add(call("leastPages"));
        all.add(call("fault"));
        int points = call("count", 1);
        for (int point = 0; point < points; point++) {
            for (int what = 0; what <= 10; what++) {
                all.add(call("of", point, what));
            }
            all.add(call("toFall", point));
            all.add(call("toStand", point));
        }
        return all;
    }
}
