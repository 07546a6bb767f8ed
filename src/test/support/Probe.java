import java.util.List;

/**
 * Runs rows of calls: "claim(0, 5, 0) = 1" for a call and the answer that is due, "24 x pass(1)" for
 * one that is made often and may not fail. Of a row whose due answer is an error it is looked after,
 * too, that nothing changed, not even what only undo(), restore() or carryOut() would bring to light.
 */
final class Probe {
    private static final String[][] WAYS_ON = {
        {}, {"carryOut()"}, {"restore(0)"}, {"restore(1)"}, {"undo()"}, {"undo()", "undo()"},
        {"undo()", "undo()", "undo()"}, {"undo()", "undo()", "undo()", "undo()"},
        {"undo()", "undo()", "undo()", "undo()", "undo()"}, {"undo()", "undo()", "undo()", "undo()", "undo()", "undo()"},
    };

    private String sentence = "";
    private int passed;
    private int failed;

    int passed() {
        return passed;
    }

    int failed() {
        return failed;
    }

    void begins(String words) {
        sentence = words;
    }

    void check(String what, boolean holds) {
        if (holds) {
            passed++;
        } else {
            failed++;
            System.out.println("\"" + sentence + "\": " + what);
        }
    }

    /** Runs the rows on a new object. */
    void runs(String... rows) {
        Asked asked = new Asked();
        for (int i = 0; i < rows.length; i++) {
            run(asked, rows, i);
        }
    }

    private void run(Asked asked, String[] rows, int at) {
        String row = rows[at];
        int equals = row.lastIndexOf(" = ");
        if (equals < 0) {
            int answer = repeated(asked, row);
            check(row + " answered " + answer + " at place " + at, answer >= 0);
            return;
        }
        String call = row.substring(0, equals);
        long due = Asked.number(row.substring(equals + 3));
        long answer = repeated(asked, call);
        check(call + " answered " + answer + " at place " + at + ", due is " + due, answer == due);
        if (due < 0 && due != PointAnswers.NONE) {
            same(rowsBefore(rows, at), rowsBefore(rows, at + 1));
        }
    }

    private static int repeated(Asked asked, String row) {
        int times = row.indexOf(" x ");
        int answer = 0;
        for (int i = times < 0 ? 1 : Integer.parseInt(row.substring(0, times)); i > 0 && answer >= 0; i--) {
            answer = asked.ask(times < 0 ? row : row.substring(times + 3));
        }
        return answer;
    }

    private static String[] rowsBefore(String[] rows, int end) {
        String[] before = new String[end];
        System.arraycopy(rows, 0, before, 0, end);
        return before;
    }

    /** Two new objects are the same after these rows, whatever is done next. */
    void same(String[] rows, String[] others) {
        for (String[] wayOn : WAYS_ON) {
            String way = others[others.length - 1] + " and " + String.join(" ", wayOn);
            check("the same after " + way, after(rows, wayOn).equals(after(others, wayOn)));
        }
    }

    private static List<Integer> after(String[] rows, String[] wayOn) {
        Asked asked = new Asked();
        for (String row : rows) {
            int equals = row.lastIndexOf(" = ");
            repeated(asked, equals < 0 ? row : row.substring(0, equals));
        }
        int last = 0;
        for (String call : wayOn) {
            last = asked.ask(call);
        }
        List<Integer> all = asked.everyAnswer();
        all.add(last);
        return all;
    }

    /** The call is a change: it records the state before it, which undo() brings back. */
    void change(String call, String... before) {
        Asked asked = new Asked();
        for (String row : before) {
            repeated(asked, row);
        }
        int recorded = asked.ask("count(13)");
        check(call + " fails", asked.ask(call) >= 0);
        check(call + " records nothing", asked.ask("count(13)") == Math.min(6, recorded + 1));
        same(before, with(before, call, "undo()"));
    }

    /** The call answers, and changes nothing. */
    void look(String call, String... before) {
        same(before, with(before, call));
    }

    static String[] with(String[] rows, String... more) {
        String[] all = new String[rows.length + more.length];
        System.arraycopy(rows, 0, all, 0, rows.length);
        System.arraycopy(more, 0, all, rows.length, more.length);
        return all;
    }

    /** The pad being just this text, its fault is this. */
    void fault(String text, int due) {
        if (text.isEmpty()) {
            runs("fault() = " + due);
        } else {
            runs("write(\"" + text + "\") = " + text.length(), "fault() = " + due, "count(12) = " + text.length());
        }
    }
}
