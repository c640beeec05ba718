import java.util.ArrayList;
import java.util.Arrays;
import java.util.List;
import java.util.regex.Matcher;
import java.util.regex.Pattern;

/**
 * One object and the calls on it. A call is a row as the document would write it, with
 * the answer that is due: "read(0, 12) = INVALID_ARGUMENT". A row without an answer is a
 * call that must succeed, whatever it answers.
 */
final class Run {
    static final int INVALID_ARGUMENT = -1;
    static final int ILLEGAL_STATE = -2;
    static final int CAPACITY_EXCEEDED = -3;
    static final int NONE = -9;

    /** The document promises nothing about later calls, so no test may make them. */
    static final int MOST_CALLS = 512;

    private static final Pattern ROW = Pattern.compile("(\\w+)\\(([^)]*)\\)(?: = (\\S+))?");

    private final TwinPlates plates = new TwinPlates();
    private int calls = 0;

    int calls() {
        return calls;
    }

    Run due(String... rows) {
        for (String row : rows) {
            Matcher parts = parts(row);
            int got = answer(parts.group(1), numbers(parts.group(2)));
            if (parts.group(3) == null) {
                Due.holds("call " + calls + ", " + row + ", succeeds with " + got, got >= 0);
            } else {
                Due.is("call " + calls + ", " + row + ",", got, number(parts.group(3)));
            }
        }
        return this;
    }

    Run times(int times, String row) {
        for (int i = 0; i < times; i++) {
            due(row);
        }
        return this;
    }

    /** The answer of a call, for what a row can't tell. */
    int call(String row) {
        Matcher parts = parts(row);
        return answer(parts.group(1), numbers(parts.group(2)));
    }

    Run text(String text) {
        due("clearText()");
        for (int i = 0; i < text.length(); i++) {
            due("append(" + (int) text.charAt(i) + ") = " + (i + 1));
        }
        return this;
    }

    Run counts(int... wants) {
        for (int what = 0; what < wants.length; what++) {
            due("count(" + what + ") = " + wants[what]);
        }
        return this;
    }

    /** Value, version, torn, late. */
    Run copy(int side, int track, int sector, int... wants) {
        for (int what = 0; what < wants.length; what++) {
            due("copy(" + side + ", " + track + ", " + sector + ", " + what + ") = " + wants[what]);
        }
        return this;
    }

    /** Write or not, track, sector, status, came at, done at, done by, answer or value. */
    Run order(int order, int... wants) {
        for (int what = 0; what < wants.length; what++) {
            due("order(" + order + ", " + what + ") = " + wants[what]);
        }
        return this;
    }

    private static Matcher parts(String row) {
        Matcher parts = ROW.matcher(row);
        if (!parts.matches()) {
            throw new IllegalArgumentException("not a row: " + row);
        }
        return parts;
    }

    private static int[] numbers(String list) {
        List<Integer> numbers = new ArrayList<>();
        for (String word : list.split(", ")) {
            if (!word.isEmpty()) {
                numbers.add(number(word));
            }
        }
        return numbers.stream().mapToInt(Integer::intValue).toArray();
    }

    private static int number(String word) {
        switch (word) {
            case "INVALID_ARGUMENT": return INVALID_ARGUMENT;
            case "ILLEGAL_STATE": return ILLEGAL_STATE;
            case "CAPACITY_EXCEEDED": return CAPACITY_EXCEEDED;
            case "NONE": return NONE;
            case "LEAST": return Integer.MIN_VALUE;
            case "GREATEST": return Integer.MAX_VALUE;
            default: return Integer.parseInt(word);
        }
    }

    private int answer(String name, int[] a) {
        calls++;
        if (calls > MOST_CALLS) {
            throw new IllegalStateException("a test makes more than " + MOST_CALLS + " calls on one object");
        }
        switch (name + " of " + a.length) {
            case "read of 2": return plates.read(a[0], a[1]);
            case "write of 3": return plates.write(a[0], a[1], a[2]);
            case "pass of 1": return plates.pass(a[0]);
            case "cut of 0": return plates.cut();
            case "sweep of 0": return plates.sweep();
            case "undo of 0": return plates.undo();
            case "append of 1": return plates.append(a[0]);
            case "clearText of 0": return plates.clearText();
            case "run of 0": return plates.run();
            case "count of 1": return plates.count(a[0]);
            case "copy of 4": return plates.copy(a[0], a[1], a[2], a[3]);
            case "order of 2": return plates.order(a[0], a[1]);
            case "waits of 1": return plates.waits(a[0]);
            case "nearer of 2": return plates.nearer(a[0], a[1]);
            case "doneIn of 1": return plates.doneIn(a[0]);
            case "idleIn of 0": return plates.idleIn();
            case "wouldWipe of 0": return plates.wouldWipe();
            default: throw new IllegalArgumentException("no such call: " + name + Arrays.toString(a));
        }
    }
}
