import java.util.ArrayList;
import java.util.List;
import java.util.function.Consumer;

/**
 * Looks whether two runs leave their objects in the same state, history and text and what
 * a power cut would tear among it: whatever is called behind them is answered alike. One
 * object has not calls enough for all that is looked at, so each list of calls has its own two.
 */
final class Alike {
    private static final List<List<String>> LOOKS = looks();

    private Alike() {
    }

    static void due(String what, Consumer<Run> one, Consumer<Run> other) {
        for (List<String> look : LOOKS) {
            Run first = new Run();
            Run second = new Run();
            one.accept(first);
            other.accept(second);
            for (String call : look) {
                int got = second.call(call);
                int want = first.call(call);
                Due.is(what + ": " + call + " behind it", got, want);
            }
        }
    }

    /** The rows of calls change nothing behind what was made before. */
    static void unchanged(Consumer<Run> made, String... rows) {
        due(String.join(", ", rows), made, x -> {
            made.accept(x);
            x.due(rows);
        });
    }

    /** For many refused calls, each by itself. */
    static void eachUnchanged(Consumer<Run> made, String... rows) {
        for (String row : rows) {
            unchanged(made, row);
        }
    }

    private static List<List<String>> looks() {
        List<List<String>> all = new ArrayList<>();
        all.add(manyNumbers());
        for (int track = 0; track < 4; track++) {
            all.add(copies(track));
        }
        for (int first = 0; first < 60; first += 20) {
            all.add(orders(first));
        }
        all.add(undoing());
        all.add(behind("cut()"));
        all.add(behind("run()"));
        all.add(behind("sweep()"));
        all.add(behind("append(120)", "append(59)", "run()", "clearText()", "run()"));
        all.add(behind("pass(1)", "pass(1)", "pass(3)", "pass(11)", "read(1, 1)", "write(2, 2, 2)", "pass(90)"));
        return all;
    }

    private static List<String> manyNumbers() {
        List<String> calls = new ArrayList<>(counts());
        for (int sector = 0; sector < 12; sector++) {
            calls.add("nearer(" + sector + ", 0)");
            calls.add("nearer(" + sector + ", 1)");
        }
        calls.add("idleIn()");
        calls.add("wouldWipe()");
        return calls;
    }

    private static List<String> counts() {
        List<String> calls = new ArrayList<>();
        for (int what = 0; what <= 14; what++) {
            calls.add("count(" + what + ")");
        }
        for (int what = 0; what <= 2; what++) {
            calls.add("waits(" + what + ")");
        }
        return calls;
    }

    private static List<String> copies(int track) {
        List<String> calls = new ArrayList<>();
        for (int sector = 0; sector < 12; sector++) {
            for (int what = 0; what <= 3; what++) {
                calls.add("copy(0, " + track + ", " + sector + ", " + what + ")");
                calls.add("copy(1, " + track + ", " + sector + ", " + what + ")");
            }
        }
        return calls;
    }

    private static List<String> orders(int first) {
        List<String> calls = new ArrayList<>();
        for (int order = first; order < first + 20; order++) {
            for (int what = 0; what <= 7; what++) {
                calls.add("order(" + order + ", " + what + ")");
            }
            calls.add("doneIn(" + order + ")");
        }
        return calls;
    }

    private static List<String> undoing() {
        List<String> calls = new ArrayList<>();
        for (int i = 0; i < 6; i++) {
            calls.add("undo()");
            calls.addAll(counts());
        }
        return calls;
    }

    private static List<String> behind(String... acts) {
        List<String> calls = new ArrayList<>();
        for (String act : acts) {
            calls.add(act);
            calls.addAll(counts());
        }
        calls.addAll(copies(0));
        return calls;
    }
}
