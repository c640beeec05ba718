/** Long runs of calls, each answered by the program and by the model. */
public final class ModelTest {
    private static final int RUNS = 6000;
    private static final int MOST_CALLS = 512;

    private static long seed;

    private final TwinPlates plates = new TwinPlates();
    private final Model model = new Model();
    private final StringBuilder told = new StringBuilder();
    private final int run;
    private final int busyTracks;
    private final int busySectors;
    private final int hurry;
    private int calls = 1;

    private ModelTest(int run) {
        this.run = run;
        // Few blocks make them meet; many make the arm travel.
        busyTracks = 1 + next(4);
        busySectors = 1 + next(12);
        hurry = next(3);
    }

    public static void main(String[] args) {
        for (int run = 0; run < RUNS && Due.wrong() == 0; run++) {
            seed = run * 7919L + 12345;
            next(2);
            new ModelTest(run).go();
        }
        Due.finish("ModelTest");
    }

    private static int next(int bound) {
        seed = seed * 6364136223846793005L + 1442695040888963407L;
        return (int) ((seed >>> 33) % bound);
    }

    private void due(String call, int got, int want) {
        calls++;
        told.append(call).append(' ').append(got).append('\n');
        Due.is("run " + run + ", call " + calls + ": " + call, got, want);
    }

    private void go() {
        while (calls < MOST_CALLS - 90 && Due.wrong() == 0) {
            int kind = next(100);
            if (kind < 45) {
                act();
            } else if (kind < 53) {
                program();
            } else {
                look();
            }
        }
        if (Due.wrong() != 0) {
            System.out.println(told);
        }
    }

    private int track() {
        return next(40) == 0 ? next(8) - 2 : next(busyTracks);
    }

    private int sector() {
        return next(40) == 0 ? next(17) - 2 : next(busySectors);
    }

    private int value() {
        return next(40) == 0 ? next(1010) - 2 : next(1000);
    }

    private int ticks() {
        if (next(40) == 0) {
            return next(4) * 67 - 1;
        }
        return hurry == 0 ? 1 + next(200) : 1 + next(hurry == 1 ? 8 : 30);
    }

    private void act() {
        int track = track();
        int sector = sector();
        int value = value();
        int ticks = ticks();
        switch (next(12)) {
            case 0: case 1: case 2:
                due("read(" + track + ", " + sector + ")", plates.read(track, sector), model.read(track, sector));
                break;
            case 3: case 4: case 5:
                due("write(" + track + ", " + sector + ", " + value + ")",
                        plates.write(track, sector, value), model.write(track, sector, value));
                break;
            case 6: case 7: case 8:
                due("pass(" + ticks + ")", plates.pass(ticks), model.pass(ticks));
                break;
            case 9:
                due("cut()", plates.cut(), model.cut());
                break;
            case 10:
                due("sweep()", plates.sweep(), model.sweep());
                break;
            default:
                due("undo()", plates.undo(), model.undo());
        }
    }

    private void program() {
        if (next(10) > 0) {
            due("clearText()", plates.clearText(), model.clearText());
        }
        StringBuilder text = new StringBuilder();
        int acts = next(7);
        for (int i = 0; i < acts; i++) {
            addAct(text, 0);
        }
        if (next(5) == 0 && text.length() > 0) {
            text.setCharAt(next(text.length()), "rwtx0123456789(),;= \u00e9".charAt(next(21)));
        }
        if (next(8) == 0 && text.length() > 0) {
            text.setLength(next(text.length()));
        }
        int length = Math.min(text.length(), 82);
        for (int i = 0; i < length; i++) {
            int sign = text.charAt(i);
            due("append(" + sign + ")", plates.append(sign), model.append(sign));
        }
        due("run() of " + text, plates.run(), model.run());
    }

    private void addAct(StringBuilder text, int depth) {
        switch (next(depth < 2 ? 7 : 30)) {
            case 0: case 1:
                if (next(4) > 0) {
                    text.append(next(20) == 0 ? next(10) : 2 + next(hurry == 0 ? 8 : 3));
                }
                text.append('(');
                int acts = next(4);
                for (int i = 0; i < acts; i++) {
                    addAct(text, depth + 1);
                }
                text.append(')');
                break;
            case 2: case 3:
                text.append('w').append(track()).append(',').append(sector()).append('=').append(value()).append(';');
                break;
            case 4:
                text.append('r').append(track()).append(',').append(sector()).append(';');
                break;
            case 5:
                text.append('x').append(';');
                break;
            default:
                text.append('t').append(ticks()).append(';');
        }
    }

    private void look() {
        int order = next(20) == 0 ? next(70) - 3 : next(Math.max(1, model.count(4)));
        int side = next(40) == 0 ? next(5) - 2 : next(2);
        int track = track();
        int sector = sector();
        int what = next(8);
        switch (next(12)) {
            case 0: case 1: case 2:
                what = next(17) - 1;
                due("count(" + what + ")", plates.count(what), model.count(what));
                break;
            case 3: case 4:
                what = next(6) - 1;
                due("copy(" + side + ", " + track + ", " + sector + ", " + what + ")",
                        plates.copy(side, track, sector, what), model.copy(side, track, sector, what));
                break;
            case 5: case 6:
                what = next(10) - 1;
                due("order(" + order + ", " + what + ")", plates.order(order, what), model.order(order, what));
                break;
            case 7:
                what = next(5) - 1;
                due("waits(" + what + ")", plates.waits(what), model.waits(what));
                break;
            case 8:
                what = next(4) - 1;
                sector = next(14) - 1;
                due("nearer(" + sector + ", " + what + ")", plates.nearer(sector, what), model.nearer(sector, what));
                break;
            case 9:
                due("doneIn(" + order + ")", plates.doneIn(order), model.doneIn(order));
                break;
            case 10:
                due("idleIn()", plates.idleIn(), model.idleIn());
                break;
            default:
                due("wouldWipe()", plates.wouldWipe(), model.wouldWipe());
        }
    }
}
