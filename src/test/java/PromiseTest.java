/** For each promise of the document, runs whose answers were worked out by hand from its words. */
public final class PromiseTest {
    private static final int INVALID = -1;
    private static final int ILLEGAL = -2;
    private static final int FULL = -3;
    private static final int NONE = -9;
    private static final int LEAST = Integer.MIN_VALUE;
    private static final int GREATEST = Integer.MAX_VALUE;

    private static String promise;

    private PromiseTest() {
    }

    public static void main(String[] args) {
        constants();
        newObject();
        read();
        write();
        passServesAndCopies();
        passMovesTheArm();
        passHasBounds();
        cut();
        cutOfTornCopies();
        sweep();
        sweepRepairs();
        undo();
        undoRestores();
        append();
        clearText();
        runOfSoundTexts();
        runOfUnsoundTexts();
        runOfTooManyActs();
        runOfFailingActs();
        count();
        copy();
        order();
        waits();
        nearer();
        doneIn();
        idleIn();
        wouldWipe();
        forecastsChangeNothing();
        Due.finish("PromiseTest");
    }

    // ---- helpers

    private static void due(String call, int got, int want) {
        Due.is("promise " + promise + ": " + call, got, want);
    }

    private static void dueCounts(String when, TwinPlates x, int... wants) {
        for (int what = 0; what < wants.length; what++) {
            due(when + " count(" + what + ")", x.count(what), wants[what]);
        }
    }

    private static void dueCopy(String when, TwinPlates x, int side, int track, int sector, int... wants) {
        for (int what = 0; what < wants.length; what++) {
            due(when + " copy(" + side + ", " + track + ", " + sector + ", " + what + ")",
                    x.copy(side, track, sector, what), wants[what]);
        }
    }

    private static void dueOrder(String when, TwinPlates x, int order, int... wants) {
        for (int what = 0; what < wants.length; what++) {
            due(when + " order(" + order + ", " + what + ")", x.order(order, what), wants[what]);
        }
    }

    private static TwinPlates withText(TwinPlates x, String text) {
        x.clearText();
        for (int i = 0; i < text.length(); i++) {
            x.append(text.charAt(i));
        }
        return x;
    }

    private static void dueRun(String text, int want) {
        due("run() of " + text, withText(new TwinPlates(), text).run(), want);
    }

    private static void dueFailure(String text, int place) {
        TwinPlates x = withText(new TwinPlates(), text);
        due("run() of " + text, x.run(), -1000 - place);
        dueCounts("behind a failure of " + text, x, 0, 0, 0, 6, 0, 0, 0, 0, 0, 0, 0, 0, 0, 0, text.length());
    }

    private static void passOften(TwinPlates x, int times) {
        for (int i = 0; i < times; i++) {
            due("pass(200)", x.pass(200), 0);
        }
    }

    /** The block 0, 0 torn on both sides: the tick is 7 then, and two orders are done. */
    private static TwinPlates withTornBlock() {
        TwinPlates x = new TwinPlates();
        due("write(0, 0, 5)", x.write(0, 0, 5), 0);
        due("pass(1)", x.pass(1), 1);
        due("cut()", x.cut(), 1);
        due("write(0, 0, 6)", x.write(0, 0, 6), 1);
        due("pass(6)", x.pass(6), 1);
        due("cut()", x.cut(), 1);
        return x;
    }

    // ---- the promises

    private static void constants() {
        promise = "(constants)";
        due("INVALID_ARGUMENT", TwinPlates.INVALID_ARGUMENT, -1);
        due("ILLEGAL_STATE", TwinPlates.ILLEGAL_STATE, -2);
        due("CAPACITY_EXCEEDED", TwinPlates.CAPACITY_EXCEEDED, -3);
        due("NONE", TwinPlates.NONE, -9);
    }

    private static void newObject() {
        promise = "1";
        TwinPlates other = new TwinPlates();
        other.write(0, 0, 9);
        other.append(120);
        other.pass(3);
        TwinPlates x = new TwinPlates();
        dueCounts("new", x, 0, 0, 0, 6, 0, 0, 0, 0, 0, 0, 0, 0, 0, 0, 0);
        for (int block = 0; block < 48; block++) {
            dueCopy("new", x, 0, block / 12, block % 12, 0, 0, 0, 0);
            dueCopy("new", x, 1, block / 12, block % 12, 0, 0, 0, 0);
        }
        due("order(0, 0)", x.order(0, 0), INVALID);
        due("undo()", x.undo(), ILLEGAL);
        due("run()", x.run(), 0);
    }

    private static void read() {
        promise = "2";
        TwinPlates x = new TwinPlates();
        int[][] wrong = {{-1, 0}, {4, 0}, {0, -1}, {0, 12}, {LEAST, 0}, {GREATEST, 0}, {0, LEAST}, {0, GREATEST}};
        for (int[] w : wrong) {
            due("read(" + w[0] + ", " + w[1] + ")", x.read(w[0], w[1]), INVALID);
        }
        due("count(13) behind refused calls", x.count(13), 0);
        due("read(3, 11)", x.read(3, 11), 0);
        due("read(0, 0)", x.read(0, 0), 1);
        dueOrder("waiting", x, 0, 0, 3, 11, 0, 0, NONE, NONE, NONE, INVALID);
        dueCounts("two reads", x, 0, 0, 0, 6, 2, 2, 0, 0, 0, 0, 0, 0, 0, 2, 0);
        for (int order = 2; order < 20; order++) {
            due("read(1, 1)", x.read(1, 1), order);
        }
        due("read(1, 1) when 20 wait", x.read(1, 1), FULL);
        due("write(1, 1, 1) when 20 wait", x.write(1, 1, 1), FULL);
        due("read(4, 1) when 20 wait", x.read(4, 1), INVALID);
        due("read(0, 12) when 20 wait", x.read(0, 12), INVALID);
        due("count(4)", x.count(4), 20);
        due("count(13)", x.count(13), 5);
        due("undo()", x.undo(), 4);
        due("read(1, 2)", x.read(1, 2), 19);
        due("order(19, 2)", x.order(19, 2), 2);

        TwinPlates y = new TwinPlates();
        for (int order = 0; order < 60; order++) {
            due("read(0, 5)", y.read(0, 5), order);
            due("pass(6)", y.pass(6), 1);
        }
        due("read(0, 5) when 60 were taken", y.read(0, 5), FULL);
        due("write(0, 5, 5) when 60 were taken", y.write(0, 5, 5), FULL);
        due("read(-1, 5) when 60 were taken", y.read(-1, 5), INVALID);
        dueCounts("60 taken", y, 360, 0, 0, 6, 60, 0, 60, 0);
        due("undo()", y.undo(), 4);
        due("read(0, 5) when 60 were taken and one waits", y.read(0, 5), FULL);
        due("undo()", y.undo(), 3);
        due("read(0, 5) when 59 were taken", y.read(0, 5), 59);
    }

    private static void write() {
        promise = "3";
        TwinPlates x = new TwinPlates();
        int[][] wrong = {{-1, 0, 0}, {4, 0, 0}, {0, -1, 0}, {0, 12, 0}, {0, 0, -1}, {0, 0, 1000},
            {LEAST, 0, 0}, {GREATEST, 0, 0}, {0, LEAST, 0}, {0, GREATEST, 0}, {0, 0, LEAST}, {0, 0, GREATEST}};
        for (int[] w : wrong) {
            due("write(" + w[0] + ", " + w[1] + ", " + w[2] + ")", x.write(w[0], w[1], w[2]), INVALID);
        }
        due("count(13) behind refused calls", x.count(13), 0);
        due("write(3, 11, 999)", x.write(3, 11, 999), 0);
        due("write(0, 0, 0)", x.write(0, 0, 0), 1);
        dueOrder("waiting", x, 0, 1, 3, 11, 0, 0, NONE, NONE, 999, INVALID);
        dueOrder("waiting", x, 1, 1, 0, 0, 0, 0, NONE, NONE, 0, INVALID);
        dueCopy("before the tick", x, 0, 3, 11, 0, 0, 0, 0);
        due("count(13)", x.count(13), 2);
        for (int order = 2; order < 20; order++) {
            due("order number", order % 2 == 0 ? x.write(2, 2, 2) : x.read(2, 3), order);
        }
        due("write(2, 2, 2) when 20 wait", x.write(2, 2, 2), FULL);
        due("write(2, 2, 1000) when 20 wait", x.write(2, 2, 1000), INVALID);
        due("count(4)", x.count(4), 20);
        due("pass(1)", x.pass(1), 1);
        due("write(2, 2, 2) when 19 wait", x.write(2, 2, 2), 20);
        due("order(20, 4)", x.order(20, 4), 1);
        due("cut()", x.cut(), 1);
        due("count(7)", x.count(7), 20);
        for (int order = 21; order < 41; order++) {
            due("write(1, 0, 1)", x.write(1, 0, 1), order);
        }
        due("write(1, 0, 1) when 20 wait", x.write(1, 0, 1), FULL);
        due("cut()", x.cut(), 0);
        for (int order = 41; order < 60; order++) {
            due("write(1, 0, 1)", x.write(1, 0, 1), order);
        }
        due("write(1, 0, 1) when 60 were taken", x.write(1, 0, 1), FULL);
        due("count(5)", x.count(5), 19);
    }

    private static void passServesAndCopies() {
        promise = "4";
        TwinPlates x = new TwinPlates();
        x.read(0, 0);
        x.read(0, 0);
        x.read(0, 6);
        due("pass(1)", x.pass(1), 2);
        dueOrder("by the side 0", x, 0, 0, 0, 0, 1, 0, 0, 0, 0);
        dueOrder("one thing a head", x, 1, 0, 0, 0, 0, 0, NONE, NONE, NONE);
        dueOrder("by the side 1", x, 2, 0, 0, 6, 1, 0, 0, 1, 0);
        due("pass(5)", x.pass(5), 0);
        due("pass(1)", x.pass(1), 1);
        dueOrder("half a turn later", x, 1, 0, 0, 0, 1, 0, 6, 1, 0);

        x = new TwinPlates();
        x.read(0, 0);
        x.write(0, 0, 5);
        x.write(0, 0, 8);
        due("pass(1)", x.pass(1), 1);
        due("the write goes before the read", x.order(1, 5), 0);
        due("the read waits", x.order(0, 3), 0);
        dueCopy("written", x, 0, 0, 0, 5, 1, 0, 0);
        dueCopy("due to be copied", x, 1, 0, 0, 0, 0, 0, 1);
        due("pass(5)", x.pass(5), 0);
        dueCopy("still due to be copied", x, 1, 0, 0, 0, 0, 0, 1);
        due("pass(1) catches up before it writes", x.pass(1), 0);
        dueCopy("copied", x, 1, 0, 0, 5, 1, 0, 0);
        due("pass(5)", x.pass(5), 0);
        due("pass(1)", x.pass(1), 1);
        dueOrder("the second write", x, 2, 1, 0, 0, 1, 0, 12, 0, 8);
        dueCopy("written again", x, 0, 0, 0, 8, 2, 0, 0);
        dueCopy("due to be copied again", x, 1, 0, 0, 5, 1, 0, 1);
        due("pass(11) copies at 18", x.pass(11), 0);
        due("pass(1) reads at 24", x.pass(1), 1);
        dueOrder("the read", x, 0, 0, 0, 0, 1, 0, 24, 0, 8);
        dueCopy("copied again", x, 1, 0, 0, 8, 2, 0, 0);

        x = withTornBlock();
        x.read(0, 0);
        due("a read of a block torn twice waits", x.pass(200), 0);
        x.read(3, 0);
        due("and the arm stays by it", x.pass(200), 0);
        due("count(1)", x.count(1), 0);
        due("count(12)", x.count(12), 0);
        x.write(0, 0, 7);
        due("the tick", x.count(0), 407);
        due("pass(2) writes at 408", x.pass(2), 1);
        dueOrder("the write", x, 4, 1, 0, 0, 1, 407, 408, 0, 7);
        dueCopy("written", x, 0, 0, 0, 7, 3, 0, 0);
        dueCopy("torn and late", x, 1, 0, 0, 6, 2, 1, 1);
        due("pass(6) catches up at 414", x.pass(6), 0);
        dueCopy("neither late nor torn", x, 1, 0, 0, 7, 3, 0, 0);
        due("pass(6) reads at 420", x.pass(6), 1);
        dueOrder("the read", x, 2, 0, 0, 0, 1, 7, 420, 0, 7);

        x = new TwinPlates();
        x.write(0, 0, 5);
        x.pass(1);
        x.cut();
        x.read(0, 0);
        due("a torn copy is not read", x.pass(5), 0);
        due("the other one is", x.pass(1), 1);
        dueOrder("the read of the whole copy", x, 1, 0, 0, 0, 1, 1, 6, 1, 0);
        x.read(0, 0);
        due("pass(6) passes by the torn copy at 12", x.pass(6), 0);
        due("pass(6)", x.pass(6), 1);
        due("order(2, 5)", x.order(2, 5), 18);
    }

    private static void passMovesTheArm() {
        promise = "4";
        TwinPlates x = new TwinPlates();
        due("pass(50) without work", x.pass(50), 0);
        dueCounts("without work", x, 50, 0, 2, 8, 0, 0, 0, 0, 0, 0, 0, 0, 0, 1);

        x = new TwinPlates();
        x.read(3, 0);
        due("pass(2)", x.pass(2), 0);
        due("count(1)", x.count(1), 2);
        due("pass(1)", x.pass(1), 0);
        dueCounts("on the track 3", x, 3, 3, 3, 9, 1, 1, 0, 0, 0, 0, 0, 0, 3);
        due("pass(3)", x.pass(3), 0);
        due("pass(1)", x.pass(1), 1);
        dueOrder("by the side 1", x, 0, 0, 3, 0, 1, 0, 6, 1, 0);

        x = new TwinPlates();
        x.read(1, 1);
        due("pass(2)", x.pass(2), 1);
        x.read(2, 4);
        x.read(0, 4);
        due("pass(1)", x.pass(1), 0);
        due("of two as near the smaller one", x.count(1), 0);
        due("pass(2)", x.pass(2), 1);
        due("pass(2)", x.pass(2), 0);
        due("count(1)", x.count(1), 2);
        due("count(12)", x.count(12), 4);
        due("pass(3)", x.pass(3), 0);
        due("pass(1)", x.pass(1), 1);
        dueOrder("the last one", x, 1, 0, 2, 4, 1, 2, 10, 1, 0);

        x = new TwinPlates();
        x.read(2, 8);
        due("pass(3)", x.pass(3), 1);
        x.read(0, 0);
        x.read(3, 10);
        due("pass(1)", x.pass(1), 0);
        due("the nearest one", x.count(1), 3);
        due("pass(1)", x.pass(1), 1);

        x = new TwinPlates();
        x.write(0, 0, 1);
        x.read(1, 0);
        due("pass(6)", x.pass(6), 1);
        due("a late copy is work", x.count(1), 0);
        due("pass(1) copies", x.pass(1), 0);
        due("pass(1) moves", x.pass(1), 0);
        due("count(1)", x.count(1), 1);
    }

    private static void passHasBounds() {
        promise = "4";
        TwinPlates x = new TwinPlates();
        int[] wrong = {0, -1, 201, LEAST, GREATEST};
        for (int ticks : wrong) {
            due("pass(" + ticks + ")", x.pass(ticks), INVALID);
        }
        due("count(13)", x.count(13), 0);
        passOften(x, 99);
        due("pass(199)", x.pass(199), 0);
        due("pass(2)", x.pass(2), ILLEGAL);
        due("count(0)", x.count(0), 19999);
        due("pass(1)", x.pass(1), 0);
        due("count(0)", x.count(0), 20000);
        due("pass(1)", x.pass(1), ILLEGAL);
        due("pass(200)", x.pass(200), ILLEGAL);
        for (int ticks : wrong) {
            due("pass(" + ticks + ")", x.pass(ticks), INVALID);
        }
        due("count(0)", x.count(0), 20000);
    }

    private static void cut() {
        promise = "5";
        TwinPlates x = new TwinPlates();
        due("cut() in the tick 0", x.cut(), 0);
        due("count(13)", x.count(13), 1);
        x.write(0, 0, 5);
        x.write(0, 6, 6);
        x.write(2, 3, 7);
        x.read(0, 0);
        due("pass(1)", x.pass(1), 2);
        due("cut() tears both sides", x.cut(), 2);
        dueCopy("torn", x, 0, 0, 0, 5, 1, 1, 0);
        dueCopy("no longer late", x, 1, 0, 0, 0, 0, 0, 0);
        dueCopy("torn", x, 1, 0, 6, 6, 1, 1, 0);
        dueCopy("no longer late", x, 0, 0, 6, 0, 0, 0, 0);
        dueOrder("a lost write", x, 2, 1, 2, 3, 2, 0, NONE, NONE, 7);
        dueOrder("a lost read", x, 3, 0, 0, 0, 2, 0, NONE, NONE, NONE);
        dueOrder("a done one", x, 0, 1, 0, 0, 1, 0, 0, 0, 5);
        dueCounts("cut", x, 1, 0, 1, 7, 4, 0, 2, 2, 0, 2, 2, 0, 0, 5);
        due("cut() again", x.cut(), 0);
        due("pass(100): nothing is left to do", x.pass(100), 0);
        dueCounts("cut twice", x, 101, 0, 5, 11, 4, 0, 2, 2, 0, 2, 2, 0, 0, 5);

        x = new TwinPlates();
        x.write(0, 0, 5);
        x.pass(2);
        due("cut() a tick later", x.cut(), 0);
        dueCopy("whole", x, 0, 0, 0, 5, 1, 0, 0);

        x = new TwinPlates();
        x.write(0, 0, 5);
        x.pass(7);
        due("cut() tears what was copied", x.cut(), 1);
        dueCopy("whole", x, 0, 0, 0, 5, 1, 0, 0);
        dueCopy("torn", x, 1, 0, 0, 5, 1, 1, 0);

        x = new TwinPlates();
        x.read(0, 0);
        x.pass(1);
        due("cut() does not tear what was read", x.cut(), 0);

        x = new TwinPlates();
        x.write(0, 0, 5);
        x.read(1, 0);
        x.pass(8);
        due("cut() behind a tick in which the arm moved", x.cut(), 0);
        due("count(1)", x.count(1), 1);
    }

    private static void cutOfTornCopies() {
        promise = "5";
        TwinPlates x = withTornBlock();
        dueCopy("torn", x, 0, 0, 0, 5, 1, 1, 0);
        dueCopy("torn", x, 1, 0, 0, 6, 2, 1, 0);
        due("count(9)", x.count(9), 2);
        due("cut()", x.cut(), 0);

        x = new TwinPlates();
        x.write(0, 0, 5);
        x.pass(1);
        x.cut();
        x.pass(11);
        x.write(0, 0, 6);
        due("a torn copy is written", x.pass(1), 1);
        dueCopy("whole again", x, 0, 0, 0, 6, 2, 0, 0);
        due("and torn once more", x.cut(), 1);

        x = new TwinPlates();
        x.write(0, 0, 5);
        x.pass(2);
        x.cut();
        due("sweep()", x.sweep(), 1);
        due("cut() behind a sweep", x.cut(), 0);

        x = new TwinPlates();
        x.write(0, 0, 5);
        x.pass(7);
        due("sweep()", x.sweep(), 0);
        due("cut() behind a sweep", x.cut(), 0);
    }

    private static void sweep() {
        promise = "6";
        TwinPlates x = new TwinPlates();
        due("sweep()", x.sweep(), 0);
        dueCounts("swept", x, 48, 3, 0, 6, 0, 0, 0, 0, 0, 0, 0, 0, 0, 1);
        x.read(3, 0);
        due("sweep() when an order waits", x.sweep(), ILLEGAL);
        due("count(13)", x.count(13), 2);
        due("pass(1)", x.pass(1), 1);
        due("sweep()", x.sweep(), 0);
        x.write(3, 1, 4);
        due("pass(1)", x.pass(1), 1);
        due("sweep() when a copy is late", x.sweep(), ILLEGAL);
        due("pass(5)", x.pass(5), 0);
        due("sweep() when a copy is late", x.sweep(), ILLEGAL);
        due("pass(1)", x.pass(1), 0);
        due("sweep()", x.sweep(), 0);

        x = new TwinPlates();
        passOften(x, 99);
        due("pass(152)", x.pass(152), 0);
        due("pass(1)", x.pass(1), 0);
        due("sweep() at 19953", x.sweep(), ILLEGAL);
        due("undo()", x.undo(), 4);
        due("sweep() at 19952", x.sweep(), 0);
        due("count(0)", x.count(0), 20000);
        due("sweep() at 20000", x.sweep(), ILLEGAL);
    }

    private static void sweepRepairs() {
        promise = "6";
        TwinPlates x = new TwinPlates();
        x.write(0, 0, 5);
        x.write(0, 7, 6);
        x.write(0, 6, 8);
        due("pass(3)", x.pass(3), 3);
        due("cut()", x.cut(), 0);
        due("count(10)", x.count(10), 3);
        due("sweep() takes the greater version", x.sweep(), 3);
        dueCopy("repaired", x, 1, 0, 0, 5, 1, 0, 0);
        dueCopy("kept", x, 0, 0, 0, 5, 1, 0, 0);
        dueCopy("repaired", x, 0, 0, 7, 6, 1, 0, 0);
        dueCopy("repaired", x, 0, 0, 6, 8, 1, 0, 0);
        dueCounts("swept", x, 51, 3, 3, 9, 3, 0, 3, 0, 0, 0, 0, 0, 0, 5);

        x = new TwinPlates();
        x.write(0, 0, 5);
        x.write(0, 6, 6);
        x.pass(1);
        x.cut();
        due("sweep() takes the whole copy, though it is older", x.sweep(), 2);
        dueCopy("repaired", x, 0, 0, 0, 0, 0, 0, 0);
        dueCopy("kept", x, 1, 0, 0, 0, 0, 0, 0);
        dueCopy("repaired", x, 1, 0, 6, 0, 0, 0, 0);
        due("count(11)", x.count(11), 0);

        x = new TwinPlates();
        x.write(0, 0, 5);
        x.pass(7);
        x.cut();
        due("sweep() of a torn copy with a like value", x.sweep(), 1);
        dueCopy("repaired", x, 1, 0, 0, 5, 1, 0, 0);

        x = withTornBlock();
        due("sweep() of a block torn twice", x.sweep(), 0);
        dueCopy("wiped", x, 0, 0, 0, 0, 0, 0, 0);
        dueCopy("wiped", x, 1, 0, 0, 0, 0, 0, 0);
        dueCounts("wiped", x, 55, 3, 7, 1, 2, 0, 2, 0, 0, 0, 0, 1, 0, 5);
        due("sweep()", x.sweep(), 0);
        due("count(11)", x.count(11), 1);
        x.write(3, 3, 3);
        due("pass(3) writes at 105", x.pass(3), 1);
        due("cut()", x.cut(), 1);
        x.write(3, 3, 4);
        due("pass(6)", x.pass(6), 1);
        due("cut()", x.cut(), 1);
        due("sweep()", x.sweep(), 0);
        due("count(11) counts each time", x.count(11), 2);
    }

    private static void undo() {
        promise = "7";
        TwinPlates x = new TwinPlates();
        for (int i = 1; i <= 7; i++) {
            x.pass(i);
            due("count(13)", x.count(13), Math.min(i, 5));
        }
        due("pass(0)", x.pass(0), INVALID);
        due("count(0)", x.count(0), 28);
        int[] ticks = {21, 15, 10, 6, 3};
        for (int i = 0; i < 5; i++) {
            due("undo()", x.undo(), 4 - i);
            due("count(0)", x.count(0), ticks[i]);
            due("count(13)", x.count(13), 4 - i);
        }
        due("undo()", x.undo(), ILLEGAL);
        due("count(0)", x.count(0), 3);
        due("pass(200)", x.pass(200), 0);
        due("undo()", x.undo(), 0);
        due("count(0)", x.count(0), 3);

        x = new TwinPlates();
        x.cut();
        x.sweep();
        x.read(0, 0);
        x.write(0, 0, 0);
        x.run();
        due("every action counts", x.count(13), 5);
        x.append(120);
        x.clearText();
        x.doneIn(0);
        x.idleIn();
        x.wouldWipe();
        x.nearer(0, 0);
        x.sweep();
        x.read(9, 9);
        due("nothing else does", x.undo(), 4);
        due("count(5)", x.count(5), 2);
        due("undo()", x.undo(), 3);
        due("count(5)", x.count(5), 1);
    }

    private static void undoRestores() {
        promise = "7";
        TwinPlates x = new TwinPlates();
        x.write(0, 0, 5);
        x.pass(1);
        x.pass(1);
        due("undo()", x.undo(), 2);
        due("cut() tears what was written before", x.cut(), 1);
        due("undo()", x.undo(), 2);
        dueCopy("not torn", x, 0, 0, 0, 5, 1, 0, 0);
        dueCopy("late", x, 1, 0, 0, 0, 0, 0, 1);
        due("undo()", x.undo(), 1);
        dueOrder("waiting", x, 0, 1, 0, 0, 0, 0, NONE, NONE, 5);
        dueCopy("not yet written", x, 0, 0, 0, 0, 0, 0, 0);
        dueCopy("not yet late", x, 1, 0, 0, 0, 0, 0, 0);
        due("cut() tears nothing", x.cut(), 0);
        due("order(0, 3)", x.order(0, 3), 2);
        due("undo()", x.undo(), 1);
        due("pass(1)", x.pass(1), 1);
        due("undo()", x.undo(), 1);
        due("undo()", x.undo(), 0);
        due("order(0, 3)", x.order(0, 3), INVALID);
        due("undo()", x.undo(), ILLEGAL);

        x = new TwinPlates();
        x.write(0, 0, 5);
        x.pass(1);
        x.cut();
        due("undo() of cut()", x.undo(), 2);
        dueCounts("before the cut", x, 1, 0, 1, 7, 1, 0, 1, 0, 1, 0, 1, 0, 0, 2);

        x = withTornBlock();
        x.append(120);
        x.sweep();
        due("count(11)", x.count(11), 1);
        x.append(59);
        due("undo()", x.undo(), 4);
        dueCounts("before the sweep", x, 7, 0, 7, 1, 2, 0, 2, 0, 0, 2, 1, 0, 0, 4, 2);
        x.read(2, 0);
        x.read(0, 5);
        x.write(0, 11, 5);
        x.pass(200);
        dueCounts("moved", x, 207, 2, 3, 9, 5, 0, 5, 0, 0, 2, 1, 0, 2, 5, 2);
        due("undo()", x.undo(), 4);
        dueCounts("not moved", x, 7, 0, 7, 1, 5, 3, 2, 0, 0, 2, 1, 0, 0, 4, 2);
        due("run()", x.run(), 1);
        due("count(7)", x.count(7), 3);
        due("undo()", x.undo(), 4);
        due("count(7)", x.count(7), 0);
        due("pass(200)", x.pass(200), 3);
    }

    private static void append() {
        promise = "8";
        TwinPlates x = new TwinPlates();
        int[] wrong = {0, -1, 256, LEAST, GREATEST};
        for (int character : wrong) {
            due("append(" + character + ")", x.append(character), INVALID);
        }
        due("count(14)", x.count(14), 0);
        due("append(1)", x.append(1), 1);
        due("append(255)", x.append(255), 2);
        for (int length = 3; length <= 80; length++) {
            due("append(120)", x.append(120), length);
        }
        due("append(120) when 80 stand", x.append(120), FULL);
        for (int character : wrong) {
            due("append(" + character + ") when 80 stand", x.append(character), INVALID);
        }
        due("count(14)", x.count(14), 80);
        due("count(13)", x.count(13), 0);
        due("run()", x.run(), -1000);
        x.pass(1);
        x.undo();
        due("count(14) behind undo", x.count(14), 80);
    }

    private static void clearText() {
        promise = "9";
        TwinPlates x = new TwinPlates();
        due("clearText()", x.clearText(), 0);
        withText(x, "t5;");
        due("run()", x.run(), 1);
        due("clearText()", x.clearText(), 3);
        due("count(14)", x.count(14), 0);
        due("count(13)", x.count(13), 1);
        due("count(0)", x.count(0), 5);
        due("clearText()", x.clearText(), 0);
        due("run()", x.run(), 0);
        due("undo()", x.undo(), 1);
        due("undo()", x.undo(), 0);
        due("count(14) behind undo", x.count(14), 0);
        for (int i = 0; i < 80; i++) {
            x.append(65);
        }
        due("clearText()", x.clearText(), 80);
        due("append(120)", x.append(120), 1);
        due("append(59)", x.append(59), 2);
        due("run()", x.run(), 1);
    }

    private static void runOfSoundTexts() {
        promise = "10";
        dueRun("", 0);
        dueRun("()", 0);
        dueRun("9()", 0);
        dueRun("2(3(4()()))()", 0);
        dueRun("x;", 1);
        dueRun("(x;)", 1);
        dueRun("2(x;)", 2);
        dueRun("9(x;)", 9);
        dueRun("(((x;)))(((x;)))", 2);
        dueRun("2(x;3(x;))x;", 9);
        dueRun("2(x;3(x;4(x;)))", 32);
        dueRun("t1;t10;t100;t200;", 4);
        dueRun("w0,0=0;w3,11=999;r3,11;r0,10;", 4);
        dueRun("x;x;x;x;x;x;x;x;x;x;x;x;x;x;x;x;x;x;x;x;x;x;x;x;x;x;x;x;x;x;x;x;x;x;x;x;x;x;x;x;", 40);

        TwinPlates x = withText(new TwinPlates(), "w0,6=77;r1,3;2(t3;)x;");
        due("run()", x.run(), 5);
        dueCounts("run", x, 6, 0, 6, 0, 2, 0, 1, 1, 0, 0, 1, 0, 0, 1, 21);
        dueCopy("written", x, 1, 0, 6, 77, 1, 0, 0);
        dueCopy("not copied", x, 0, 0, 6, 0, 0, 0, 0);
        due("run() again", x.run(), 5);
        dueCounts("run again", x, 12, 0, 0, 6, 4, 0, 2, 2, 0, 0, 1, 0, 0, 2, 21);
        dueCopy("written by the other side", x, 0, 0, 6, 77, 2, 0, 0);
        dueCopy("not written again", x, 1, 0, 6, 77, 1, 0, 0);
        due("undo()", x.undo(), 1);
        due("count(0)", x.count(0), 6);
        due("undo()", x.undo(), 0);
        dueCounts("undone", x, 0, 0, 0, 6, 0, 0, 0, 0, 0, 0, 0, 0, 0, 0, 21);

        x = withText(new TwinPlates(), "3(w0,0=5;t1;x;t11;)");
        due("run()", x.run(), 12);
        dueCopy("the third one", x, 0, 0, 0, 5, 3, 1, 0);
        due("count(0)", x.count(0), 36);

        x = withText(new TwinPlates(), "");
        for (int i = 1; i <= 6; i++) {
            due("run() of nothing", x.run(), 0);
            due("count(13)", x.count(13), Math.min(i, 5));
        }
    }

    private static void runOfUnsoundTexts() {
        promise = "10";
        String[] endsEarly = {"(", "(x;", "2(", "2", "r", "r0", "r0,", "r0,0", "r0,10", "w", "w0", "w0,", "w0,0",
            "w0,0=", "w0,0=1", "w0,0=999", "t", "t1", "t0", "t200", "x", "x;x", "((x;)", "(((", "(((2", "9(9(9(9"};
        for (String text : endsEarly) {
            dueFailure(text, text.length());
        }
        String[] atTheStart = {")", ";", ",", "=", "0", "1(x;)", "0(x;)", " x;", "X;", "R0,0;", "W0,0=1;", "T1;",
            "\u0001", "\u00ff", "[x;]", "+", "-1", "\u00b2(x;)"};
        for (String text : atTheStart) {
            dueFailure(text, 0);
        }
        dueFailure("x;)", 2);
        dueFailure("(x;))", 4);
        dueFailure("()x", 3);
        dueFailure("2x;", 1);
        dueFailure("22(x;)", 1);
        dueFailure("2 (x;)", 1);
        dueFailure("2)", 1);
        dueFailure("x ;", 1);
        dueFailure("x1;", 1);
        dueFailure("x;;", 2);
        dueFailure("xx;", 1);
        dueFailure("r,0;", 1);
        dueFailure("r 0,0;", 1);
        dueFailure("r-1,0;", 1);
        dueFailure("r0;0;", 2);
        dueFailure("r0=0;", 2);
        dueFailure("r0,;", 3);
        dueFailure("r0,0,0;", 4);
        dueFailure("r0,0=0;", 4);
        dueFailure("r0,0)", 4);
        dueFailure("w0=0;", 2);
        dueFailure("w0,0;", 4);
        dueFailure("w0,0,0;", 4);
        dueFailure("w0,0=;", 5);
        dueFailure("w0,0=1,", 6);
        dueFailure("t;", 1);
        dueFailure("t1,", 2);
        dueFailure("t-1;", 1);
        dueFailure("t00;", 2);
        dueFailure("t01;", 2);
        dueFailure("t1000;", 4);
        dueFailure("t1234", 4);
        dueFailure("r00,0;", 2);
        dueFailure("r0,01;", 4);
        dueFailure("r0,1000;", 6);
        dueFailure("w0,0=00;", 6);
        dueFailure("w0,0=1000;", 8);
        dueFailure("((((x;))))", 3);
        dueFailure("2(2(2(2(x;))))", 7);
        dueFailure("(((2x;)))", 4);
        dueFailure("()(())((()))(((())))", 15);
        TwinPlates x = withText(new TwinPlates(), "(((x;");
        due("run()", x.run(), -1005);
        due("run() of another text", withText(x, "(((x;)))").run(), 1);
        due("run() of another text", withText(x, "x;)").run(), -1002);
        dueFailure("x;t5;w0,0=1;t1;y", 15);
        dueFailure("t0;y", 3);
        dueFailure("r9,9;(", 6);
    }

    private static void runOfTooManyActs() {
        promise = "10";
        dueRun("2(5(9(x;)x;))", 100);
        dueFailure("2(5(9(x;)x;))x;", 13);
        dueFailure("2(5(9(x;)x;))2(x;)", 15);
        dueFailure("x;2(5(9(x;)x;))", 11);
        dueFailure("9(9(x;)t1;t1;t1;)", 4);
        dueFailure("9(2(x;)9(t1;)x;)", 9);
        dueFailure("9(9(2(x;)))", 6);
        dueFailure("9(9(9(x;)))9(9(9(t1;)))", 6);
        dueFailure("t0;9(9(9(x;)))", 9);
        dueFailure("9(9(9(x;)))y", 11);
        dueFailure("9(9(9(x;)))(", 12);
        dueFailure("9(9(9(r0,0;)))", 6);

        TwinPlates x = withText(new TwinPlates(), "w0,0=5;t9;9(9(9(x;)))");
        x.read(0, 3);
        due("run()", x.run(), -1016);
        dueCounts("behind it", x, 0, 0, 0, 6, 1, 1, 0, 0, 0, 0, 0, 0, 0, 1, 21);
    }

    private static void runOfFailingActs() {
        promise = "10";
        dueFailure("t0;", 0);
        dueFailure("t201;", 0);
        dueFailure("t999;", 0);
        dueFailure("r4,0;", 0);
        dueFailure("r0,12;", 0);
        dueFailure("r100,0;", 0);
        dueFailure("w4,0=1;", 0);
        dueFailure("w0,12=1;", 0);
        dueFailure("w0,0=5;t10;r0,12;", 11);
        dueFailure("w0,0=5;t10;x;2(t1;(t0;))", 19);
        dueFailure("9(3(r0,0;))", 4);
        dueFailure("9(2(w0,0=1;))2(r1,1;t200;)2(r1,1;)9(r1,2;)t0;", 42);

        TwinPlates x = new TwinPlates();
        passOften(x, 99);
        due("pass(199)", x.pass(199), 0);
        x.write(0, 1, 5);
        withText(x, "t1;t1;");
        due("run() at 19999", x.run(), -1003);
        dueCounts("behind it", x, 19999, 0, 7, 1, 1, 1, 0, 0, 0, 0, 0, 0, 0, 5, 6);
        withText(x, "t1;x;");
        due("run() at 19999", x.run(), 2);
        due("count(0)", x.count(0), 20000);
        due("count(9)", x.count(9), 1);

        x = new TwinPlates();
        for (int ticks = 1; ticks <= 5; ticks++) {
            x.pass(ticks);
        }
        withText(x, "w0,0=1;t50;x;t0;");
        due("run()", x.run(), -1013);
        due("count(13)", x.count(13), 5);
        due("count(14)", x.count(14), 16);
        int[] ticks = {10, 6, 3, 1, 0};
        for (int i = 0; i < 5; i++) {
            due("undo() behind a failure", x.undo(), 4 - i);
            due("count(0)", x.count(0), ticks[i]);
        }
        due("undo()", x.undo(), ILLEGAL);

        x = new TwinPlates();
        x.write(0, 0, 5);
        x.pass(1);
        withText(x, "t1;t0;");
        due("run()", x.run(), -1003);
        due("cut() tears what was written before the program", x.cut(), 1);
    }

    private static void count() {
        promise = "11";
        TwinPlates x = withTornBlock();
        x.sweep();
        withText(x, "w1,1=11;w1,7=17;w1,2=3;w0,5=4;r0,0;t7;");
        due("run()", x.run(), 6);
        // The arm comes to the track 1 behind the tick 56; the ticks 57 to 61 see the
        // sectors 9 to 1 and 3 to 7, so 1, 7 and 2 are written and two of them wait to be copied.
        dueCounts("in the middle", x, 62, 1, 2, 8, 7, 3, 4, 0, 2, 0, 2, 1, 2, 5, 38);
        due("pass(1)", x.pass(1), 1);
        dueCounts("a tick later", x, 63, 1, 3, 9, 7, 2, 5, 0, 3, 0, 3, 1, 2, 5, 38);
        due("cut()", x.cut(), 1);
        dueCounts("cut", x, 63, 1, 3, 9, 7, 0, 5, 2, 0, 1, 3, 1, 2, 5, 38);
        int[] wrong = {-1, 15, LEAST, GREATEST};
        for (int what : wrong) {
            due("count(" + what + ")", x.count(what), INVALID);
        }
    }

    private static void copy() {
        promise = "12";
        TwinPlates x = new TwinPlates();
        x.write(3, 11, 999);
        x.pass(11);
        dueCopy("late", x, 0, 3, 11, 0, 0, 0, 1);
        dueCopy("written", x, 1, 3, 11, 999, 1, 0, 0);
        dueCopy("another one", x, 1, 3, 10, 0, 0, 0, 0);
        dueCopy("another one", x, 1, 2, 11, 0, 0, 0, 0);
        int[][] wrong = {{-1, 0, 0, 0}, {2, 0, 0, 0}, {0, -1, 0, 0}, {0, 4, 0, 0}, {0, 0, -1, 0}, {0, 0, 12, 0},
            {0, 0, 0, -1}, {0, 0, 0, 4}, {LEAST, 0, 0, 0}, {GREATEST, 0, 0, 0}, {0, LEAST, 0, 0}, {0, GREATEST, 0, 0},
            {0, 0, LEAST, 0}, {0, 0, GREATEST, 0}, {0, 0, 0, LEAST}, {0, 0, 0, GREATEST}};
        for (int[] w : wrong) {
            due("copy(" + w[0] + ", " + w[1] + ", " + w[2] + ", " + w[3] + ")",
                    x.copy(w[0], w[1], w[2], w[3]), INVALID);
        }
        due("count(13)", x.count(13), 2);
    }

    private static void order() {
        promise = "13";
        TwinPlates x = new TwinPlates();
        x.pass(4);
        x.write(0, 11, 12);
        x.read(0, 11);
        x.read(1, 9);
        dueOrder("waiting", x, 0, 1, 0, 11, 0, 4, NONE, NONE, 12);
        dueOrder("waiting", x, 1, 0, 0, 11, 0, 4, NONE, NONE, NONE);
        due("pass(100)", x.pass(100), 3);
        dueOrder("done", x, 0, 1, 0, 11, 1, 4, 5, 1, 12);
        dueOrder("done", x, 1, 0, 0, 11, 1, 4, 17, 1, 12);
        dueOrder("done", x, 2, 0, 1, 9, 1, 4, 21, 0, 0);
        x.write(2, 2, 0);
        x.read(2, 2);
        x.cut();
        dueOrder("lost", x, 3, 1, 2, 2, 2, 104, NONE, NONE, 0);
        dueOrder("lost", x, 4, 0, 2, 2, 2, 104, NONE, NONE, NONE);
        int[][] wrong = {{-1, 0}, {5, 0}, {60, 0}, {LEAST, 0}, {GREATEST, 0}, {0, -1}, {0, 8}, {0, LEAST},
            {0, GREATEST}, {5, 7}};
        for (int[] w : wrong) {
            due("order(" + w[0] + ", " + w[1] + ")", x.order(w[0], w[1]), INVALID);
        }
    }

    private static void waits() {
        promise = "14";
        TwinPlates x = new TwinPlates();
        int[] wrong = {-1, 3, LEAST, GREATEST};
        for (int what : wrong) {
            due("waits(" + what + ")", x.waits(what), INVALID);
        }
        x.read(1, 0);
        x.cut();
        x.read(0, 3);
        due("waits(0) when none is done", x.waits(0), 0);
        due("waits(1) when none is done", x.waits(1), NONE);
        due("waits(2) when none is done", x.waits(2), NONE);
        x.cut();
        x.read(0, 0);
        due("pass(1)", x.pass(1), 1);
        due("waits(0)", x.waits(0), 0);
        due("waits(1)", x.waits(1), 0);
        due("waits(2)", x.waits(2), 2);
        x.read(0, 10);
        x.read(0, 4);
        x.read(0, 9);
        due("pass(4) does all three", x.pass(4), 3);
        due("waits(0)", x.waits(0), 8);
        due("waits(1)", x.waits(1), 3);
        due("waits(2), of several the smallest", x.waits(2), 3);
        x.read(0, 4);
        due("pass(6)", x.pass(6), 1);
        due("waits(0)", x.waits(0), 13);
        due("waits(1)", x.waits(1), 5);
        due("waits(2)", x.waits(2), 6);
        due("count(13)", x.count(13), 5);
    }

    private static void nearer() {
        promise = "15";
        int[] sides = {0, 0, 0, 0, 0, 0, 1, 1, 1, 1, 1, 1};
        int[] ticks = {0, 1, 2, 3, 4, 5, 0, 1, 2, 3, 4, 5};
        TwinPlates x = new TwinPlates();
        for (int tick = 0; tick < 26; tick++) {
            x = new TwinPlates();
            for (int passed = 0; passed < tick; passed++) {
                x.pass(1);
            }
            for (int sector = 0; sector < 12; sector++) {
                int ahead = Math.floorMod(sector - tick, 12);
                due("tick " + tick + " nearer(" + sector + ", 0)", x.nearer(sector, 0), sides[ahead]);
                due("tick " + tick + " nearer(" + sector + ", 1)", x.nearer(sector, 1), ticks[ahead]);
            }
        }
        int[][] wrong = {{-1, 0}, {12, 0}, {0, -1}, {0, 2}, {LEAST, 0}, {GREATEST, 0}, {0, LEAST}, {0, GREATEST}};
        for (int[] w : wrong) {
            due("nearer(" + w[0] + ", " + w[1] + ")", x.nearer(w[0], w[1]), INVALID);
        }
    }

    private static void doneIn() {
        promise = "16";
        TwinPlates x = new TwinPlates();
        due("doneIn(0) without orders", x.doneIn(0), INVALID);
        x.read(0, 0);
        x.read(0, 0);
        x.read(3, 0);
        x.write(0, 5, 1);
        due("doneIn(0)", x.doneIn(0), 1);
        due("doneIn(1)", x.doneIn(1), 7);
        due("doneIn(3)", x.doneIn(3), 6);
        // The late copy of 0, 5 is written in the tick 11; the arm moves in 12 to 14.
        due("doneIn(2)", x.doneIn(2), 19);
        due("pass(1)", x.pass(1), 1);
        due("doneIn(0)", x.doneIn(0), 0);
        due("doneIn(1)", x.doneIn(1), 6);
        due("doneIn(2)", x.doneIn(2), 18);
        due("doneIn(4)", x.doneIn(4), INVALID);
        due("doneIn(-1)", x.doneIn(-1), INVALID);
        due("doneIn least", x.doneIn(LEAST), INVALID);
        due("doneIn greatest", x.doneIn(GREATEST), INVALID);
        x.cut();
        due("doneIn(0)", x.doneIn(0), 0);
        due("doneIn(1) of a lost one", x.doneIn(1), NONE);

        x = withTornBlock();
        x.read(0, 0);
        x.read(3, 0);
        due("doneIn(2) of a block torn twice", x.doneIn(2), NONE);
        due("doneIn(3) on a track that is never reached", x.doneIn(3), NONE);
        x.write(0, 0, 4);
        due("doneIn(4)", x.doneIn(4), 6);
        due("doneIn(2)", x.doneIn(2), 18);
        due("doneIn(0)", x.doneIn(0), 0);

        x = new TwinPlates();
        for (int order = 0; order < 20; order++) {
            x.write(0, 0, order);
        }
        due("doneIn(19)", x.doneIn(19), 229);
        due("pass(200)", x.pass(200), 17);
        due("doneIn(19)", x.doneIn(19), 29);

        x = new TwinPlates();
        passOften(x, 100);
        x.read(0, 0);
        due("doneIn(0) beyond the tick 20000", x.doneIn(0), 5);
        due("pass(1)", x.pass(1), ILLEGAL);
    }

    private static void idleIn() {
        promise = "17";
        TwinPlates x = new TwinPlates();
        due("idleIn()", x.idleIn(), 0);
        x.read(0, 0);
        due("idleIn()", x.idleIn(), 1);
        x.write(0, 0, 5);
        // Written at 0, copied at 6, read at 12.
        due("idleIn()", x.idleIn(), 13);
        due("pass(12)", x.pass(12), 1);
        due("idleIn()", x.idleIn(), 1);
        due("pass(1)", x.pass(1), 1);
        due("idleIn()", x.idleIn(), 0);
        x.write(1, 3, 5);
        due("pass(3) writes at 15", x.pass(3), 1);
        due("idleIn() until the copy is not late", x.idleIn(), 6);
        x.cut();
        due("idleIn()", x.idleIn(), 0);

        x = withTornBlock();
        due("idleIn()", x.idleIn(), 0);
        x.read(0, 0);
        due("idleIn() with a block torn twice", x.idleIn(), NONE);

        x = new TwinPlates();
        for (int order = 0; order < 20; order++) {
            x.write(0, 0, order);
        }
        due("idleIn()", x.idleIn(), 235);

        x = new TwinPlates();
        passOften(x, 100);
        x.write(0, 0, 5);
        due("idleIn() beyond the tick 20000", x.idleIn(), 11);
    }

    private static void wouldWipe() {
        promise = "18";
        TwinPlates x = new TwinPlates();
        due("wouldWipe()", x.wouldWipe(), 0);
        x.write(0, 0, 5);
        x.write(0, 6, 5);
        due("pass(1)", x.pass(1), 2);
        due("wouldWipe(): one copy would be torn", x.wouldWipe(), 0);
        x.cut();
        due("wouldWipe(): one copy is torn", x.wouldWipe(), 0);
        x.write(0, 0, 6);
        x.write(0, 6, 6);
        x.write(0, 1, 6);
        due("pass(5)", x.pass(5), 1);
        due("wouldWipe()", x.wouldWipe(), 0);
        due("pass(1)", x.pass(1), 2);
        due("wouldWipe(): the other ones would be torn", x.wouldWipe(), 2);
        due("pass(1)", x.pass(1), 0);
        due("wouldWipe() a tick later", x.wouldWipe(), 0);
        due("undo()", x.undo(), 4);
        due("wouldWipe()", x.wouldWipe(), 2);
        due("cut()", x.cut(), 2);
        due("wouldWipe(): both are torn", x.wouldWipe(), 2);
        due("sweep()", x.sweep(), 1);
        due("count(11)", x.count(11), 2);
        due("wouldWipe(): they are wiped", x.wouldWipe(), 0);

        x = withTornBlock();
        passOften(x, 99);
        due("wouldWipe() when the tick is bounded for sweep()", x.wouldWipe(), 1);
        due("pass(193)", x.pass(193), 0);
        due("sweep()", x.sweep(), ILLEGAL);
        due("wouldWipe() at 20000", x.wouldWipe(), 1);
        due("count(11)", x.count(11), 0);
    }

    private static void forecastsChangeNothing() {
        promise = "15 to 18";
        TwinPlates x = new TwinPlates();
        x.write(0, 0, 5);
        x.pass(1);
        x.read(2, 3);
        x.write(3, 3, 3);
        for (int i = 0; i < 2; i++) {
            dueCounts("forecast " + i, x, 1, 0, 1, 7, 3, 2, 1, 0, 1, 0, 1, 0, 0, 4, 0);
            dueOrder("forecast " + i, x, 1, 0, 2, 3, 0, 1, NONE, NONE, NONE);
            dueCopy("forecast " + i, x, 1, 0, 0, 0, 0, 0, 1);
            due("wouldWipe()", x.wouldWipe(), 0);
            // Copied at 6, moved at 7 and 8, read at 9 by the side 1, moved at 10, written at 15.
            due("doneIn(1)", x.doneIn(1), 9);
            due("doneIn(2)", x.doneIn(2), 15);
            due("idleIn()", x.idleIn(), 21);
            due("nearer(0, 1)", x.nearer(0, 1), 5);
        }
        due("undo()", x.undo(), 3);
        due("count(4)", x.count(4), 2);
    }
}
