/** States to begin a test with, each made by calls on a new object. */
final class Made {
    private Made() {
    }

    /**
     * At the tick 2: the side 0 of 0, 0 is torn, a head has written 0, 7 in the tick before,
     * whose other copy is late, a write of the track 0 and a read of the track 3 wait,
     * the history is full and a text stands. Seven actions, four orders.
     */
    static void busy(Run x) {
        x.due("write(0, 0, 5) = 0", "pass(1) = 1", "cut() = 1");
        x.due("write(0, 7, 7) = 1", "write(0, 3, 8) = 2", "read(3, 3) = 3", "pass(1) = 1");
        x.text("t5;w1,1=1;");
    }

    /** The same, but for the history, in which there is room. */
    static void busyWithRoom(Run x) {
        x.text("w0,0=5;t1;x;").due("run() = 3");
        x.text("w0,7=7;w0,3=8;r3,3;t1;").due("run() = 4");
        x.text("t5;w1,1=1;");
    }

    /** At the tick 7: each copy of 0, 0 is torn, and two orders are done; five actions at least. */
    static void tornTwice(Run x) {
        x.due("write(0, 0, 5) = 0", "pass(1) = 1", "cut() = 1");
        x.due("write(0, 0, 6) = 1", "pass(6) = 1", "cut() = 1");
    }

    /** At the tick 0: twenty orders wait, reads and writes by turns, all of the track 2. */
    static void twentyWait(Run x) {
        for (int order = 0; order < 20; order += 2) {
            x.due("read(2, 4) = " + order, "write(2, 5, 6) = " + (order + 1));
        }
    }

    /** At the tick 0: as many orders were taken, and all of them are lost. */
    static void lost(Run x, int orders) {
        for (int order = 0; order < orders; order++) {
            x.due("read(2, 4) = " + order);
            if (order % 20 == 19 || order == orders - 1) {
                x.due("cut() = 0");
            }
        }
    }

    /** At a tick, without orders. */
    static void atTick(Run x, int tick) {
        x.times(tick / 200, "pass(200) = 0");
        if (tick % 200 != 0) {
            x.due("pass(" + tick % 200 + ") = 0");
        }
    }
}
