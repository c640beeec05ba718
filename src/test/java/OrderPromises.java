/** What stands under the promises 1 to 3: a new object, read and write. */
final class OrderPromises {
    private static final String NEW = "Promise 1: A new object";
    private static final String READ = "Promise 2: read";
    private static final String WRITE = "Promise 3: write";

    private OrderPromises() {
    }

    @Sentence(head = NEW, says = "Creates plates whose copies are all alike,")
    static void promise1_allCopiesAreAlike() {
        Run x = new Run();
        for (int block = 0; block < 48; block++) {
            x.copy(0, block / 12, block % 12, 0, 0, 0, 0).copy(1, block / 12, block % 12, 0, 0, 0, 0);
        }
        x.due("count(8) = 0", "count(9) = 0", "count(10) = 0", "count(11) = 0");
    }

    @Sentence(head = NEW, says = "at the tick 0,")
    static void promise1_atTheTick0() {
        // Another object that was used before leaves nothing behind.
        Made.busy(new Run());
        new Run().counts(0, 0, 0, 6, 0, 0, 0, 0, 0, 0, 0, 0, 0, 0, 0);
    }

    @Sentence(head = NEW, says = "without orders.")
    static void promise1_withoutOrders() {
        new Run().due("count(4) = 0", "count(5) = 0", "order(0, 0) = INVALID_ARGUMENT", "doneIn(0) = INVALID_ARGUMENT",
                "waits(0) = 0", "waits(1) = NONE", "idleIn() = 0", "undo() = ILLEGAL_STATE", "run() = 0");
    }

    @Sentence(head = "What it is", says = "An object is used for at most 512 calls after it has been made;")
    static void promise1_theLastOf512CallsIsAnsweredToo() {
        Run x = new Run();
        while (x.calls() < Run.MOST_CALLS - 3) {
            x.due(x.calls() % 3 == 0 ? "cut() = 0" : "count(5) = 0");
        }
        x.due("read(0, 0) = 0", "pass(1) = 1", "count(13) = 5");
        Due.is("calls", x.calls(), 512);
    }

    @Sentence(head = READ, says = "Takes an order to read a block. This is an action.")
    static void promise2_readIsAnAction() {
        new Run().due("read(1, 2) = 0", "count(13) = 1", "read(1, 2) = 1", "count(13) = 2", "order(1, 0) = 0", "count(5) = 2",
                "undo() = 1", "count(5) = 1", "undo() = 0", "count(5) = 0", "count(4) = 0");
    }

    @Sentence(head = READ, says = {"- `track`: 0 to 3", "INVALID_ARGUMENT if an argument is out of range;"})
    static void promise2_trackIs0To3() {
        new Run().due("read(0, 5) = 0", "order(0, 1) = 0", "read(3, 5) = 1", "order(1, 1) = 3",
                "read(-1, 5) = INVALID_ARGUMENT", "read(4, 5) = INVALID_ARGUMENT", "read(LEAST, 5) = INVALID_ARGUMENT",
                "read(GREATEST, 5) = INVALID_ARGUMENT", "count(4) = 2", "count(13) = 2");
    }

    @Sentence(head = READ, says = "- `sector`: 0 to 11")
    static void promise2_sectorIs0To11() {
        new Run().due("read(2, 0) = 0", "order(0, 2) = 0", "read(2, 11) = 1", "order(1, 2) = 11",
                "read(2, -1) = INVALID_ARGUMENT", "read(2, 12) = INVALID_ARGUMENT", "read(2, LEAST) = INVALID_ARGUMENT",
                "read(2, GREATEST) = INVALID_ARGUMENT", "count(4) = 2", "count(13) = 2");
    }

    @Sentence(head = READ, says = "Returns the number of the order;")
    static void promise2_returnsTheNumberFrom0To59() {
        Run x = new Run();
        for (int order = 0; order < 60; order++) {
            x.due("read(0, 5) = " + order, "pass(6) = 1");
        }
        x.due("order(59, 0) = 0", "order(60, 0) = INVALID_ARGUMENT", "count(4) = 60", "count(6) = 60");
    }

    @Sentence(head = READ, says = "CAPACITY_EXCEEDED if 60 orders were taken,")
    static void promise2_noRoomIf60OrdersWereTaken() {
        // None of them waits; they are lost, or done.
        Run x = new Run();
        Made.lost(x, 59);
        x.due("count(5) = 0", "read(0, 0) = 59", "pass(1) = 1", "count(5) = 0", "read(0, 0) = CAPACITY_EXCEEDED",
                "read(3, 11) = CAPACITY_EXCEEDED", "cut() = 0", "sweep() = 0", "read(0, 0) = CAPACITY_EXCEEDED");
        // An order that is undone was not taken.
        Run y = new Run();
        Made.lost(y, 59);
        y.due("read(0, 0) = 59", "read(0, 0) = CAPACITY_EXCEEDED", "undo() = 4", "count(4) = 59", "read(1, 1) = 59",
                "read(0, 0) = CAPACITY_EXCEEDED");
    }

    @Sentence(head = READ, says = "or 20 wait.")
    static void promise2_noRoomIf20Wait() {
        Run x = new Run();
        for (int order = 0; order < 20; order++) {
            x.due("count(5) = " + order, "read(0, 0) = " + order);
        }
        x.due("read(0, 0) = CAPACITY_EXCEEDED", "read(1, 1) = CAPACITY_EXCEEDED", "pass(1) = 1", "count(5) = 19",
                "read(1, 1) = 20", "read(1, 1) = CAPACITY_EXCEEDED", "undo() = 4", "count(5) = 19", "read(2, 2) = 20");
    }

    @Sentence(head = WRITE, says = "Takes an order to write a block. This is an action.")
    static void promise3_writeIsAnAction() {
        new Run().due("write(1, 2, 3) = 0", "count(13) = 1", "write(1, 2, 3) = 1", "count(13) = 2", "order(1, 0) = 1",
                "count(5) = 2", "undo() = 1", "count(5) = 1", "undo() = 0", "count(5) = 0", "count(4) = 0");
    }

    @Sentence(head = WRITE, says = {"- `track`: 0 to 3", "INVALID_ARGUMENT if an argument is out of range;"})
    static void promise3_trackIs0To3() {
        new Run().due("write(0, 5, 6) = 0", "order(0, 1) = 0", "write(3, 5, 6) = 1", "order(1, 1) = 3",
                "write(-1, 5, 6) = INVALID_ARGUMENT", "write(4, 5, 6) = INVALID_ARGUMENT",
                "write(LEAST, 5, 6) = INVALID_ARGUMENT", "write(GREATEST, 5, 6) = INVALID_ARGUMENT", "count(4) = 2",
                "count(13) = 2");
    }

    @Sentence(head = WRITE, says = "- `sector`: 0 to 11")
    static void promise3_sectorIs0To11() {
        new Run().due("write(2, 0, 6) = 0", "order(0, 2) = 0", "write(2, 11, 6) = 1", "order(1, 2) = 11",
                "write(2, -1, 6) = INVALID_ARGUMENT", "write(2, 12, 6) = INVALID_ARGUMENT",
                "write(2, LEAST, 6) = INVALID_ARGUMENT", "write(2, GREATEST, 6) = INVALID_ARGUMENT", "count(4) = 2",
                "count(13) = 2");
    }

    @Sentence(head = WRITE, says = "- `value`: 0 to 999")
    static void promise3_valueIs0To999() {
        new Run().due("write(2, 5, 0) = 0", "order(0, 7) = 0", "write(2, 5, 999) = 1", "order(1, 7) = 999",
                "write(2, 5, -1) = INVALID_ARGUMENT", "write(2, 5, 1000) = INVALID_ARGUMENT",
                "write(2, 5, LEAST) = INVALID_ARGUMENT", "write(2, 5, GREATEST) = INVALID_ARGUMENT", "count(4) = 2",
                "count(13) = 2");
    }

    @Sentence(head = WRITE, says = "Returns the number of the order;")
    static void promise3_returnsTheNumberFrom0To59() {
        Run x = new Run();
        for (int order = 0; order < 60; order++) {
            // Each is done at the sector 5 or 11 by one head, and copied by the other one half a turn later.
            x.due("write(0, 5, " + order + ") = " + order, "pass(12) = 1");
        }
        x.due("order(59, 0) = 1", "order(60, 0) = INVALID_ARGUMENT", "count(4) = 60", "count(6) = 60",
                "copy(0, 0, 5, 1) = 60");
    }

    @Sentence(head = WRITE, says = "CAPACITY_EXCEEDED if 60 orders were taken,")
    static void promise3_noRoomIf60OrdersWereTaken() {
        Run x = new Run();
        Made.lost(x, 59);
        x.due("count(5) = 0", "write(0, 0, 7) = 59", "pass(1) = 1", "count(5) = 0", "write(0, 0, 7) = CAPACITY_EXCEEDED",
                "write(3, 11, 0) = CAPACITY_EXCEEDED", "cut() = 1", "sweep() = 1", "write(0, 0, 7) = CAPACITY_EXCEEDED");
        Run y = new Run();
        Made.lost(y, 59);
        y.due("write(0, 0, 7) = 59", "write(0, 0, 7) = CAPACITY_EXCEEDED", "undo() = 4", "count(4) = 59",
                "write(1, 1, 7) = 59", "write(0, 0, 7) = CAPACITY_EXCEEDED");
    }

    @Sentence(head = WRITE, says = "or 20 wait.")
    static void promise3_noRoomIf20Wait() {
        Run x = new Run();
        for (int order = 0; order < 20; order++) {
            x.due("count(5) = " + order, "write(0, 0, 7) = " + order);
        }
        x.due("write(0, 0, 7) = CAPACITY_EXCEEDED", "write(1, 1, 7) = CAPACITY_EXCEEDED", "pass(1) = 1", "count(5) = 19",
                "write(1, 1, 7) = 20", "write(1, 1, 7) = CAPACITY_EXCEEDED", "undo() = 4", "count(5) = 19",
                "write(2, 2, 7) = 20");
    }
}
