/** What stands under the promises 4 to 7: pass, cut, sweep and undo. */
final class TimePromises {
    private static final String PASS = "Promise 4: pass";
    private static final String CUT = "Promise 5: cut";
    private static final String SWEEP = "Promise 6: sweep";
    private static final String UNDO = "Promise 7: undo";

    private TimePromises() {
    }

    @Sentence(head = PASS, says = "Lets ticks go by. This is an action.")
    static void promise4_passIsAnAction() {
        new Run().due("pass(1) = 0", "count(13) = 1", "pass(200) = 0", "count(13) = 2", "count(0) = 201",
                "undo() = 1", "count(0) = 1", "undo() = 0", "count(0) = 0");
    }

    @Sentence(head = PASS, says = {"- `ticks`: 1 to 200", "INVALID_ARGUMENT if ticks is out of range;"})
    static void promise4_ticksAre1To200() {
        new Run().due("pass(1) = 0", "count(0) = 1", "pass(200) = 0", "count(0) = 201", "pass(0) = INVALID_ARGUMENT",
                "pass(201) = INVALID_ARGUMENT", "pass(-1) = INVALID_ARGUMENT", "pass(LEAST) = INVALID_ARGUMENT",
                "pass(GREATEST) = INVALID_ARGUMENT", "count(0) = 201", "count(13) = 2");
    }

    @Sentence(head = PASS, says = "Returns the number of orders that are done in them;")
    static void promise4_returnsTheNumberOfOrdersThatAreDoneInThem() {
        // None, one in the last of the ticks, none of those done before, and all twenty.
        new Run().due("pass(1) = 0", "read(0, 6) = 0", "pass(5) = 0", "pass(1) = 1", "pass(1) = 0");
        new Run().due("read(0, 5) = 0", "pass(6) = 1", "pass(6) = 0");
        Run x = new Run();
        Made.twentyWait(x);
        x.due("pass(200) = 20", "pass(200) = 0", "count(6) = 20");
        // Those that wait on, and those that are lost, are not counted.
        new Run().due("read(0, 0) = 0", "read(0, 1) = 1", "read(0, 2) = 2", "pass(2) = 2", "cut() = 0", "pass(2) = 0");
    }

    @Sentence(head = PASS, says = "ILLEGAL_STATE if the tick would be greater than 20000.")
    static void promise4_theTickMayBe20000AndNoMore() {
        Run x = new Run();
        Made.atTick(x, 19800);
        x.due("pass(200) = 0", "count(0) = 20000", "pass(1) = ILLEGAL_STATE", "pass(200) = ILLEGAL_STATE", "count(0) = 20000");
        Run y = new Run();
        Made.atTick(y, 19801);
        y.due("pass(200) = ILLEGAL_STATE", "count(0) = 19801", "pass(199) = 0", "count(0) = 20000");
        Run z = new Run();
        Made.atTick(z, 19999);
        z.due("pass(2) = ILLEGAL_STATE", "count(0) = 19999", "pass(1) = 0", "count(0) = 20000", "undo() = 4",
                "count(0) = 19999", "pass(1) = 0");
        // The last tick does what is to be done: it is numbered 19999.
        Run w = new Run();
        Made.atTick(w, 19999);
        w.due("count(2) = 7", "read(0, 7) = 0", "pass(1) = 1", "order(0, 5) = 19999", "read(0, 8) = 1",
                "pass(1) = ILLEGAL_STATE", "order(1, 3) = 0", "order(1, 4) = 20000");
    }

    @Sentence(head = CUT, says = "Cuts the power. This is an action.")
    static void promise5_cutIsAnAction() {
        new Run().due("cut() = 0", "count(13) = 1", "read(0, 0) = 0", "cut() = 0", "count(13) = 3", "count(7) = 1",
                "undo() = 2", "count(7) = 0", "count(5) = 1");
    }

    @Sentence(head = CUT, says = "Returns the number of copies that are torn by it")
    static void promise5_returnsTheNumberOfCopiesTornByIt() {
        new Run().due("cut() = 0");
        new Run().due("write(0, 0, 5) = 0", "pass(1) = 1", "cut() = 1");
        new Run().due("write(0, 0, 5) = 0", "write(0, 6, 5) = 1", "pass(1) = 2", "cut() = 2");
        // Not of orders that are lost, and not of copies that are late no more.
        new Run().due("write(0, 0, 5) = 0", "pass(2) = 1", "read(1, 1) = 1", "read(1, 2) = 2", "cut() = 0", "count(7) = 2");
    }

    @Sentence(head = CUT, says = "(torn ones that were torn before not counted).")
    static void promise5_copiesThatWereTornBeforeAreNotCounted() {
        new Run().due("write(0, 0, 5) = 0", "write(0, 6, 5) = 1", "pass(1) = 2", "cut() = 2", "cut() = 0", "count(9) = 2");
        // One was torn before, another one is torn now.
        new Run().due("write(0, 0, 5) = 0", "pass(1) = 1", "cut() = 1", "write(0, 0, 6) = 1", "pass(6) = 1", "cut() = 1",
                "count(9) = 2", "cut() = 0", "count(9) = 2");
        // One that was torn, and was made whole by a write since, counts again.
        new Run().due("write(0, 0, 5) = 0", "pass(1) = 1", "cut() = 1", "pass(11) = 0", "write(0, 0, 6) = 1", "pass(1) = 1",
                "count(9) = 0", "cut() = 1", "count(9) = 1");
    }

    @Sentence(head = SWEEP, says = "Sweeps. This is an action.")
    static void promise6_sweepIsAnAction() {
        new Run().due("sweep() = 0", "count(13) = 1", "count(0) = 48", "undo() = 0", "count(0) = 0", "count(1) = 0");
    }

    @Sentence(head = SWEEP, says = "Returns the number of copies that took a value from the other side;")
    static void promise6_returnsTheNumberOfCopiesThatTookAValue() {
        new Run().due("sweep() = 0");
        new Run().due("write(0, 0, 5) = 0", "pass(1) = 1", "cut() = 1", "sweep() = 1", "sweep() = 0");
        // On both sides; a wiped block takes none.
        new Run().due("write(0, 0, 5) = 0", "write(0, 6, 5) = 1", "pass(2) = 2", "cut() = 0", "sweep() = 2");
        Run x = new Run();
        Made.tornTwice(x);
        x.due("write(0, 11, 5) = 2", "pass(5) = 1", "cut() = 1", "count(9) = 3", "sweep() = 1", "count(11) = 1");
    }

    @Sentence(head = SWEEP, says = "ILLEGAL_STATE if an order waits,")
    static void promise6_notIfAnOrderWaits() {
        // A single read or write, of the first block or the last one; one that is done or lost doesn't matter.
        new Run().due("read(0, 0) = 0", "sweep() = ILLEGAL_STATE", "pass(1) = 1", "sweep() = 0");
        new Run().due("write(3, 11, 0) = 0", "sweep() = ILLEGAL_STATE", "count(0) = 0", "cut() = 0", "sweep() = 0");
        new Run().due("read(3, 11) = 0", "sweep() = ILLEGAL_STATE", "undo() = 0", "sweep() = 0");
        // A read that can't be done.
        Run x = new Run();
        Made.tornTwice(x);
        x.due("read(0, 0) = 2", "pass(200) = 0", "sweep() = ILLEGAL_STATE");
    }

    @Sentence(head = SWEEP, says = "a copy is late,")
    static void promise6_notIfACopyIsLate() {
        // A single one, of the side 1 or 0, until the tick in which it is copied.
        new Run().due("write(0, 0, 5) = 0", "pass(1) = 1", "count(5) = 0", "sweep() = ILLEGAL_STATE", "pass(5) = 0",
                "sweep() = ILLEGAL_STATE", "pass(1) = 0", "sweep() = 0");
        new Run().due("write(0, 6, 5) = 0", "pass(1) = 1", "count(5) = 0", "sweep() = ILLEGAL_STATE", "pass(5) = 0",
                "sweep() = ILLEGAL_STATE", "pass(1) = 0", "sweep() = 0");
        new Run().due("write(0, 0, 5) = 0", "pass(1) = 1", "sweep() = ILLEGAL_STATE", "cut() = 1", "sweep() = 1");
        // On the last track and sector.
        new Run().due("write(3, 11, 5) = 0", "pass(6) = 1", "count(5) = 0", "sweep() = ILLEGAL_STATE", "pass(6) = 0",
                "sweep() = 0");
    }

    @Sentence(head = SWEEP, says = "or the tick would be greater than 20000.")
    static void promise6_theTickMayBe20000AndNoMore() {
        Run x = new Run();
        Made.atTick(x, 19952);
        x.due("sweep() = 0", "count(0) = 20000", "sweep() = ILLEGAL_STATE", "count(0) = 20000");
        Run y = new Run();
        Made.atTick(y, 19953);
        y.due("sweep() = ILLEGAL_STATE", "count(0) = 19953", "count(1) = 0");
    }

    @Sentence(head = UNDO, says = "Removes the latest state from the history and restores it.")
    static void promise7_undoRemovesAndRestoresTheLatestState() {
        new Run().due("read(0, 0) = 0", "pass(1) = 1", "undo() = 1", "count(13) = 1", "count(0) = 0", "order(0, 3) = 0",
                "undo() = 0", "count(13) = 0", "order(0, 3) = INVALID_ARGUMENT");
    }

    @Sentence(head = UNDO, says = "Returns the number of states that are left in the history;")
    static void promise7_returnsTheNumberOfStatesThatAreLeft() {
        new Run().times(5, "pass(1) = 0").due("undo() = 4", "undo() = 3", "undo() = 2", "undo() = 1", "undo() = 0");
        new Run().times(9, "pass(1) = 0").due("undo() = 4", "pass(1) = 0", "undo() = 4", "undo() = 3");
        new Run().due("cut() = 0", "undo() = 0");
    }

    @Sentence(head = UNDO, says = "ILLEGAL_STATE if it is empty.")
    static void promise7_notIfTheHistoryIsEmpty() {
        new Run().due("undo() = ILLEGAL_STATE", "count(13) = 0", "pass(1) = 0", "undo() = 0", "undo() = ILLEGAL_STATE",
                "undo() = ILLEGAL_STATE", "count(0) = 0", "pass(1) = 0", "count(13) = 1", "undo() = 0");
        // A refused action doesn't fill it, nor does a text.
        new Run().due("pass(0) = INVALID_ARGUMENT", "append(120) = 1", "run() = -1001", "undo() = ILLEGAL_STATE");
    }
}
