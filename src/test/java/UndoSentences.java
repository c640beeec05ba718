/** What stands under "Undo". */
final class UndoSentences {
    private static final String HEAD = "Undo";

    private UndoSentences() {
    }

    @Sentence(head = HEAD, says = "A history of at most 5 states is kept;")
    static void promise7_aHistoryOfAtMost5StatesIsKept() {
        Run x = new Run().due("count(13) = 0");
        for (int states = 1; states <= 5; states++) {
            x.due("pass(1) = 0", "count(13) = " + states);
        }
        x.due("pass(1) = 0", "count(13) = 5", "pass(1) = 0", "count(13) = 5");
    }

    @Sentence(head = HEAD, says = "a state is everything but the text and the history.")
    static void promise7_theTextIsNoPartOfAState() {
        Run x = new Run().due("append(120) = 1", "pass(1) = 0", "append(59) = 2", "pass(1) = 0", "undo() = 1",
                "count(14) = 2", "undo() = 0", "count(14) = 2", "run() = 1");
        x.due("clearText() = 2", "undo() = 0", "count(14) = 0", "append(49) = 1", "undo() = ILLEGAL_STATE", "count(14) = 1");
        // The full text stays, and the empty one.
        Run y = new Run().due("pass(1) = 0");
        y.times(80, "append(120)");
        y.due("undo() = 0", "count(14) = 80", "append(120) = CAPACITY_EXCEEDED", "pass(1) = 0", "clearText() = 80",
                "undo() = 0", "count(14) = 0", "run() = 0");
    }

    @Sentence(head = HEAD, says = "a state is everything but the text and the history.")
    static void promise7_allElseIsPartOfAState() {
        String[] actions = {"read(3, 11) = 4", "write(0, 8, 999) = 4", "pass(1) = 0", "pass(200) = 2", "cut() = 1",
            "run() = 2"};
        for (String action : actions) {
            Alike.unchanged(Made::busyWithRoom, action, "undo() = 2");
        }
        // The arm, the moves and the wiped blocks; a sweep and what it repairs.
        Alike.unchanged(x -> {
            x.text("w0,0=5;t1;x;w0,0=6;t6;x;w0,1=1;t9;w1,1=1;t8;x;").due("run() = 11", "count(9) = 2");
        }, "sweep() = 1", "undo() = 1");
        // A state that is not the latest one.
        Alike.unchanged(Made::busyWithRoom, "pass(9) = 1", "cut() = 0", "sweep() = 1", "undo() = 4", "undo() = 3", "undo() = 2");
    }

    @Sentence(head = HEAD, says = "a state is everything but the text and the history.")
    static void promise7_whatACutWouldTearIsPartOfAState() {
        // Written in the tick before; a tick later it is not, and behind undo() it is again.
        new Run().due("write(0, 0, 5) = 0", "pass(1) = 1", "pass(1) = 0", "undo() = 2", "cut() = 1", "undo() = 2",
                "cut() = 1", "undo() = 2", "undo() = 1", "cut() = 0", "undo() = 1", "undo() = 0", "cut() = 0");
    }

    @Sentence(head = HEAD, says = "Every successful call of a method that is called an action records the state before it")
    static void promise7_everySuccessfulActionAndNothingElseRecordsAState() {
        Run x = new Run().due("read(0, 0) = 0", "count(13) = 1", "write(0, 0, 0) = 1", "count(13) = 2", "pass(1) = 1",
                "count(13) = 3", "cut() = 1", "count(13) = 4", "sweep() = 1", "count(13) = 5");
        x.due("undo() = 4", "run() = 0", "count(13) = 5", "undo() = 4", "undo() = 3", "count(13) = 3");
        // Refused actions, and calls that are no actions.
        x.due("read(4, 0) = INVALID_ARGUMENT", "write(0, 0, 1000) = INVALID_ARGUMENT", "pass(0) = INVALID_ARGUMENT",
                "sweep() = ILLEGAL_STATE", "append(121) = 1", "run() = -1000", "clearText() = 1", "count(0) = 1",
                "copy(0, 0, 0, 0) = 0", "order(0, 0) = 0", "waits(0) = 0", "nearer(0, 0) = 1", "doneIn(0) = 12",
                "idleIn() = 12", "wouldWipe() = 0", "count(13) = 3");
        x.due("undo() = 2", "count(0) = 0", "count(5) = 2");
    }

    @Sentence(head = HEAD, says = "(also if nothing changes by it);")
    static void promise7_anActionByWhichNothingChangesRecordsAStateToo() {
        new Run().due("cut() = 0", "count(13) = 1", "cut() = 0", "count(13) = 2", "run() = 0", "count(13) = 3")
                .text("9(9())").due("run() = 0", "count(13) = 4", "undo() = 3", "undo() = 2", "undo() = 1", "undo() = 0",
                "undo() = ILLEGAL_STATE");
    }

    @Sentence(head = HEAD, says = "when a sixth one is recorded, the oldest one is dropped.")
    static void promise7_whenASixthOneIsRecordedTheOldestOneIsDropped() {
        // Five: the first state can be restored.
        Run x = new Run();
        for (int ticks = 1; ticks <= 5; ticks++) {
            x.due("pass(" + ticks + ") = 0");
        }
        x.times(5, "undo()").due("count(0) = 0", "undo() = ILLEGAL_STATE");
        // Six and seven: it can't, but the later ones can.
        Run y = new Run();
        for (int ticks = 1; ticks <= 6; ticks++) {
            y.due("pass(" + ticks + ") = 0");
        }
        y.due("undo() = 4", "count(0) = 15", "undo() = 3", "count(0) = 10", "undo() = 2", "count(0) = 6",
                "undo() = 1", "count(0) = 3", "undo() = 0", "count(0) = 1", "undo() = ILLEGAL_STATE", "count(0) = 1");
        Run z = new Run();
        for (int ticks = 1; ticks <= 17; ticks++) {
            z.due("pass(" + ticks + ") = 0");
        }
        z.due("undo() = 4", "count(0) = 136", "cut() = 0", "pass(1) = 0", "undo() = 4", "undo() = 3",
                "count(0) = 136", "undo() = 2", "count(0) = 120", "undo() = 1", "count(0) = 105", "undo() = 0",
                "count(0) = 91", "undo() = ILLEGAL_STATE");
        // A refused sixth one drops none.
        new Run().times(5, "pass(1) = 0").text("y").due("pass(0) = INVALID_ARGUMENT", "read(0, 12) = INVALID_ARGUMENT",
                "run() = -1000").times(5, "undo()").due("count(0) = 0", "undo() = ILLEGAL_STATE");
    }

    @Sentence(head = HEAD, says = "undo() removes the latest state from the history and restores it.")
    static void promise7_undoRestoresTheLatestStateAndRemovesIt() {
        new Run().due("pass(3) = 0", "pass(4) = 0", "undo() = 1", "count(0) = 3", "count(13) = 1", "undo() = 0",
                "count(0) = 0", "count(13) = 0");
        // It is no action itself: what is undone is gone.
        new Run().due("pass(3) = 0", "undo() = 0", "undo() = ILLEGAL_STATE", "count(0) = 0");
        // The number of an order that is undone is given again.
        new Run().due("read(0, 0) = 0", "read(1, 1) = 1", "undo() = 1", "order(1, 0) = INVALID_ARGUMENT",
                "write(2, 2, 2) = 1", "order(1, 0) = 1");
    }
}
