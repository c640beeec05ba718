/** What stands under "Errors". */
final class ErrorSentences {
    private static final String HEAD = "Errors";
    private static final String CHANGES_NOTHING = "A call that returns an error code changes nothing.";
    private static final String FIRST_LISTED =
            "If several error conditions apply, the method returns the one that its description lists first;";
    private static final String NONE_IS_NO_ERROR =
            "NONE is no error, and it is returned only if no error condition applies.";

    private ErrorSentences() {
    }

    @Sentence(head = HEAD, says = CHANGES_NOTHING)
    static void promise2_aRefusedReadChangesNothing() {
        Alike.eachUnchanged(Made::busy, "read(-1, 0) = INVALID_ARGUMENT", "read(4, 0) = INVALID_ARGUMENT",
                "read(0, -1) = INVALID_ARGUMENT", "read(0, 12) = INVALID_ARGUMENT");
        Alike.unchanged(Made::busyWithRoom, "read(0, 12) = INVALID_ARGUMENT");
        Alike.unchanged(Made::twentyWait, "read(0, 0) = CAPACITY_EXCEEDED");
        Alike.unchanged(x -> Made.lost(x, 60), "read(0, 0) = CAPACITY_EXCEEDED");
    }

    @Sentence(head = HEAD, says = CHANGES_NOTHING)
    static void promise3_aRefusedWriteChangesNothing() {
        Alike.eachUnchanged(Made::busy, "write(-1, 0, 0) = INVALID_ARGUMENT", "write(4, 0, 0) = INVALID_ARGUMENT",
                "write(0, -1, 0) = INVALID_ARGUMENT", "write(0, 12, 0) = INVALID_ARGUMENT",
                "write(0, 0, -1) = INVALID_ARGUMENT", "write(0, 0, 1000) = INVALID_ARGUMENT");
        Alike.unchanged(Made::busyWithRoom, "write(0, 0, 1000) = INVALID_ARGUMENT");
        Alike.unchanged(Made::twentyWait, "write(0, 0, 0) = CAPACITY_EXCEEDED");
        Alike.unchanged(x -> Made.lost(x, 60), "write(0, 0, 0) = CAPACITY_EXCEEDED");
    }

    @Sentence(head = HEAD, says = CHANGES_NOTHING)
    static void promise4_aRefusedPassChangesNothing() {
        Alike.eachUnchanged(Made::busy, "pass(0) = INVALID_ARGUMENT", "pass(201) = INVALID_ARGUMENT");
        Alike.unchanged(Made::busyWithRoom, "pass(201) = INVALID_ARGUMENT");
        // Not even the ticks that would be left go by: one is, and then none.
        Alike.unchanged(x -> {
            Made.atTick(x, 19999);
            x.due("read(2, 2) = 0");
        }, "pass(2) = ILLEGAL_STATE");
        Alike.unchanged(x -> {
            Made.atTick(x, 20000);
            x.due("write(0, 0, 7) = 0");
        }, "pass(1) = ILLEGAL_STATE");
    }

    @Sentence(head = HEAD, says = CHANGES_NOTHING)
    static void promise6_aRefusedSweepChangesNothing() {
        Alike.unchanged(Made::busy, "sweep() = ILLEGAL_STATE");
        Alike.unchanged(Made::busyWithRoom, "sweep() = ILLEGAL_STATE");
        // One order waits; one copy is late; the tick would be 20001.
        Alike.unchanged(x -> x.due("read(3, 11) = 0"), "sweep() = ILLEGAL_STATE");
        Alike.unchanged(x -> x.due("write(0, 0, 5) = 0", "pass(1) = 1"), "sweep() = ILLEGAL_STATE");
        Alike.unchanged(x -> {
            Made.tornTwice(x);
            x.due("write(0, 1, 1) = 2", "pass(2) = 1", "cut() = 0", "pass(144) = 0").times(99, "pass(200) = 0");
        }, "sweep() = ILLEGAL_STATE");
    }

    @Sentence(head = HEAD, says = CHANGES_NOTHING)
    static void promise7_aRefusedUndoChangesNothing() {
        Alike.unchanged(x -> x.text("t5;"), "undo() = ILLEGAL_STATE");
        Alike.unchanged(x -> {
            Made.busy(x);
            x.times(5, "undo()");
        }, "undo() = ILLEGAL_STATE");
    }

    @Sentence(head = HEAD, says = CHANGES_NOTHING)
    static void promise8_aRefusedAppendChangesNothing() {
        Alike.eachUnchanged(Made::busy, "append(0) = INVALID_ARGUMENT", "append(256) = INVALID_ARGUMENT");
        Alike.unchanged(x -> {
            Made.busy(x);
            x.text("x;".repeat(40));
        }, "append(120) = CAPACITY_EXCEEDED");
        new Run().text("x;".repeat(40)).due("append(40) = CAPACITY_EXCEEDED", "count(14) = 80", "run() = 40");
    }

    @Sentence(head = HEAD, says = CHANGES_NOTHING)
    static void promise11To18_aRefusedLookChangesNothing() {
        Alike.eachUnchanged(Made::busy, "count(-1) = INVALID_ARGUMENT", "count(15) = INVALID_ARGUMENT",
                "copy(2, 0, 0, 0) = INVALID_ARGUMENT", "copy(0, 4, 0, 0) = INVALID_ARGUMENT",
                "copy(0, 0, 12, 0) = INVALID_ARGUMENT", "copy(0, 0, 0, 4) = INVALID_ARGUMENT",
                "order(4, 0) = INVALID_ARGUMENT", "order(0, 8) = INVALID_ARGUMENT", "waits(3) = INVALID_ARGUMENT",
                "nearer(12, 0) = INVALID_ARGUMENT", "nearer(0, 2) = INVALID_ARGUMENT", "doneIn(4) = INVALID_ARGUMENT");
    }

    @Sentence(head = HEAD, says = FIRST_LISTED)
    static void promise2_anArgumentOutOfRangeIsToldBeforeNoRoom() {
        Run x = new Run();
        Made.twentyWait(x);
        x.due("read(-1, 0) = INVALID_ARGUMENT", "read(4, 0) = INVALID_ARGUMENT", "read(0, -1) = INVALID_ARGUMENT",
                "read(0, 12) = INVALID_ARGUMENT", "read(0, 0) = CAPACITY_EXCEEDED");
        Run y = new Run();
        Made.lost(y, 60);
        y.due("read(-1, 0) = INVALID_ARGUMENT", "read(4, 0) = INVALID_ARGUMENT", "read(0, -1) = INVALID_ARGUMENT",
                "read(0, 12) = INVALID_ARGUMENT", "read(0, 0) = CAPACITY_EXCEEDED");
    }

    @Sentence(head = HEAD, says = FIRST_LISTED)
    static void promise3_anArgumentOutOfRangeIsToldBeforeNoRoom() {
        Run x = new Run();
        Made.twentyWait(x);
        x.due("write(-1, 0, 0) = INVALID_ARGUMENT", "write(4, 0, 0) = INVALID_ARGUMENT",
                "write(0, -1, 0) = INVALID_ARGUMENT", "write(0, 12, 0) = INVALID_ARGUMENT",
                "write(0, 0, -1) = INVALID_ARGUMENT", "write(0, 0, 1000) = INVALID_ARGUMENT",
                "write(0, 0, 0) = CAPACITY_EXCEEDED");
        Run y = new Run();
        Made.lost(y, 60);
        y.due("write(-1, 0, 0) = INVALID_ARGUMENT", "write(0, 12, 0) = INVALID_ARGUMENT",
                "write(0, 0, -1) = INVALID_ARGUMENT", "write(0, 0, 1000) = INVALID_ARGUMENT",
                "write(0, 0, 0) = CAPACITY_EXCEEDED");
    }

    @Sentence(head = HEAD, says = FIRST_LISTED)
    static void promise4_ticksOutOfRangeAreToldBeforeATickTooGreat() {
        Run x = new Run();
        Made.atTick(x, 20000);
        x.due("pass(0) = INVALID_ARGUMENT", "pass(-1) = INVALID_ARGUMENT", "pass(201) = INVALID_ARGUMENT",
                "pass(GREATEST) = INVALID_ARGUMENT", "pass(LEAST) = INVALID_ARGUMENT", "pass(1) = ILLEGAL_STATE",
                "pass(200) = ILLEGAL_STATE");
    }

    @Sentence(head = HEAD, says = FIRST_LISTED)
    static void promise8_aCharacterOutOfRangeIsToldBeforeNoRoom() {
        new Run().text("x;".repeat(40)).due("append(0) = INVALID_ARGUMENT", "append(256) = INVALID_ARGUMENT",
                "append(1) = CAPACITY_EXCEEDED", "append(255) = CAPACITY_EXCEEDED");
    }

    @Sentence(head = HEAD, says = NONE_IS_NO_ERROR)
    static void promise13_noneIsAnsweredOnlyForAnOrderThatThereIs() {
        // The properties 5, 6 and 7 of a read that waits are NONE; of one that there isn't they are no property.
        new Run().due("order(0, 5) = INVALID_ARGUMENT", "read(0, 0) = 0", "order(0, 5) = NONE", "order(0, 6) = NONE",
                "order(0, 7) = NONE", "order(0, 8) = INVALID_ARGUMENT", "order(1, 5) = INVALID_ARGUMENT",
                "order(-1, 7) = INVALID_ARGUMENT", "order(0, -1) = INVALID_ARGUMENT");
    }

    @Sentence(head = HEAD, says = NONE_IS_NO_ERROR)
    static void promise14_noneIsAnsweredOnlyForANumberInRange() {
        new Run().due("waits(1) = NONE", "waits(2) = NONE", "waits(3) = INVALID_ARGUMENT", "waits(-1) = INVALID_ARGUMENT");
    }

    @Sentence(head = HEAD, says = NONE_IS_NO_ERROR)
    static void promise16_noneIsAnsweredOnlyForAnOrderThatThereIs() {
        new Run().due("doneIn(0) = INVALID_ARGUMENT", "read(1, 1) = 0", "cut() = 0", "doneIn(0) = NONE",
                "doneIn(1) = INVALID_ARGUMENT", "doneIn(-1) = INVALID_ARGUMENT");
    }

    @Sentence(head = HEAD, says = {"The constants: `INVALID_ARGUMENT = -1`: An argument is out of range, or names "
            + "something that does not exist.", "`ILLEGAL_STATE = -2`: The call is not possible in the present state.",
        "`CAPACITY_EXCEEDED = -3`: There is no room.", "`NONE = -9`: There is no such value."})
    static void promise1To18_theConstants() {
        Due.is("INVALID_ARGUMENT", TwinPlates.INVALID_ARGUMENT, -1);
        Due.is("ILLEGAL_STATE", TwinPlates.ILLEGAL_STATE, -2);
        Due.is("CAPACITY_EXCEEDED", TwinPlates.CAPACITY_EXCEEDED, -3);
        Due.is("NONE", TwinPlates.NONE, -9);
        // An argument that is out of range, and one that names what does not exist yet.
        new Run().due("order(-1, 0) = -1", "order(0, 0) = -1", "undo() = -2", "waits(1) = -9")
                .text("x;".repeat(40)).due("append(120) = -3");
    }

    @Sentence(head = HEAD, says = {"Ahead of the calls `read`, `write`, `pass`, `cut`, `sweep`, `undo` the interface says: "
            + "---- orders and time.",
        "Ahead of the calls `append`, `clearText`, `run` the interface says: ---- programs."})
    static void promise8_charactersAndPlatesDoNotTouchEachOther() {
        // Writing a text changes nothing of the plates until it is run.
        new Run().text("w0,0=5;t1;x;").counts(0, 0, 0, 6, 0, 0, 0, 0, 0, 0, 0, 0, 0, 0, 12).due("clearText() = 12")
                .counts(0, 0, 0, 6, 0, 0, 0, 0, 0, 0, 0, 0, 0, 0, 0);
    }

    @Sentence(head = HEAD, says = "Ahead of the calls `count`, `copy`, `order`, `waits` the interface says: ---- looking.")
    static void promise11To14_lookingChangesNothing() {
        Alike.eachUnchanged(Made::busy, "count(0)", "count(14)", "copy(0, 0, 0, 0)", "copy(1, 3, 11, 3) = 0",
                "order(0, 0)", "order(3, 4)", "waits(0) = 0", "waits(2) = 0");
    }

    @Sentence(head = HEAD, says = "Ahead of the calls `nearer`, `doneIn`, `idleIn`, `wouldWipe` the interface says: ---- "
            + "what could be, which changes nothing.")
    static void promise15To18_whatCouldBeChangesNothing() {
        Alike.eachUnchanged(Made::busy, "nearer(0, 0)", "nearer(11, 1)", "doneIn(0) = 0", "doneIn(2)", "doneIn(3)",
                "idleIn()", "wouldWipe() = 0");
        Alike.eachUnchanged(Made::busyWithRoom, "doneIn(3)", "idleIn()", "wouldWipe() = 0");
        // Where a forecast wipes, loses and moves most: a block would be wiped, and orders wait.
        Alike.eachUnchanged(x -> x.text("w0,0=5;t1;x;w0,0=6;r3,3;w2,2=2;t6;").due("run() = 7"),
                "wouldWipe() = 1", "idleIn()", "doneIn(2)", "doneIn(3)");
    }
}
