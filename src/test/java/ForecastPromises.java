/** What stands under the promises 15 to 18: nearer, doneIn, idleIn and wouldWipe. */
final class ForecastPromises {
    private static final String NEARER = "Promise 15: nearer";
    private static final String DONE_IN = "Promise 16: doneIn";
    private static final String IDLE_IN = "Promise 17: idleIn";
    private static final String WOULD_WIPE = "Promise 18: wouldWipe";

    private ForecastPromises() {
    }

    @Sentence(head = NEARER, says = "Tells in how many ticks a head will be over a sector, if the arm stays")
    static void promise15_tellsTheTicksIfTheArmStays() {
        Run x = new Run().due("read(3, 8) = 0");
        x.due("nearer(5, 1) = 5", "nearer(5, 0) = 0", "pass(1) = 0", "nearer(5, 1) = 4", "pass(4) = 0", "nearer(5, 1) = 0",
                "pass(1) = 0", "nearer(5, 1) = 5", "nearer(5, 0) = 1");
    }

    @Sentence(head = NEARER, says = "(0 if it is over it in the tick that is now).")
    static void promise15_0IfAHeadIsOverItNow() {
        Run x = new Run();
        for (int tick = 0; tick < 30; tick++) {
            x.due("nearer(" + tick % 12 + ", 1) = 0", "nearer(" + tick % 12 + ", 0) = 0",
                    "nearer(" + (tick + 6) % 12 + ", 1) = 0", "nearer(" + (tick + 6) % 12 + ", 0) = 1", "pass(1) = 0");
        }
        Run y = new Run();
        Made.atTick(y, 20000);
        y.due("nearer(8, 1) = 0", "nearer(8, 0) = 0", "nearer(2, 1) = 0", "nearer(2, 0) = 1");
    }

    @Sentence(head = NEARER, says = {"- `sector`: 0 to 11", "Returns it; INVALID_ARGUMENT if an argument is out of range."})
    static void promise15_sectorIs0To11() {
        new Run().due("nearer(0, 1) = 0", "nearer(11, 1) = 5", "nearer(-1, 0) = INVALID_ARGUMENT",
                "nearer(12, 0) = INVALID_ARGUMENT", "nearer(-1, 1) = INVALID_ARGUMENT", "nearer(12, 1) = INVALID_ARGUMENT",
                "nearer(LEAST, 0) = INVALID_ARGUMENT", "nearer(GREATEST, 1) = INVALID_ARGUMENT");
    }

    @Sentence(head = NEARER, says = {"- `what`: 0 the side that is first over it,"})
    static void promise15_whatIs0Or1() {
        new Run().due("nearer(0, 0) = 0", "nearer(6, 0) = 1", "nearer(0, -1) = INVALID_ARGUMENT",
                "nearer(0, 2) = INVALID_ARGUMENT", "nearer(0, LEAST) = INVALID_ARGUMENT",
                "nearer(0, GREATEST) = INVALID_ARGUMENT");
        // The last sector that the one head comes to first, and the first of the other one.
        new Run().due("nearer(5, 0) = 0", "nearer(6, 0) = 1", "nearer(11, 0) = 1", "pass(1) = 0", "nearer(0, 0) = 1",
                "nearer(1, 0) = 0", "nearer(6, 0) = 0", "nearer(7, 0) = 1", "pass(6) = 0", "nearer(0, 0) = 0",
                "nearer(1, 0) = 1", "nearer(6, 0) = 1", "nearer(7, 0) = 0");
    }

    @Sentence(head = NEARER, says = "1 the number of ticks until then")
    static void promise15_theTicksAre0To5() {
        for (int tick = 0; tick < 12; tick++) {
            Run x = new Run();
            Made.atTick(x, tick);
            for (int ahead = 0; ahead < 12; ahead++) {
                x.due("nearer(" + (tick + ahead) % 12 + ", 1) = " + ahead % 6);
                x.due("nearer(" + (tick + ahead) % 12 + ", 0) = " + ahead / 6);
            }
        }
    }

    @Sentence(head = DONE_IN, says = {"Tells behind how many ticks an order will be done, if nothing else is done",
        "Returns the number of ticks,"})
    static void promise16_tellsTheTicksUntilItIsDone() {
        // 1 if it is done in the tick that is now; behind so many ticks it is done, and not before.
        new Run().due("read(0, 0) = 0", "doneIn(0) = 1", "pass(1) = 1", "doneIn(0) = 0");
        new Run().due("read(3, 11) = 0", "write(0, 5, 1) = 1", "doneIn(1) = 6", "doneIn(0) = 18", "pass(17) = 1",
                "order(0, 3) = 0", "doneIn(0) = 1", "pass(1) = 1", "order(0, 3) = 1");
    }

    @Sentence(head = DONE_IN, says = "(the tick is not bounded).")
    static void promise16_theTickIsNotBounded() {
        Run x = new Run();
        Made.atTick(x, 20000);
        // The sides 0 and 1 are over the sectors 8 and 2.
        x.due("read(0, 8) = 0", "read(0, 1) = 1", "write(3, 0, 7) = 2", "doneIn(0) = 1", "doneIn(1) = 6", "doneIn(2) = 11",
                "pass(1) = ILLEGAL_STATE", "count(0) = 20000");
        Run y = new Run();
        Made.atTick(y, 19999);
        y.due("read(0, 7) = 0", "read(0, 8) = 1", "doneIn(0) = 1", "doneIn(1) = 2");
    }

    @Sentence(head = DONE_IN, says = {"- `order`: an order", "INVALID_ARGUMENT if there is no such order;"})
    static void promise16_orderIsOneThatWasTaken() {
        new Run().due("doneIn(0) = INVALID_ARGUMENT", "doneIn(-1) = INVALID_ARGUMENT", "read(0, 0) = 0", "doneIn(0) = 1",
                "doneIn(1) = INVALID_ARGUMENT", "doneIn(-1) = INVALID_ARGUMENT", "doneIn(LEAST) = INVALID_ARGUMENT",
                "doneIn(GREATEST) = INVALID_ARGUMENT", "undo() = 0", "doneIn(0) = INVALID_ARGUMENT");
        Run x = new Run();
        Made.lost(x, 60);
        x.due("doneIn(59) = NONE", "doneIn(60) = INVALID_ARGUMENT");
    }

    @Sentence(head = DONE_IN, says = "0 if it is done;")
    static void promise16_0IfItIsDone() {
        new Run().due("read(0, 0) = 0", "pass(1) = 1", "doneIn(0) = 0", "cut() = 0", "doneIn(0) = 0", "pass(200) = 0",
                "doneIn(0) = 0", "undo() = 3", "undo() = 2", "undo() = 1", "doneIn(0) = 1");
    }

    @Sentence(head = DONE_IN, says = "NONE if it is lost,")
    static void promise16_noneIfItIsLost() {
        new Run().due("read(0, 0) = 0", "write(0, 0, 1) = 1", "cut() = 0", "doneIn(0) = NONE", "doneIn(1) = NONE",
                "undo() = 2", "doneIn(1) = 1");
    }

    @Sentence(head = DONE_IN, says = "or is not done behind 300 ticks.")
    static void promise16_noneIfItIsNotDoneBehind300Ticks() {
        // Never done: each copy is torn; nor is one of another track, to which the arm doesn't come.
        Run x = new Run();
        Made.tornTwice(x);
        x.due("read(0, 0) = 2", "read(1, 1) = 3", "read(0, 1) = 4", "doneIn(2) = NONE", "doneIn(3) = NONE", "doneIn(4) = 1",
                "write(0, 0, 1) = 5", "doneIn(5) = 6", "doneIn(2) = 18", "doneIn(3) = 25");
        // The longest way.
        longestWay().due("doneIn(4) = 19", "doneIn(5) = 32", "doneIn(6) = 47", "doneIn(22) = 239", "doneIn(23) = 251",
                "pass(200)", "doneIn(23) = 51", "pass(50)", "doneIn(23) = 1", "pass(1) = 1", "doneIn(23) = 0");
    }

    /**
     * The most ticks that orders can last, as far as I know, for 300 can't be reached: at the tick 37 a copy of the
     * track 2 is late for 6 ticks, then the arm moves 5 times, to the tracks 1, 0 and 3, and each of twenty
     * reads takes 12 ticks, as one copy of its block is torn and the head of the other one has just gone by.
     */
    private static Run longestWay() {
        Run x = new Run().due("write(1, 1, 5) = 0", "pass(2) = 1", "cut() = 1", "pass(10) = 0");
        x.due("write(0, 2, 5) = 1", "pass(3) = 1", "cut() = 1", "pass(11) = 0");
        x.due("write(3, 5, 5) = 2", "pass(4) = 1", "cut() = 1", "pass(5) = 0");
        x.due("write(2, 0, 5) = 3", "pass(2) = 1", "count(0) = 37", "count(1) = 2", "count(8) = 1", "count(9) = 3");
        x.due("read(1, 1) = 4", "read(0, 2) = 5");
        return x.times(18, "read(3, 5)");
    }

    @Sentence(head = IDLE_IN, says = {"Tells behind how many ticks no track will have work, if nothing else is done",
        "Returns the number of ticks,"})
    static void promise17_tellsTheTicksUntilNoTrackHasWork() {
        // A read is all at once; a write is copied six ticks later; behind so many ticks there is no work, and not before.
        new Run().due("read(0, 0) = 0", "idleIn() = 1", "pass(1) = 1", "idleIn() = 0");
        new Run().due("write(0, 0, 5) = 0", "idleIn() = 7", "pass(6) = 1", "idleIn() = 1", "count(8) = 1", "pass(1) = 0",
                "idleIn() = 0", "count(8) = 0");
        new Run().due("read(3, 11) = 0", "write(0, 5, 1) = 1", "idleIn() = 18", "pass(17) = 1", "idleIn() = 1", "pass(1) = 1",
                "idleIn() = 0");
    }

    @Sentence(head = IDLE_IN, says = "(the tick is not bounded).")
    static void promise17_theTickIsNotBounded() {
        Run x = new Run();
        Made.atTick(x, 20000);
        x.due("idleIn() = 0", "write(0, 8, 7) = 0", "idleIn() = 7", "write(3, 0, 7) = 1", "idleIn() = 17", "count(0) = 20000");
    }

    @Sentence(head = IDLE_IN, says = "0 if there is none now;")
    static void promise17_0IfThereIsNoWorkNow() {
        new Run().due("idleIn() = 0", "pass(200) = 0", "idleIn() = 0", "read(1, 1) = 0", "cut() = 0", "idleIn() = 0",
                "read(1, 1) = 1", "idleIn() = 6", "undo() = 3", "idleIn() = 0");
        Run x = new Run();
        Made.tornTwice(x);
        x.due("idleIn() = 0");
    }

    @Sentence(head = IDLE_IN, says = "NONE if it is more than 300.")
    static void promise17_noneIfItIsMoreThan300() {
        longestWay().due("idleIn() = 251", "pass(200)", "idleIn() = 51", "pass(50)", "idleIn() = 1", "pass(1) = 1", "idleIn() = 0");
        Run x = new Run();
        Made.tornTwice(x);
        x.due("read(0, 0) = 2", "idleIn() = NONE", "pass(200) = 0", "idleIn() = NONE", "write(0, 0, 1) = 3", "undo() = 4",
                "idleIn() = NONE", "cut() = 0", "idleIn() = 0");
    }

    @Sentence(head = WOULD_WIPE, says = {"Tells how many blocks would be wiped by a sweep, if the power was cut now "
            + "and it was swept then", "Returns the number."})
    static void promise18_tellsTheBlocksThatWouldBeWiped() {
        // None; one copy is or would be torn; both are torn; one is and the other one would be.
        new Run().due("wouldWipe() = 0", "write(0, 0, 5) = 0", "wouldWipe() = 0", "pass(1) = 1", "wouldWipe() = 0",
                "cut() = 1", "wouldWipe() = 0", "write(0, 0, 6) = 1", "pass(5) = 0", "wouldWipe() = 0", "pass(1) = 1",
                "wouldWipe() = 1", "cut() = 1", "wouldWipe() = 1", "sweep() = 0", "wouldWipe() = 0", "count(11) = 1");
        // A tick later than it was written it would not be torn.
        new Run().due("write(0, 0, 5) = 0", "pass(1) = 1", "cut() = 1", "write(0, 0, 6) = 1", "pass(6) = 1",
                "wouldWipe() = 1", "pass(1) = 0", "wouldWipe() = 0");
        // Two; orders that wait and copies that are late, by which a sweep is refused, don't matter.
        new Run().due("write(0, 0, 5) = 0", "write(0, 6, 5) = 1", "pass(1) = 2", "cut() = 2", "write(0, 0, 6) = 2",
                "write(0, 6, 6) = 3", "read(2, 2) = 4", "pass(6) = 2", "sweep() = ILLEGAL_STATE", "wouldWipe() = 2",
                "count(5) = 1", "count(11) = 0");
        // Those that were wiped before are not told.
        Run x = new Run();
        Made.tornTwice(x);
        x.due("sweep() = 0", "count(11) = 1", "wouldWipe() = 0", "undo() = 4", "wouldWipe() = 1");
    }

    @Sentence(head = WOULD_WIPE, says = "(the tick is not bounded).")
    static void promise18_theTickIsNotBounded() {
        Run x = new Run();
        Made.tornTwice(x);
        x.due("pass(193) = 0").times(99, "pass(200) = 0").due("count(0) = 20000", "wouldWipe() = 1",
                "sweep() = ILLEGAL_STATE", "count(0) = 20000", "count(11) = 0");
        Run y = new Run();
        Made.atTick(y, 20000);
        y.due("wouldWipe() = 0");
    }
}
