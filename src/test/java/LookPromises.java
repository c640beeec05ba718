/** What stands under the promises 11 to 14: count, copy, order and waits. */
final class LookPromises {
    private static final String COUNT = "Promise 11: count";
    private static final String COPY = "Promise 12: copy";
    private static final String ORDER = "Promise 13: order";
    private static final String WAITS = "Promise 14: waits";

    private LookPromises() {
    }

    @Sentence(head = COUNT, says = {"Returns a number.", "Returns the number; INVALID_ARGUMENT if what is out of range."})
    static void promise11_whatIs0To14() {
        new Run().due("count(0) = 0", "count(14) = 0", "count(-1) = INVALID_ARGUMENT", "count(15) = INVALID_ARGUMENT",
                "count(LEAST) = INVALID_ARGUMENT", "count(GREATEST) = INVALID_ARGUMENT");
    }

    @Sentence(head = COUNT, says = "- `what`: 0 the tick,")
    static void promise11_0IsTheTick() {
        Run x = new Run().due("count(0) = 0", "pass(1) = 0", "count(0) = 1");
        x.due("pass(199) = 0").times(98, "pass(200) = 0").due("pass(152) = 0", "count(0) = 19952", "sweep() = 0", "count(0) = 20000");
    }

    @Sentence(head = COUNT, says = "1 the track on which the arm is,")
    static void promise11_1IsTheTrackOfTheArm() {
        new Run().due("count(1) = 0", "read(3, 0) = 0", "pass(2) = 0", "count(1) = 2", "pass(1) = 0", "count(1) = 3");
    }

    @Sentence(head = COUNT, says = "2 and 3 the sector under the head of the side 0 and 1,")
    static void promise11_2And3AreTheSectorsUnderTheHeads() {
        new Run().due("count(2) = 0", "count(3) = 6", "pass(5) = 0", "count(2) = 5", "count(3) = 11", "pass(1) = 0",
                "count(2) = 6", "count(3) = 0", "pass(5) = 0", "count(2) = 11", "count(3) = 5", "pass(1) = 0",
                "count(2) = 0", "count(3) = 6");
    }

    @Sentence(head = COUNT, says = {"4 the number of orders that were taken,", "5 of those that wait,"})
    static void promise11_4And5AreTheOrdersTakenAndWaiting() {
        Run x = new Run().due("count(4) = 0", "count(5) = 0");
        Made.twentyWait(x);
        x.due("count(4) = 20", "count(5) = 20", "cut() = 0", "count(4) = 20", "count(5) = 0");
        Run y = new Run();
        Made.lost(y, 60);
        y.due("count(4) = 60", "count(5) = 0");
    }

    @Sentence(head = COUNT, says = {"6 that are done,", "7 that are lost,"})
    static void promise11_6And7AreTheOrdersDoneAndLost() {
        Run x = new Run().due("count(6) = 0", "count(7) = 0");
        for (int order = 0; order < 60; order++) {
            x.due("read(0, 5) = " + order, "pass(6) = 1");
        }
        x.due("count(6) = 60", "count(7) = 0", "cut() = 0", "count(6) = 60", "count(7) = 0");
        Run y = new Run();
        Made.lost(y, 60);
        y.due("count(6) = 0", "count(7) = 60");
    }

    @Sentence(head = COUNT, says = "8 the number of late copies,")
    static void promise11_8IsTheNumberOfLateCopies() {
        Run x = new Run();
        for (int sector = 0; sector < 12; sector++) {
            x.due("write(0, " + sector + ", 7) = " + sector);
        }
        for (int late = 0; late < 12; late += 2) {
            x.due("count(8) = " + late, "pass(1) = 2");
        }
        for (int late = 12; late > 0; late -= 2) {
            x.due("count(8) = " + late, "pass(1) = 0");
        }
        x.due("count(8) = 0", "count(9) = 0");
    }

    @Sentence(head = COUNT, says = "9 of torn copies,")
    static void promise11_9IsTheNumberOfTornCopies() {
        Run x = new Run().due("count(9) = 0");
        // Both copies of 0, 0 and 0, 6 in turn, and the block before the last sector.
        x.due("write(0, 0, 5) = 0", "write(0, 6, 5) = 1", "pass(1) = 2", "count(9) = 0", "cut() = 2", "count(9) = 2");
        x.due("write(0, 0, 5) = 2", "write(0, 6, 5) = 3", "pass(6) = 2", "count(9) = 2", "cut() = 2", "count(9) = 4");
        x.due("write(0, 10, 5) = 4", "pass(4) = 1", "cut() = 1", "count(9) = 5", "sweep() = 1", "count(9) = 0");
    }

    @Sentence(head = COUNT, says = "10 of blocks whose copies have unlike values or versions,")
    static void promise11_10IsTheNumberOfUnlikeBlocks() {
        // Unlike in both, in the version alone, in neither though one is torn.
        new Run().due("count(10) = 0", "write(0, 0, 5) = 0", "pass(1) = 1", "count(10) = 1", "pass(6) = 0", "count(10) = 0");
        new Run().due("write(0, 0, 0) = 0", "pass(1) = 1", "count(10) = 1", "pass(5) = 0", "count(10) = 1", "pass(1) = 0",
                "count(10) = 0", "cut() = 1", "count(9) = 1", "count(10) = 0");
        // A block counts once, however its copies are late or torn.
        Run x = new Run();
        Made.tornTwice(x);
        x.due("count(10) = 1", "write(3, 11, 1) = 2", "pass(4) = 0", "pass(1) = 1", "count(10) = 2", "cut() = 1",
                "sweep() = 1", "count(10) = 0");
    }

    @Sentence(head = COUNT, says = "11 of blocks that count as wiped so far (each time),")
    static void promise11_11IsTheNumberOfWipedBlocksEachTime() {
        Run x = new Run().due("count(11) = 0");
        Made.tornTwice(x);
        x.due("count(11) = 0", "sweep() = 0", "count(11) = 1", "sweep() = 0", "count(11) = 1");
        // The same block once more: written at 108 by the side 0 and at 114 by the side 1.
        x.due("count(0) = 103", "write(0, 0, 5) = 2", "pass(5) = 0", "pass(1) = 1", "cut() = 1");
        x.due("write(0, 0, 6) = 3", "pass(6) = 1", "cut() = 1", "sweep() = 0", "count(11) = 2", "undo() = 4", "count(11) = 1");
        // Two by one sweep.
        new Run().due("write(0, 0, 5) = 0", "write(0, 6, 5) = 1", "pass(1) = 2", "cut() = 2", "write(0, 0, 5) = 2",
                "write(0, 6, 5) = 3", "pass(6) = 2", "cut() = 2", "sweep() = 0", "count(11) = 2");
    }

    @Sentence(head = COUNT, says = "12 the number of tracks that the arm has moved so far (sweeps not counted),")
    static void promise11_12IsTheNumberOfTracksMovedWithoutSweeps() {
        new Run().due("count(12) = 0", "sweep() = 0", "count(1) = 3", "count(12) = 0", "read(0, 0) = 0", "pass(1) = 0",
                "count(12) = 1", "pass(2) = 0", "count(12) = 3", "pass(20) = 1", "count(12) = 3", "sweep() = 0",
                "count(12) = 3", "undo() = 4", "undo() = 3", "undo() = 2", "count(12) = 1");
    }

    @Sentence(head = COUNT, says = "13 the number of states in the history,")
    static void promise11_13IsTheNumberOfStatesFrom0To5() {
        Run x = new Run();
        for (int states = 0; states < 5; states++) {
            x.due("count(13) = " + states, "cut() = 0");
        }
        x.due("count(13) = 5", "cut() = 0", "count(13) = 5", "undo() = 4", "count(13) = 4").times(4, "undo()").due("count(13) = 0");
    }

    @Sentence(head = COUNT, says = "14 the length of the text")
    static void promise11_14IsTheLengthOfTheText() {
        Run x = new Run();
        for (int length = 0; length < 80; length++) {
            x.due("count(14) = " + length, "append(32)");
        }
        x.due("count(14) = 80", "append(32) = CAPACITY_EXCEEDED", "count(14) = 80", "clearText() = 80", "count(14) = 0");
    }

    @Sentence(head = COPY, says = {"Returns a property of a copy.",
        "Returns the property; INVALID_ARGUMENT if an argument is out of range.", "- `side`: 0 or 1"})
    static void promise12_sideIs0Or1() {
        new Run().due("write(0, 0, 5) = 0", "pass(1) = 1", "copy(0, 0, 0, 0) = 5", "copy(1, 0, 0, 0) = 0",
                "copy(-1, 0, 0, 0) = INVALID_ARGUMENT", "copy(2, 0, 0, 0) = INVALID_ARGUMENT",
                "copy(LEAST, 0, 0, 0) = INVALID_ARGUMENT", "copy(GREATEST, 0, 0, 0) = INVALID_ARGUMENT");
    }

    @Sentence(head = COPY, says = "- `track`: 0 to 3")
    static void promise12_trackIs0To3() {
        new Run().due("copy(0, 0, 5, 0) = 0", "copy(1, 3, 5, 0) = 0", "copy(0, -1, 5, 0) = INVALID_ARGUMENT",
                "copy(1, -1, 5, 0) = INVALID_ARGUMENT", "copy(0, 4, 5, 0) = INVALID_ARGUMENT",
                "copy(1, 4, 5, 0) = INVALID_ARGUMENT", "copy(0, LEAST, 5, 0) = INVALID_ARGUMENT",
                "copy(0, GREATEST, 5, 0) = INVALID_ARGUMENT");
    }

    @Sentence(head = COPY, says = "- `sector`: 0 to 11")
    static void promise12_sectorIs0To11() {
        new Run().due("copy(0, 2, 0, 0) = 0", "copy(1, 2, 11, 0) = 0", "copy(0, 2, -1, 0) = INVALID_ARGUMENT",
                "copy(1, 0, -1, 0) = INVALID_ARGUMENT", "copy(0, 2, 12, 0) = INVALID_ARGUMENT",
                "copy(1, 3, 12, 0) = INVALID_ARGUMENT", "copy(0, 2, LEAST, 0) = INVALID_ARGUMENT",
                "copy(0, 2, GREATEST, 0) = INVALID_ARGUMENT");
    }

    @Sentence(head = COPY, says = {"- `what`: 0 its value, 1 its version, 2 1 if it is torn and 0 if not,",
        "3 1 if it is late and 0 if not"})
    static void promise12_whatIs0To3() {
        Run x = new Run().due("write(0, 0, 5) = 0", "pass(1) = 1").copy(0, 0, 0, 5, 1, 0, 0).copy(1, 0, 0, 0, 0, 0, 1);
        x.due("cut() = 1").copy(0, 0, 0, 5, 1, 1, 0).copy(1, 0, 0, 0, 0, 0, 0);
        x.due("copy(0, 0, 0, -1) = INVALID_ARGUMENT", "copy(0, 0, 0, 4) = INVALID_ARGUMENT",
                "copy(1, 3, 11, 4) = INVALID_ARGUMENT", "copy(0, 0, 0, LEAST) = INVALID_ARGUMENT",
                "copy(0, 0, 0, GREATEST) = INVALID_ARGUMENT");
    }

    @Sentence(head = ORDER, says = {"Returns a property of an order.", "- `order`: an order",
        "Returns the property; INVALID_ARGUMENT if there is no such order"})
    static void promise13_orderIsOneThatWasTaken() {
        Run x = new Run().due("order(0, 0) = INVALID_ARGUMENT", "order(-1, 0) = INVALID_ARGUMENT");
        x.due("read(0, 0) = 0", "order(0, 0) = 0", "order(1, 0) = INVALID_ARGUMENT", "order(-1, 0) = INVALID_ARGUMENT",
                "order(LEAST, 0) = INVALID_ARGUMENT", "order(GREATEST, 0) = INVALID_ARGUMENT", "undo() = 0",
                "order(0, 0) = INVALID_ARGUMENT");
        Run y = new Run();
        Made.lost(y, 60);
        y.due("order(59, 3) = 2", "order(60, 3) = INVALID_ARGUMENT");
    }

    @Sentence(head = ORDER, says = "or what is out of range.")
    static void promise13_whatIs0To7() {
        new Run().due("write(0, 0, 5) = 0", "order(0, 0) = 1", "order(0, 7) = 5", "order(0, -1) = INVALID_ARGUMENT",
                "order(0, 8) = INVALID_ARGUMENT", "order(0, LEAST) = INVALID_ARGUMENT", "order(0, GREATEST) = INVALID_ARGUMENT");
    }

    @Sentence(head = ORDER, says = "- `what`: 0 0 for a read and 1 for a write, 1 its track, 2 its sector,")
    static void promise13_0To2AreTheKindTheTrackAndTheSector() {
        new Run().due("read(0, 0) = 0", "write(3, 11, 999) = 1", "read(3, 0) = 2", "write(0, 11, 0) = 3")
                .order(0, 0, 0, 0).order(1, 1, 3, 11).order(2, 0, 3, 0).order(3, 1, 0, 11);
    }

    @Sentence(head = ORDER, says = "3 0 if it waits, 1 if it is done and 2 if lost,")
    static void promise13_3Is0IfItWaits1IfItIsDoneAnd2IfLost() {
        new Run().due("read(0, 0) = 0", "order(0, 3) = 0", "pass(1) = 1", "order(0, 3) = 1", "undo() = 1", "order(0, 3) = 0",
                "cut() = 0", "order(0, 3) = 2");
    }

    @Sentence(head = ORDER, says = "4 the tick in which it came,")
    static void promise13_4IsTheTickInWhichItCame() {
        Run x = new Run().due("read(0, 0) = 0", "pass(1) = 1", "read(0, 0) = 1", "order(0, 4) = 0", "order(1, 4) = 1", "cut() = 0",
                "order(1, 4) = 1");
        Run y = new Run();
        Made.atTick(y, 20000);
        y.due("read(0, 0) = 0", "order(0, 4) = 20000");
    }

    @Sentence(head = ORDER, says = "5 the tick in which it was done,")
    static void promise13_5IsTheTickInWhichItWasDone() {
        new Run().due("read(0, 0) = 0", "read(0, 1) = 1", "pass(2) = 2", "order(0, 5) = 0", "order(1, 5) = 1", "cut() = 0",
                "order(0, 5) = 0");
        Run x = new Run();
        Made.atTick(x, 19999);
        x.due("read(0, 7) = 0", "pass(1) = 1", "order(0, 5) = 19999");
    }

    @Sentence(head = ORDER, says = "6 the side by which it was done,")
    static void promise13_6IsTheSideByWhichItWasDone() {
        new Run().due("read(0, 0) = 0", "write(0, 6, 5) = 1", "write(0, 1, 5) = 2", "read(0, 7) = 3", "pass(2) = 4",
                "order(0, 6) = 0", "order(1, 6) = 1", "order(2, 6) = 0", "order(3, 6) = 1");
    }

    @Sentence(head = ORDER, says = "7 the answer of a read, or the value of a write")
    static void promise13_7IsTheAnswerOrTheValue() {
        new Run().due("read(0, 0) = 0", "pass(1) = 1", "order(0, 7) = 0", "write(0, 0, 999) = 1", "order(1, 7) = 999",
                "read(0, 0) = 2", "pass(30) = 2", "order(1, 7) = 999", "order(2, 7) = 999", "order(0, 7) = 0",
                // The answer stays though the block is written again.
                "write(0, 0, 1) = 3", "pass(30) = 1", "order(2, 7) = 999", "order(1, 7) = 999");
    }

    @Sentence(head = ORDER, says = "(5 to 7: NONE if it is not done,")
    static void promise13_5To7AreNoneIfItIsNotDone() {
        new Run().due("read(0, 0) = 0").order(0, 0, 0, 0, 0, 0, Run.NONE, Run.NONE, Run.NONE)
                .due("cut() = 0").order(0, 0, 0, 0, 2, 0, Run.NONE, Run.NONE, Run.NONE)
                .due("write(0, 0, 5) = 1", "order(1, 5) = NONE", "order(1, 6) = NONE", "cut() = 0", "order(1, 5) = NONE",
                "order(1, 6) = NONE");
    }

    @Sentence(head = ORDER, says = "but 7 of a write always the value)")
    static void promise13_7OfAWriteIsAlwaysTheValue() {
        new Run().due("write(0, 0, 0) = 0", "write(0, 5, 999) = 1", "order(0, 7) = 0", "order(1, 7) = 999", "pass(1) = 1",
                "order(0, 7) = 0", "order(1, 7) = 999", "cut() = 1", "order(1, 3) = 2", "order(1, 7) = 999");
    }

    @Sentence(head = WAITS, says = {"Returns it; INVALID_ARGUMENT if what is out of range;"})
    static void promise14_whatIs0To2() {
        new Run().due("read(0, 0) = 0", "pass(1) = 1", "waits(0) = 0", "waits(2) = 0", "waits(-1) = INVALID_ARGUMENT",
                "waits(3) = INVALID_ARGUMENT", "waits(LEAST) = INVALID_ARGUMENT", "waits(GREATEST) = INVALID_ARGUMENT");
    }

    @Sentence(head = WAITS, says = {"Tells something of the waits of the orders that are done:",
        "the ticks from the one in which they came to the one in which they were done."})
    static void promise14_waitsAreTicksOfOrdersThatAreDone() {
        // Done in the tick in which it came, in the next one, and as late as six.
        new Run().due("read(0, 0) = 0", "pass(1) = 1", "waits(0) = 0", "waits(1) = 0");
        new Run().due("read(0, 1) = 0", "pass(2) = 1", "waits(0) = 1", "waits(1) = 1");
        new Run().due("read(0, 5) = 0", "pass(5) = 0", "waits(0) = 0", "waits(1) = NONE", "pass(1) = 1", "waits(0) = 5",
                "pass(100) = 0", "waits(0) = 5");
        // Neither those that wait nor those that are lost, however long they waited.
        Run x = new Run();
        Made.tornTwice(x);
        x.due("read(0, 0) = 2", "pass(200) = 0", "waits(0) = 5", "waits(1) = 5", "waits(2) = 1", "cut() = 0",
                "waits(0) = 5", "waits(1) = 5", "waits(2) = 1");
    }

    @Sentence(head = WAITS, says = "- `what`: 0 the sum of all,")
    static void promise14_0IsTheSumOfAll() {
        Run x = new Run().due("waits(0) = 0");
        x.due("read(0, 3) = 0", "read(0, 9) = 1", "write(0, 5, 1) = 2", "waits(0) = 0", "pass(4) = 2", "waits(0) = 6",
                "pass(2) = 1", "waits(0) = 11");
        // The greatest sum is that of sixty.
        Run y = new Run();
        for (int order = 0; order < 60; order++) {
            y.due("read(0, 5) = " + order, "pass(6) = 1");
        }
        y.due("waits(0) = 300", "waits(1) = 5", "waits(2) = 0");
    }

    @Sentence(head = WAITS, says = "1 the greatest one,")
    static void promise14_1IsTheGreatestOne() {
        new Run().due("read(0, 0) = 0", "pass(1) = 1", "waits(1) = 0", "read(0, 2) = 1", "pass(2) = 1", "waits(1) = 1",
                "read(0, 8) = 2", "pass(6) = 1", "waits(1) = 5", "read(0, 3) = 3", "pass(1) = 1", "waits(1) = 5");
    }

    @Sentence(head = WAITS, says = "2 the order that has it, of several the one with the smallest number")
    static void promise14_2IsTheOrderThatHasItOfSeveralTheFirst() {
        new Run().due("read(0, 0) = 0", "pass(1) = 1", "waits(2) = 0", "read(0, 1) = 1", "read(0, 7) = 2", "pass(1) = 2",
                "waits(2) = 0", "read(0, 4) = 3", "read(0, 10) = 4", "pass(3) = 2", "waits(1) = 2", "waits(2) = 3",
                "read(0, 7) = 5", "pass(3) = 1", "waits(1) = 2", "waits(2) = 3", "read(0, 11) = 6", "pass(4) = 1",
                "waits(1) = 3", "waits(2) = 6");
        // The last one of twenty.
        Run x = new Run();
        for (int order = 0; order < 20; order++) {
            x.due("write(0, 0, 1) = " + order);
        }
        x.due("pass(200) = 17", "pass(29) = 3", "waits(2) = 19", "waits(1) = 228");
    }

    @Sentence(head = WAITS, says = "NONE for 1 and 2 if no order is done.")
    static void promise14_1And2AreNoneIfNoOrderIsDone() {
        new Run().due("waits(0) = 0", "waits(1) = NONE", "waits(2) = NONE", "read(0, 1) = 0", "pass(1) = 0", "waits(0) = 0",
                "waits(1) = NONE", "waits(2) = NONE", "cut() = 0", "waits(0) = 0", "waits(1) = NONE", "waits(2) = NONE",
                "read(0, 1) = 1", "pass(1) = 1", "waits(1) = 0", "waits(2) = 1", "undo() = 4", "waits(1) = NONE",
                "waits(2) = NONE");
    }
}
