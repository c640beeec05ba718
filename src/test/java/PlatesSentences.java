/** What stands under "Plates" and "Orders". */
final class PlatesSentences {
    private PlatesSentences() {
    }

    @Sentence(head = "Plates", says = "There are two sides, 0 and 1,")
    static void promise12_twoSides0And1() {
        new Run().due("copy(0, 0, 0, 0) = 0", "copy(1, 0, 0, 0) = 0",
                "copy(-1, 0, 0, 0) = INVALID_ARGUMENT", "copy(2, 0, 0, 0) = INVALID_ARGUMENT");
    }

    @Sentence(head = "Plates", says = "with 4 tracks (numbered from 0)")
    static void promise12_4TracksNumberedFrom0() {
        new Run().due("copy(0, 0, 0, 0) = 0", "copy(1, 3, 11, 0) = 0",
                "copy(0, -1, 0, 0) = INVALID_ARGUMENT", "copy(1, 4, 11, 0) = INVALID_ARGUMENT",
                "read(0, 0) = 0", "read(3, 0) = 1", "read(-1, 0) = INVALID_ARGUMENT", "read(4, 0) = INVALID_ARGUMENT");
    }

    @Sentence(head = "Plates", says = "of 12 sectors (numbered from 0) each.")
    static void promise12_12SectorsNumberedFrom0OnEachTrack() {
        Run x = new Run();
        for (int track = 0; track < 4; track++) {
            x.due("copy(0, " + track + ", 0, 0) = 0", "copy(1, " + track + ", 11, 0) = 0",
                    "copy(0, " + track + ", -1, 0) = INVALID_ARGUMENT",
                    "copy(1, " + track + ", 12, 0) = INVALID_ARGUMENT");
        }
    }

    @Sentence(head = "Plates", says = "A track and a sector are a block; it has a copy on each side.")
    static void promise12_aBlockHasACopyOnEachSideAndNoBlockTouchesTheNext() {
        Run x = new Run().due("write(0, 11, 5) = 0", "pass(6) = 1");
        x.copy(1, 0, 11, 5, 1, 0, 0).copy(0, 0, 11, 0, 0, 0, 1);
        x.copy(1, 0, 10, 0, 0, 0, 0).copy(1, 1, 0, 0, 0, 0, 0).copy(1, 1, 11, 0, 0, 0, 0).copy(0, 1, 0, 0, 0, 0, 0);
        // Copied at 11, moved at 12, 13 and 14, written at 17 by the side 1.
        x.due("write(3, 11, 9) = 1", "pass(11) = 0", "pass(1) = 1");
        x.copy(1, 3, 11, 9, 1, 0, 0).copy(0, 3, 11, 0, 0, 0, 1);
        x.copy(1, 3, 10, 0, 0, 0, 0).copy(1, 2, 11, 0, 0, 0, 0).copy(0, 0, 0, 0, 0, 0, 0).copy(1, 0, 11, 5, 1, 0, 0);
        // The whole of a row: each block of a track gets a value of its own.
        Run y = new Run();
        for (int sector = 0; sector < 12; sector++) {
            y.due("write(0, " + sector + ", " + (100 + sector) + ") = " + sector);
        }
        y.due("pass(6) = 12", "pass(6) = 0");
        for (int sector = 0; sector < 12; sector++) {
            y.copy(0, 0, sector, 100 + sector, 1, 0, 0).copy(1, 0, sector, 100 + sector, 1, 0, 0);
            y.copy(0, 1, sector, 0, 0, 0, 0);
        }
    }

    @Sentence(head = "Plates", says = "A copy has a value (0 to 999;")
    static void promise12_aValueIs0To999() {
        new Run().due("write(0, 0, 999) = 0", "pass(1) = 1").copy(0, 0, 0, 999, 1, 0, 0)
                .due("pass(6) = 0").copy(1, 0, 0, 999, 1, 0, 0)
                .due("write(0, 0, 0) = 1", "pass(6) = 1").copy(0, 0, 0, 0, 2, 0, 0)
                .due("pass(6) = 0").copy(1, 0, 0, 0, 2, 0, 0);
    }

    @Sentence(head = "Plates", says = "0 at first) and a version (0 at first),")
    static void promise12_valueAndVersionAre0AtFirst() {
        new Run().copy(0, 0, 0, 0, 0).copy(1, 0, 0, 0, 0).copy(0, 3, 11, 0, 0).copy(1, 3, 11, 0, 0);
    }

    @Sentence(head = "Plates", says = "is torn or not,")
    static void promise12_aCopyIsTornOrNot() {
        new Run().due("write(0, 0, 5) = 0", "pass(1) = 1", "copy(0, 0, 0, 2) = 0",
                "cut() = 1", "copy(0, 0, 0, 2) = 1", "copy(1, 0, 0, 2) = 0", "sweep() = 1", "copy(0, 0, 0, 2) = 0");
    }

    @Sentence(head = "Plates", says = "and is late or not (it is late if it is due to be copied from the other side).")
    static void promise12_aCopyIsLateUntilTheTickInWhichItIsCopied() {
        new Run().due("write(0, 0, 5) = 0", "copy(1, 0, 0, 3) = 0", "pass(1) = 1",
                "copy(1, 0, 0, 3) = 1", "copy(0, 0, 0, 3) = 0", "pass(5) = 0", "copy(1, 0, 0, 3) = 1",
                "pass(1) = 0", "copy(1, 0, 0, 3) = 0", "copy(0, 0, 0, 3) = 0");
    }

    @Sentence(head = "Plates", says = "Time goes by in ticks, numbered from 0.")
    static void promise11_ticksAreNumberedFrom0() {
        new Run().due("count(0) = 0", "read(0, 0) = 0", "pass(1) = 1", "order(0, 4) = 0", "order(0, 5) = 0",
                "count(0) = 1", "pass(1) = 0", "count(0) = 2");
    }

    @Sentence(head = "Plates", says = "In the tick t the head of the side 0 is over the sector t modulo 12,")
    static void promise11_theSide0IsOverTheTickModulo12() {
        Run x = new Run();
        for (int tick = 0; tick <= 37; tick++) {
            x.due("count(2) = " + tick % 12, "pass(1) = 0");
        }
        Run y = new Run();
        Made.atTick(y, 20000);
        y.due("count(2) = 8");
        // The head comes round from the sector 11 to the sector 0 while it works.
        new Run().due("pass(7) = 0", "read(0, 11) = 0", "read(0, 0) = 1", "pass(4) = 0",
                "pass(1) = 1", "order(0, 5) = 11", "order(0, 6) = 0",
                "pass(1) = 1", "order(1, 5) = 12", "order(1, 6) = 0");
    }

    @Sentence(head = "Plates", says = "and that of the side 1 over the sector (t + 6) modulo 12.")
    static void promise11_theSide1IsHalfATurnAhead() {
        Run x = new Run();
        for (int tick = 0; tick <= 37; tick++) {
            x.due("count(3) = " + (tick + 6) % 12, "pass(1) = 0");
        }
        Run y = new Run();
        Made.atTick(y, 20000);
        y.due("count(3) = 2");
        new Run().due("pass(1) = 0", "read(0, 11) = 0", "read(0, 0) = 1", "pass(4) = 0",
                "pass(1) = 1", "order(0, 5) = 5", "order(0, 6) = 1",
                "pass(1) = 1", "order(1, 5) = 6", "order(1, 6) = 1");
    }

    @Sentence(head = "Plates", says = "Both heads are on the same track, on which the arm is (the track 0 at first).")
    static void promise11_bothHeadsAreOnTheTrackOfTheArm() {
        new Run().due("count(1) = 0", "read(0, 0) = 0", "read(0, 6) = 1", "pass(1) = 2");
        new Run().due("read(1, 1) = 0", "read(1, 7) = 1", "pass(1) = 0", "count(1) = 1", "pass(1) = 2",
                "order(0, 5) = 1", "order(0, 6) = 0", "order(1, 5) = 1", "order(1, 6) = 1");
    }

    @Sentence(head = "Orders", says = "An order is a read or a write of a block.")
    static void promise13_anOrderIsAReadOrAWrite() {
        new Run().due("read(3, 11) = 0", "write(0, 0, 0) = 1", "order(0, 0) = 0", "order(1, 0) = 1");
    }

    @Sentence(head = "Orders", says = "At most 60 orders are taken,")
    static void promise2_atMost60OrdersAreTaken() {
        Run x = new Run();
        Made.lost(x, 59);
        x.due("count(4) = 59", "read(0, 0) = 59", "count(4) = 60", "read(0, 0) = CAPACITY_EXCEEDED",
                "write(0, 0, 0) = CAPACITY_EXCEEDED", "count(4) = 60");
    }

    @Sentence(head = "Orders", says = "numbered from 0 in the order in which they came,")
    static void promise2_ordersAreNumberedFrom0AsTheyCome() {
        // The block of the last one comes first under a head; that doesn't change the numbers.
        Run x = new Run().due("read(3, 11) = 0", "write(0, 7, 1) = 1", "read(0, 0) = 2", "pass(1) = 1");
        x.order(0, 0, 3, 11, 0).order(1, 1, 0, 7, 0).order(2, 0, 0, 0, 1).due("write(1, 1, 1) = 3");
        x.order(3, 1, 1, 1, 0, 1);
    }

    @Sentence(head = "Orders", says = "and at most 20 wait at a time.")
    static void promise2_atMost20WaitAtATime() {
        Run x = new Run();
        for (int order = 0; order < 19; order++) {
            x.due(order % 2 == 0 ? "read(0, 0) = " + order : "write(0, 0, 1) = " + order);
        }
        x.due("count(5) = 19", "read(3, 3) = 19", "count(5) = 20", "read(3, 3) = CAPACITY_EXCEEDED",
                "write(3, 3, 3) = CAPACITY_EXCEEDED", "count(5) = 20");
        // One that is done makes room for one, and lost ones make room for twenty.
        x.due("pass(1) = 1", "write(0, 0, 2) = 20", "count(5) = 20", "read(0, 0) = CAPACITY_EXCEEDED");
        x.due("cut() = 1", "count(5) = 0");
        for (int order = 21; order < 41; order++) {
            x.due("read(2, 2) = " + order);
        }
        x.due("read(2, 2) = CAPACITY_EXCEEDED", "count(5) = 20");
    }

    @Sentence(head = "Orders", says = "An order waits, is done, or is lost.")
    static void promise13_anOrderWaitsIsDoneOrIsLost() {
        new Run().due("read(0, 0) = 0", "read(0, 1) = 1", "order(0, 3) = 0", "order(1, 3) = 0",
                "pass(1) = 1", "order(0, 3) = 1", "order(1, 3) = 0", "cut() = 0",
                "order(0, 3) = 1", "order(1, 3) = 2", "count(5) = 0", "count(6) = 1", "count(7) = 1", "pass(200) = 0",
                "order(0, 3) = 1", "order(1, 3) = 2");
    }

    @Sentence(head = "Orders", says = "A track has work if an order waits for one of its blocks,")
    static void promise17_aTrackHasWorkIfAnOrderWaitsForAnyOfItsBlocks() {
        // The first block and the last one.
        new Run().due("idleIn() = 0", "read(0, 0) = 0", "idleIn() = 1", "pass(1) = 1", "idleIn() = 0");
        // Moved at 0, 1 and 2, read at 5 by the side 1.
        new Run().due("read(3, 11) = 0", "idleIn() = 6", "pass(5) = 0", "idleIn() = 1", "pass(1) = 1", "idleIn() = 0");
        new Run().due("write(3, 11, 1) = 0", "cut() = 0", "idleIn() = 0", "pass(1) = 0", "count(1) = 0");
    }

    @Sentence(head = "Orders", says = "or a copy of one of its blocks is late.")
    static void promise17_aTrackHasWorkIfACopyIsLate() {
        Run x = new Run().due("write(0, 0, 5) = 0", "write(0, 11, 6) = 1", "pass(1) = 1", "pass(5) = 1", "count(5) = 0");
        // The sides 1 of 0, 0 and 0 of 0, 11 are late until 6 and 11, and the arm stays so long.
        x.due("idleIn() = 6", "read(1, 2) = 2", "pass(1) = 0", "count(8) = 1", "pass(5) = 0", "count(8) = 0",
                "count(1) = 0", "count(0) = 12", "pass(1) = 0", "count(1) = 1");
    }
}
