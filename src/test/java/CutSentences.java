/** What stands under "Power cuts and sweeps". */
final class CutSentences {
    private static final String HEAD = "Power cuts and sweeps";

    private CutSentences() {
    }

    @Sentence(head = HEAD, says = "A power cut tears each copy that was written by a head in the tick before")
    static void promise5_aCutTearsWhatWasWrittenInTheTickBefore() {
        // In the tick 0 there is no tick before; a tick ago is torn, two ticks ago is not.
        new Run().due("cut() = 0", "count(9) = 0");
        new Run().due("write(0, 0, 5) = 0", "pass(1) = 1", "cut() = 1").copy(0, 0, 0, 5, 1, 1, 0).copy(1, 0, 0, 0, 0, 0, 0);
        new Run().due("write(0, 0, 5) = 0", "pass(2) = 1", "cut() = 0").copy(0, 0, 0, 5, 1, 0, 0).copy(1, 0, 0, 0, 0, 0, 0);
        // An order that came meanwhile is no tick, nor is a text.
        new Run().due("write(0, 0, 5) = 0", "pass(1) = 1", "read(2, 2) = 1").text("x;").due("cut() = 1");
        // Each copy: one by each head.
        new Run().due("write(0, 0, 5) = 0", "write(0, 6, 6) = 1", "pass(1) = 2", "cut() = 2", "copy(0, 0, 0, 2) = 1",
                "copy(1, 0, 6, 2) = 1", "copy(1, 0, 0, 2) = 0", "copy(0, 0, 6, 2) = 0", "count(9) = 2");
        // In the last tick of several, the second head alone.
        new Run().due("write(0, 0, 5) = 0", "write(0, 7, 6) = 1", "pass(2) = 2", "cut() = 1", "copy(1, 0, 7, 2) = 1",
                "copy(0, 0, 0, 2) = 0");
        // A tick in which the arm moves writes nothing.
        new Run().due("write(0, 0, 5) = 0", "read(1, 0) = 1", "pass(7) = 1", "pass(1) = 0", "count(1) = 1", "cut() = 0");
    }

    @Sentence(head = HEAD, says = "(by (1) or (2),")
    static void promise5_aCutTearsByCopyingOrWritingNotByReading() {
        new Run().due("write(0, 0, 5) = 0", "pass(7) = 1", "cut() = 1", "copy(1, 0, 0, 2) = 1", "copy(0, 0, 0, 2) = 0");
        new Run().due("write(0, 0, 5) = 0", "pass(8) = 1", "cut() = 0", "count(9) = 0");
        new Run().due("read(0, 0) = 0", "read(0, 6) = 1", "pass(1) = 2", "cut() = 0", "count(9) = 0");
        // One head copies and the other one writes in the same tick.
        new Run().due("write(0, 0, 5) = 0", "pass(1) = 1", "write(0, 6, 6) = 1", "pass(6) = 1", "cut() = 2",
                "copy(1, 0, 0, 2) = 1", "copy(0, 0, 6, 2) = 1");
    }

    @Sentence(head = HEAD, says = "not by a sweep);")
    static void promise5_aCutDoesNotTearWhatASweepWrote() {
        new Run().due("write(0, 0, 5) = 0", "pass(2) = 1", "cut() = 0", "sweep() = 1", "cut() = 0", "count(9) = 0");
        // What a head wrote in the tick before the sweep is not torn behind it either.
        new Run().due("write(0, 0, 5) = 0", "pass(7) = 1", "sweep() = 0", "cut() = 0", "count(9) = 0");
        Run x = new Run();
        Made.tornTwice(x);
        x.due("sweep() = 0", "cut() = 0", "count(9) = 0");
    }

    @Sentence(head = HEAD, says = "no copy is late any more, and")
    static void promise5_noCopyIsLateBehindACut() {
        Run x = new Run();
        for (int sector = 0; sector < 12; sector++) {
            x.due("write(0, " + sector + ", 7) = " + sector);
        }
        x.due("pass(6) = 12", "count(8) = 12", "cut() = 2", "count(8) = 0", "idleIn() = 0", "pass(50) = 0", "count(10) = 12");
        for (int sector = 0; sector < 12; sector++) {
            x.due("copy(0, 0, " + sector + ", 3) = 0", "copy(1, 0, " + sector + ", 3) = 0");
        }
        new Run().due("count(8) = 0", "cut() = 0", "count(8) = 0");
    }

    @Sentence(head = HEAD, says = "all orders that wait are lost.")
    static void promise5_allOrdersThatWaitAreLost() {
        Run x = new Run();
        Made.twentyWait(x);
        x.due("cut() = 0", "count(4) = 20", "count(5) = 0", "count(6) = 0", "count(7) = 20");
        for (int order = 0; order < 20; order++) {
            x.due("order(" + order + ", 3) = 2");
        }
        x.due("pass(100) = 0", "count(1) = 0", "count(7) = 20");
        // None waits: what is done stays done, and what is lost stays lost.
        new Run().due("read(0, 0) = 0", "pass(1) = 1", "cut() = 0", "count(6) = 1", "count(7) = 0", "read(3, 3) = 1",
                "cut() = 0", "cut() = 0", "count(6) = 1", "count(7) = 1");
    }

    @Sentence(head = HEAD, says = "A sweep takes 48 ticks,")
    static void promise6_aSweepTakes48Ticks() {
        new Run().due("sweep() = 0", "count(0) = 48", "count(2) = 0", "count(3) = 6", "sweep() = 0", "count(0) = 96",
                "pass(5) = 0", "sweep() = 0", "count(0) = 149", "count(2) = 5");
    }

    @Sentence(head = HEAD, says = "behind which the arm is on the track 3;")
    static void promise6_theArmIsOnTheTrack3BehindASweep() {
        new Run().due("count(1) = 0", "sweep() = 0", "count(1) = 3", "sweep() = 0", "count(1) = 3", "count(12) = 0");
        new Run().due("read(2, 2) = 0", "pass(20) = 1", "count(1) = 2", "sweep() = 0", "count(1) = 3", "count(12) = 2");
    }

    @Sentence(head = HEAD, says = "by it, for each block:")
    static void promise6_theFirstBlockAndTheLastOneAreSwept() {
        // 0, 0 is written at 0 and its copying is cut off at 2; 3, 11 at 5, and cut off at 7.
        Run x = new Run().due("write(0, 0, 5) = 0", "pass(2) = 1", "cut() = 0", "write(3, 11, 9) = 1", "pass(5) = 1",
                "cut() = 0", "count(10) = 2", "sweep() = 2", "count(10) = 0");
        x.copy(1, 0, 0, 5, 1, 0, 0).copy(0, 3, 11, 9, 1, 0, 0).copy(0, 0, 0, 5, 1, 0, 0).copy(1, 3, 11, 9, 1, 0, 0);
        // A whole track: six copies of each side.
        Run y = new Run();
        for (int sector = 0; sector < 12; sector++) {
            y.due("write(0, " + sector + ", " + (sector + 1) + ") = " + sector);
        }
        y.due("pass(6) = 12", "cut() = 2", "sweep() = 12");
        for (int sector = 0; sector < 12; sector++) {
            // The two that were torn, 5 and 11, have lost their values.
            int value = sector % 6 == 5 ? 0 : sector + 1;
            int version = sector % 6 == 5 ? 0 : 1;
            y.copy(0, 0, sector, value, version, 0, 0).copy(1, 0, sector, value, version, 0, 0);
        }
    }

    @Sentence(head = HEAD, says = {"if both copies are torn, both become whole, with the value 0 and the version 0,",
        "and the block counts as wiped;"})
    static void promise6_aBlockTornTwiceIsWiped() {
        Run x = new Run();
        Made.tornTwice(x);
        x.due("count(11) = 0", "sweep() = 0", "count(11) = 1", "count(9) = 0");
        x.copy(0, 0, 0, 0, 0, 0, 0).copy(1, 0, 0, 0, 0, 0, 0);
        // The versions begin again.
        x.due("write(0, 0, 3) = 2", "pass(30) = 1").copy(0, 0, 0, 3, 1, 0, 0).copy(1, 0, 0, 3, 1, 0, 0);
        // One torn copy is not enough.
        new Run().due("write(0, 0, 5) = 0", "pass(1) = 1", "cut() = 1", "sweep() = 1", "count(11) = 0");
    }

    @Sentence(head = HEAD, says = "if one is torn, that one,")
    static void promise6_aTornCopyTakesValueAndVersionWhicheverIsGreater() {
        // Torn with the greater version, on each side.
        new Run().due("write(0, 0, 5) = 0", "write(0, 6, 6) = 1", "pass(1) = 2", "cut() = 2", "sweep() = 2")
                .copy(0, 0, 0, 0, 0, 0, 0).copy(1, 0, 0, 0, 0, 0, 0)
                .copy(0, 0, 6, 0, 0, 0, 0).copy(1, 0, 6, 0, 0, 0, 0);
        // Torn with the smaller version: the side 0 has 1, the side 1 has 2 since 6.
        new Run().due("write(0, 0, 5) = 0", "pass(1) = 1", "cut() = 1", "write(0, 0, 6) = 1", "pass(7) = 1", "cut() = 0",
                "count(9) = 1", "sweep() = 1").copy(0, 0, 0, 6, 2, 0, 0).copy(1, 0, 0, 6, 2, 0, 0);
        // Torn with the same version: it was being copied.
        new Run().due("write(0, 0, 5) = 0", "pass(7) = 1", "cut() = 1", "count(10) = 0", "sweep() = 1", "count(9) = 0")
                .copy(0, 0, 0, 5, 1, 0, 0).copy(1, 0, 0, 5, 1, 0, 0);
    }

    @Sentence(head = HEAD, says = {"otherwise the one with the smaller version, takes value and version from the other one,"})
    static void promise6_otherwiseTheSmallerVersionTakesFromTheGreaterOne() {
        // 1 and 0 on the sides 0 and 1, and 0 and 1.
        new Run().due("write(0, 0, 900) = 0", "write(0, 6, 0) = 1", "pass(2) = 2", "cut() = 0", "sweep() = 2")
                .copy(1, 0, 0, 900, 1, 0, 0).copy(0, 0, 0, 900, 1, 0, 0)
                .copy(0, 0, 6, 0, 1, 0, 0).copy(1, 0, 6, 0, 1, 0, 0);
        // 1 and 2: the smaller value stands by the greater version.
        new Run().due("write(0, 0, 900) = 0", "pass(2) = 1", "cut() = 0", "write(0, 0, 3) = 1", "pass(6) = 1", "cut() = 0",
                "sweep() = 1").copy(0, 0, 0, 3, 2, 0, 0).copy(1, 0, 0, 3, 2, 0, 0);
        // Neither is smaller.
        new Run().due("write(0, 0, 900) = 0", "pass(8) = 1", "sweep() = 0").copy(0, 0, 0, 900, 1, 0, 0);
    }

    @Sentence(head = HEAD, says = "and is not torn any more.")
    static void promise6_aRepairedCopyIsNotTornAnyMore() {
        new Run().due("write(0, 0, 5) = 0", "pass(1) = 1", "cut() = 1", "copy(0, 0, 0, 2) = 1", "sweep() = 1",
                "copy(0, 0, 0, 2) = 0", "count(9) = 0", "sweep() = 0");
        new Run().due("write(0, 6, 5) = 0", "pass(1) = 1", "cut() = 1", "copy(1, 0, 6, 2) = 1", "sweep() = 1",
                "copy(1, 0, 6, 2) = 0", "count(9) = 0", "read(0, 6) = 1", "pass(20) = 1", "order(1, 7) = 0");
    }
}
