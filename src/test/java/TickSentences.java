/** What stands under "A tick". */
final class TickSentences {
    private static final String HEAD = "A tick";

    private TickSentences() {
    }

    @Sentence(head = HEAD, says = "In a tick the following is done:")
    static void promise4_inEachTickTheFollowingIsDone() {
        // Many at once are the same as one by one; five runs of nothing make the histories alike.
        Alike.due("pass(13) as pass(1) thirteen times", x -> {
            Made.busy(x);
            x.times(13, "pass(1)").text("").times(5, "run() = 0");
        }, x -> {
            Made.busy(x);
            x.due("pass(13) = 1").text("").times(5, "run() = 0");
        });
    }

    @Sentence(head = HEAD, says = {"If the track on which the arm is has work, the head of the side 0, "
            + "and then that of the side 1,", "does at most one thing with the block under it,"})
    static void promise4_eachHeadDoesAtMostOneThing() {
        Run x = new Run().due("read(0, 0) = 0", "read(0, 0) = 1", "read(0, 6) = 2", "read(0, 6) = 3");
        x.due("pass(1) = 2", "order(0, 3) = 1", "order(1, 3) = 0", "order(2, 3) = 1", "order(3, 3) = 0");
        // The next time that one of the heads is over them is at 6.
        x.due("pass(5) = 0", "pass(1) = 2", "order(1, 5) = 6", "order(1, 6) = 1", "order(3, 5) = 6", "order(3, 6) = 0");
        // Copying is one thing, and so is writing.
        new Run().due("write(0, 0, 5) = 0", "pass(1) = 1", "write(0, 0, 6) = 1", "read(0, 0) = 2", "pass(5) = 0",
                "pass(1) = 0", "count(8) = 0", "pass(5) = 0", "pass(1) = 1", "order(1, 3) = 1", "order(2, 3) = 0");
    }

    @Sentence(head = HEAD, says = "the first of these that is possible:")
    static void promise4_copyingGoesBeforeWritingAndWritingBeforeReading() {
        Run x = new Run().due("read(0, 0) = 0", "write(0, 0, 5) = 1", "write(0, 0, 6) = 2");
        x.due("pass(1) = 1", "order(1, 5) = 0").counts(1, 0, 1, 7, 3, 2, 1, 0, 1);
        x.due("pass(6) = 0").copy(1, 0, 0, 5, 1, 0, 0);
        x.due("pass(5) = 0", "pass(1) = 1", "order(2, 5) = 12", "order(0, 3) = 0");
        x.due("pass(6) = 0", "pass(5) = 0", "pass(1) = 1", "order(0, 5) = 24", "order(0, 7) = 6");
    }

    @Sentence(head = HEAD, says = {"(1) if its copy is late, and the copy on the other side is not torn,",
        "it takes value and version from there;"})
    static void promise4_aLateCopyTakesValueAndVersion() {
        Run x = new Run().due("write(0, 0, 5) = 0", "pass(2) = 1", "cut() = 0", "write(0, 0, 9) = 1");
        // The side 1 has the version 2 from 6 on, and the side 0 the version 1 until 12.
        x.due("pass(5) = 1").copy(1, 0, 0, 9, 2, 0, 0).copy(0, 0, 0, 5, 1, 0, 1);
        x.due("pass(5) = 0").copy(0, 0, 0, 5, 1, 0, 1).due("pass(1) = 0").copy(0, 0, 0, 9, 2, 0, 0);
        x.copy(1, 0, 0, 9, 2, 0, 0).due("count(0) = 13", "count(6) = 2");
    }

    @Sentence(head = HEAD, says = "it is neither late nor torn any more. (2)")
    static void promise4_aCopiedCopyIsNeitherLateNorTorn() {
        Run x = new Run();
        Made.tornTwice(x);
        x.due("write(0, 0, 7) = 2", "pass(5) = 0", "pass(1) = 1").copy(0, 0, 0, 7, 3, 0, 0).copy(1, 0, 0, 6, 2, 1, 1);
        x.due("pass(5) = 0").copy(1, 0, 0, 6, 2, 1, 1).due("count(8) = 1", "count(9) = 1");
        x.due("pass(1) = 0").copy(1, 0, 0, 7, 3, 0, 0).due("count(8) = 0", "count(9) = 0");
    }

    @Sentence(head = HEAD, says = "If a write waits for the block, the one with the smallest number is done:")
    static void promise4_theWriteWithTheSmallestNumberIsDone() {
        Run x = new Run().due("write(0, 1, 4) = 0", "write(0, 0, 900) = 1", "write(0, 0, 8) = 2", "write(0, 0, 5) = 3");
        x.due("pass(1) = 1", "order(1, 3) = 1", "copy(0, 0, 0, 0) = 900", "pass(12) = 2", "order(2, 5) = 12",
                "order(3, 3) = 0", "copy(0, 0, 0, 0) = 8", "pass(12) = 1", "order(3, 5) = 24", "copy(0, 0, 0, 0) = 5");
    }

    @Sentence(head = HEAD, says = {"its copy gets the value,", "and a version that is 1 more than the greater version "
            + "of both copies;"})
    static void promise4_theVersionIs1MoreThanTheGreaterOne() {
        // Both are 0.
        new Run().due("write(0, 0, 5) = 0", "pass(1) = 1").copy(0, 0, 0, 5, 1);
        // The greater one is that of the other side: 1 and 0.
        new Run().due("write(0, 0, 5) = 0", "pass(1) = 1", "cut() = 1", "write(0, 0, 6) = 1", "pass(6) = 1")
                .copy(1, 0, 0, 6, 2).copy(0, 0, 0, 5, 1);
        // It is its own: 1 and 0.
        new Run().due("write(0, 0, 5) = 0", "pass(2) = 1", "cut() = 0", "pass(5) = 0", "write(0, 0, 6) = 1",
                "pass(5) = 0", "pass(1) = 1").copy(0, 0, 0, 6, 2).copy(1, 0, 0, 0, 0);
        // Both are 1.
        new Run().due("write(0, 0, 5) = 0", "pass(7) = 1", "write(0, 0, 6) = 1", "pass(6) = 1")
                .copy(0, 0, 0, 6, 2).copy(1, 0, 0, 5, 1);
    }

    @Sentence(head = HEAD, says = "it is neither late nor torn any more, and")
    static void promise4_aWrittenCopyIsNotTornAnyMore() {
        Run x = new Run();
        Made.tornTwice(x);
        x.due("copy(0, 0, 0, 2) = 1", "write(0, 0, 7) = 2", "pass(5) = 0", "copy(0, 0, 0, 2) = 1", "pass(1) = 1",
                "copy(0, 0, 0, 2) = 0", "copy(0, 0, 0, 3) = 0", "copy(1, 0, 0, 2) = 1");
    }

    @Sentence(head = HEAD, says = "the copy of the other side is late then.")
    static void promise4_theOtherCopyIsLateThen() {
        new Run().due("write(0, 0, 5) = 0", "write(0, 6, 5) = 1", "count(8) = 0", "pass(1) = 2", "count(8) = 2",
                "copy(1, 0, 0, 3) = 1", "copy(0, 0, 0, 3) = 0", "copy(0, 0, 6, 3) = 1", "copy(1, 0, 6, 3) = 0",
                "copy(1, 0, 6, 0) = 5", "copy(0, 0, 6, 0) = 0");
        // It is late too if it was like the written one before: a write of the value that stands there.
        new Run().due("write(0, 0, 0) = 0", "pass(1) = 1", "copy(1, 0, 0, 3) = 1", "copy(0, 0, 0, 1) = 1");
    }

    @Sentence(head = HEAD, says = "(3) If a read waits for the block, and its copy is neither late nor torn,")
    static void promise4_aReadNeedsACopyThatIsNeitherLateNorTorn() {
        // The side 0 is torn: the side 1 reads at 6 and 18, but the side 0 not at 12.
        new Run().due("write(0, 0, 5) = 0", "pass(1) = 1", "cut() = 1", "read(0, 0) = 1", "read(0, 0) = 2",
                "pass(5) = 0", "pass(1) = 1", "order(1, 5) = 6", "order(1, 6) = 1", "pass(11) = 0", "pass(1) = 1",
                "order(2, 5) = 18", "order(2, 6) = 1");
        // The side 1 is late at 6, and copies then; the side 0 reads at 12.
        new Run().due("write(0, 0, 5) = 0", "pass(1) = 1", "read(0, 0) = 1", "pass(6) = 0", "pass(5) = 0",
                "pass(1) = 1", "order(1, 5) = 12", "order(1, 6) = 0", "order(1, 7) = 5");
    }

    @Sentence(head = HEAD, says = "the read with the smallest number is done, with the value of the copy for its answer.")
    static void promise4_theReadWithTheSmallestNumberIsAnsweredByTheCopy() {
        // The copies are unlike, 5 on the side 0 and 0 on the side 1; each answers with its own.
        new Run().due("write(0, 0, 5) = 0", "pass(2) = 1", "cut() = 0", "read(0, 0) = 1", "read(0, 0) = 2",
                "pass(5) = 1", "order(1, 3) = 1", "order(2, 3) = 0", "order(1, 6) = 1", "order(1, 7) = 0",
                "pass(6) = 1", "order(2, 6) = 0", "order(2, 7) = 5");
        // The least and the greatest answer.
        new Run().due("write(0, 0, 999) = 0", "read(0, 0) = 1", "pass(13) = 2", "order(1, 7) = 999",
                "write(0, 0, 0) = 2", "read(0, 0) = 3", "pass(24) = 2", "order(3, 7) = 0");
    }

    @Sentence(head = HEAD, says = "- Otherwise,")
    static void promise4_theArmStaysWhereItHasWork() {
        // The track 0 has work in the tick 5 still, though no head can do it before; none at 6.
        new Run().due("read(0, 5) = 0", "read(1, 8) = 1", "pass(5) = 0", "count(1) = 0", "count(12) = 0",
                "pass(1) = 1", "count(1) = 0", "count(12) = 0", "pass(1) = 0", "count(1) = 1", "count(12) = 1");
    }

    @Sentence(head = HEAD, says = "if any track has work,")
    static void promise4_withoutWorkTheArmStays() {
        new Run().due("pass(200) = 0", "count(1) = 0", "count(12) = 0", "sweep() = 0", "pass(200) = 0",
                "count(1) = 3", "count(12) = 0");
        new Run().due("read(2, 2) = 0", "pass(200) = 1", "count(1) = 2", "count(12) = 2");
        new Run().due("read(2, 2) = 0", "pass(1) = 0", "cut() = 0", "pass(9) = 0", "count(1) = 1", "count(12) = 1");
    }

    @Sentence(head = HEAD, says = "the arm moves by one track")
    static void promise4_theArmMovesByOneTrackATick() {
        // From the first track to the last one and back.
        Run x = new Run().due("read(3, 2) = 0");
        for (int track = 1; track <= 3; track++) {
            x.due("count(1) = " + (track - 1), "pass(1) = 0", "count(1) = " + track, "count(12) = " + track);
        }
        // At 8 the side 1 is over the sector 2.
        x.due("pass(5) = 0", "pass(1) = 1", "count(1) = 3", "count(12) = 3", "read(0, 0) = 1");
        for (int track = 2; track >= 0; track--) {
            x.due("pass(1) = 0", "count(1) = " + track, "count(12) = " + (6 - track));
        }
        x.due("pass(1) = 1", "count(1) = 0", "order(1, 5) = 12");
    }

    @Sentence(head = HEAD, says = "towards the nearest track that has work,")
    static void promise4_theArmMovesToTheNearestTrackThatHasWork() {
        // From the track 2: the track 3 is nearer than the track 0.
        new Run().due("read(2, 8) = 0", "pass(3) = 1", "read(0, 0) = 1", "read(3, 0) = 2", "pass(1) = 0", "count(1) = 3");
        // From the track 1: the track 0 is nearer than the track 3.
        new Run().due("read(1, 1) = 0", "pass(2) = 1", "read(3, 0) = 1", "read(0, 0) = 2", "pass(1) = 0", "count(1) = 0");
        // From the track 0: the track 2 is nearer than the track 3, and is worked off before.
        new Run().due("read(3, 3) = 0", "read(2, 8) = 1", "pass(2) = 0", "count(1) = 2", "pass(1) = 1", "count(1) = 2",
                "order(1, 3) = 1", "pass(1) = 0", "count(1) = 3");
        // From the track 3: the track 1 is nearer than the track 0.
        new Run().due("sweep() = 0", "read(0, 0) = 0", "read(1, 2) = 1", "pass(2) = 0", "count(1) = 1",
                "pass(1) = 1", "count(1) = 1", "pass(1) = 0", "count(1) = 0");
    }

    @Sentence(head = HEAD, says = "of two that are as near the one with the smaller number.")
    static void promise4_ofTwoTracksAsNearTheSmallerOne() {
        // From the track 1 between 0 and 2, and from the track 2 between 1 and 3.
        new Run().due("read(1, 1) = 0", "pass(2) = 1", "read(2, 4) = 1", "read(0, 4) = 2", "pass(1) = 0", "count(1) = 0");
        new Run().due("read(2, 8) = 0", "pass(3) = 1", "read(3, 0) = 1", "read(1, 0) = 2", "pass(1) = 0", "count(1) = 1");
    }

    @Sentence(head = HEAD, says = "Then it is the next tick.")
    static void promise4_eachTickEndsWithTheNext() {
        // A tick with a thing done, one in which the arm moves, one without work, the last one.
        new Run().due("read(0, 0) = 0", "read(1, 2) = 1", "pass(1) = 1", "count(0) = 1", "pass(1) = 0", "count(0) = 2",
                "count(1) = 1", "pass(1) = 1", "count(0) = 3", "pass(1) = 0", "count(0) = 4");
        // In a tick in which the arm moves the heads do nothing, neither on the old track nor on the new one.
        new Run().due("read(1, 0) = 0", "pass(1) = 0", "order(0, 3) = 0", "pass(5) = 0", "pass(1) = 1", "order(0, 5) = 6");
    }

    @Sentence(head = HEAD, says = "(A read of a block of which each copy is torn or late waits on, and the arm stays by it.)")
    static void promise4_aReadOfABlockTornTwiceWaitsOnAndTheArmStays() {
        Run x = new Run();
        Made.tornTwice(x);
        x.due("read(0, 0) = 2", "read(1, 0) = 3", "pass(200) = 0", "pass(200) = 0", "count(1) = 0", "count(12) = 0",
                "count(5) = 2", "order(2, 3) = 0", "order(3, 3) = 0");
        // At 407 + 1 the side 0 writes, at 414 the side 1 copies, at 420 the side 0 reads; then the arm moves.
        x.due("write(0, 0, 7) = 4", "pass(2) = 1", "pass(11) = 0", "pass(1) = 1", "order(2, 5) = 420", "order(2, 7) = 7",
                "count(1) = 0", "pass(1) = 0", "count(1) = 1");
        // A write alone is done though each copy is torn.
        Run y = new Run();
        Made.tornTwice(y);
        y.due("write(0, 0, 8) = 2", "pass(6) = 1");
    }
}
