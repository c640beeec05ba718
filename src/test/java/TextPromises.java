/** What stands under the promises 8 to 10: append, clearText and run; the programs have their own sentences. */
final class TextPromises {
    private static final String APPEND = "Promise 8: append";
    private static final String CLEAR = "Promise 9: clearText";
    private static final String RUN = "Promise 10: run";

    private TextPromises() {
    }

    @Sentence(head = APPEND, says = "Appends a character to the text.")
    static void promise8_appendsBehindTheOthers() {
        // x; and then what makes it fail at its place.
        new Run().due("append(120) = 1", "run() = -1001", "append(59) = 2", "run() = 1", "append(121) = 3", "run() = -1002",
                "count(13) = 1");
    }

    @Sentence(head = APPEND, says = {"- `character`: character code, 1 to 255",
        "INVALID_ARGUMENT if character is out of range;"})
    static void promise8_characterIs1To255() {
        new Run().due("append(1) = 1", "append(255) = 2", "append(0) = INVALID_ARGUMENT", "append(256) = INVALID_ARGUMENT",
                "append(-1) = INVALID_ARGUMENT", "append(LEAST) = INVALID_ARGUMENT", "append(GREATEST) = INVALID_ARGUMENT",
                // A character whose code has the low bits of an x.
                "append(376) = INVALID_ARGUMENT", "count(14) = 2", "count(13) = 0", "run() = -1000");
        Run x = new Run();
        for (int character = 1; character <= 255; character++) {
            x.due("append(" + character + ") = 1", "clearText() = 1");
        }
    }

    @Sentence(head = APPEND, says = "Returns the new length of the text;")
    static void promise8_returnsTheNewLengthFrom1To80() {
        Run x = new Run();
        for (int length = 1; length <= 80; length++) {
            x.due("append(" + (length % 2 == 0 ? 59 : 120) + ") = " + length, "count(14) = " + length);
        }
        x.due("run() = 40");
    }

    @Sentence(head = APPEND, says = "CAPACITY_EXCEEDED if the text already has 80 characters.")
    static void promise8_noRoomBehind80Characters() {
        Run x = new Run().times(79, "append(120)");
        x.due("count(14) = 79", "append(120) = 80", "append(120) = CAPACITY_EXCEEDED", "append(1) = CAPACITY_EXCEEDED",
                "append(255) = CAPACITY_EXCEEDED", "count(14) = 80", "clearText() = 80", "append(120) = 1");
    }

    @Sentence(head = CLEAR, says = "Makes the text empty.")
    static void promise9_makesTheTextEmpty() {
        new Run().text("y").due("run() = -1000", "clearText() = 1", "count(14) = 0", "run() = 0", "append(120) = 1",
                "append(59) = 2", "run() = 1");
        // It is no action, and an empty text can be made empty.
        new Run().due("clearText() = 0", "clearText() = 0", "count(14) = 0", "count(13) = 0");
        // A shorter text behind a longer one has nothing of it.
        new Run().text("x;x;x;x;").due("run() = 4").text("x").due("run() = -1001").text("t5").due("run() = -1002",
                "count(0) = 0");
    }

    @Sentence(head = CLEAR, says = "Returns the previous length of the text.")
    static void promise9_returnsThePreviousLengthFrom0To80() {
        new Run().due("clearText() = 0", "append(120) = 1", "clearText() = 1", "clearText() = 0");
        new Run().times(79, "append(120)").due("clearText() = 79").times(80, "append(120)")
                .due("append(120) = CAPACITY_EXCEEDED", "clearText() = 80", "clearText() = 0");
    }

    @Sentence(head = RUN, says = {"Runs the text as a program;", "it stays as it is."})
    static void promise10_theTextStaysAsItIs() {
        new Run().text("t5;x;").due("run() = 2", "count(14) = 5", "run() = 2", "count(0) = 10", "clearText() = 5");
        new Run().text("t5;y;").due("run() = -1003", "count(14) = 5", "run() = -1003").text("t5;t0;")
                .due("run() = -1003", "count(14) = 6", "run() = -1003", "clearText() = 6");
        // A run that failed with groups open, or with too many acts, leaves nothing to the next one.
        new Run().text("(((x;").due("run() = -1005", "run() = -1005").text("(((x;)))").due("run() = 1", "run() = 1")
                .text("x;)").due("run() = -1002").text("9(9(9(x;)))").due("run() = -1006").text("9(9(x;))").due("run() = 81");
    }

    @Sentence(head = RUN, says = "If it does not fail, this is one action, also without acts.")
    static void promise10_aRunIsOneActionAlsoWithoutActs() {
        new Run().due("run() = 0", "count(13) = 1").text("()").due("run() = 0", "count(13) = 2", "undo() = 1", "undo() = 0",
                "undo() = ILLEGAL_STATE");
        // Many acts are one action too.
        new Run().text("w0,0=5;9(9(t1;)x;)x;x;").due("run() = 93", "count(13) = 1",
                "count(0) = 81", "undo() = 0", "count(0) = 0", "count(4) = 0");
        // One that fails is none, whatever it fails at.
        new Run().text("y").due("run() = -1000", "count(13) = 0").text("t1;t0;").due("run() = -1003", "count(13) = 0")
                .text("9(9(2(x;)))").due("run() = -1006", "count(13) = 0", "undo() = ILLEGAL_STATE");
    }

    @Sentence(head = RUN, says = "Returns the number of acts with letters that were run;")
    static void promise10_returnsTheNumberOfActsFrom0To100() {
        new Run().due("run() = 0").text("9(9())").due("run() = 0").text("x;").due("run() = 1")
                .text("9(9(x;)2(x;))x;").due("run() = 100").text("r0,0;w0,0=0;t1;x;(x;)").due("run() = 5");
    }

    @Sentence(head = RUN, says = "-1000 minus the place of the failure if it fails.")
    static void promise10_returnsMinus1000MinusThePlaceFrom0To80() {
        new Run().text("y").due("run() = -1000").text("t0;").due("run() = -1000").text("x").due("run() = -1001")
                .text("x;".repeat(39) + "xy").due("run() = -1079").text("x;".repeat(39) + "((").due("run() = -1080");
    }
}
