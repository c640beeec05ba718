/** What stands under "Programs". */
final class ProgramSentences {
    private static final String HEAD = "Programs";
    private static final String DIGITS = "0123456789";
    private static final String STARTS = "(23456789rwtx";

    private ProgramSentences() {
    }

    private static void succeeds(String text, int acts) {
        Run x = new Run().text(text);
        Due.is("run() of " + text, x.call("run()"), acts);
        x.due("count(13) = 1", "count(14) = " + text.length());
    }

    /** On a new object, which must be as new behind it. */
    private static void fails(String text, int place) {
        Run x = new Run().text(text);
        Due.is("run() of " + text, x.call("run()"), -1000 - place);
        x.counts(0, 0, 0, 6, 0, 0, 0, 0, 0, 0, 0, 0, 0, 0, text.length());
    }

    /** All characters are tried at the end of a text: each that isn't allowed is the place of the failure. */
    private static void allowedBehind(String text, String allowed) {
        for (int character = 1; character <= 255; character++) {
            Run x = new Run().text(text + (char) character);
            int got = x.call("run()");
            String what = "run() of " + text + " and the character " + character;
            if (allowed.indexOf(character) < 0) {
                Due.is(what, got, -1000 - text.length());
            } else {
                Due.holds(what + ", " + got + ", does not fail there", got != -1000 - text.length());
            }
        }
    }

    private static String repeated(String text, int times) {
        return text.repeat(times);
    }

    @Sentence(head = HEAD, says = "A text of at most 80 characters can be run as a program:")
    static void promise10_aTextOf80CharactersCanBeRun() {
        succeeds(repeated("t1;", 26) + "()", 26);
        succeeds(repeated("x;", 40), 40);
        succeeds("", 0);
        Run x = new Run().text(repeated("x;", 40)).due("append(120) = CAPACITY_EXCEEDED", "run() = 40");
    }

    @Sentence(head = HEAD, says = "program = { act }")
    static void promise10_aProgramIsNoneOneOrManyActs() {
        succeeds("", 0);
        succeeds("x;", 1);
        succeeds("x;t1;r0,0;w0,0=0;()x;", 5);
    }

    @Sentence(head = HEAD, says = "act = [ digit ] \"(\" program \")\" |")
    static void promise10_aGroupHasBothBracketsAndMayBeEmpty() {
        succeeds("()", 0);
        succeeds("9()", 0);
        succeeds(repeated("()", 40), 0);
        succeeds(repeated("((()))", 13) + "()", 0);
        succeeds("(x;)", 1);
        succeeds("3(x;t1;)", 6);
        fails("(", 1);
        fails("(x;", 3);
        fails("3(x;", 4);
        fails(")", 0);
        fails("(x;))", 4);
        fails("3x;", 1);
        fails("3)", 1);
        fails("3", 1);
    }

    @Sentence(head = HEAD, says = "\"r\" track \",\" sector \";\" |")
    static void promise10_aReadHasATrackASectorAndItsSigns() {
        succeeds("r0,0;", 1);
        succeeds("r3,11;", 1);
        fails("r,0;", 1);
        fails("r0;0;", 2);
        fails("r0,;", 3);
        fails("r0,0,", 4);
        fails("r0,0=0;", 4);
        fails("r0,0", 4);
    }

    @Sentence(head = HEAD, says = "\"w\" track \",\" sector \"=\" value \";\" |")
    static void promise10_aWriteHasATrackASectorAValueAndItsSigns() {
        succeeds("w0,0=0;", 1);
        succeeds("w3,11=999;", 1);
        fails("w,0=0;", 1);
        fails("w0=0=0;", 2);
        fails("w0,=0;", 3);
        fails("w0,0;", 4);
        fails("w0,0,0;", 4);
        fails("w0,0=;", 5);
        fails("w0,0=0,", 6);
        fails("w0,0=0", 6);
    }

    @Sentence(head = HEAD, says = "\"t\" number \";\" |")
    static void promise10_aPassHasANumberAndItsSign() {
        succeeds("t1;", 1);
        succeeds("t200;", 1);
        fails("t;", 1);
        fails("t1,", 2);
        fails("t1,1;", 2);
        fails("t1", 2);
    }

    @Sentence(head = HEAD, says = "\"x\" \";\"")
    static void promise10_aCutHasItsSignAlone() {
        succeeds("x;", 1);
        fails("x", 1);
        fails("x1;", 1);
        fails("xx;", 1);
        fails("x;;", 2);
    }

    @Sentence(head = HEAD, says = "A digit is 2 to 9,")
    static void promise10_aDigitIs2To9() {
        fails("0(x;)", 0);
        fails("1(x;)", 0);
        for (int digit = 2; digit <= 9; digit++) {
            succeeds(digit + "(x;)", digit);
        }
        // The characters beside the digits.
        fails("/(x;)", 0);
        fails(":(x;)", 0);
        // One digit, not a number.
        fails("10(x;)", 0);
        fails("22(x;)", 1);
        fails("20(x;)", 1);
        fails("(1(x;))", 1);
    }

    @Sentence(head = HEAD, says = "and says how often the group in brackets is run")
    static void promise10_aDigitSaysHowOftenTheGroupIsRun() {
        succeeds("9(x;)", 9);
        succeeds("2(x;3(x;4(x;)))", 32);
        succeeds("2(2(2(x;)))x;", 9);
        Alike.due("2(w0,0=5;t3;x;) as twice its acts",
                x -> x.text("w0,0=5;t3;x;w0,0=5;t3;x;").due("run() = 6").text("x;"),
                x -> x.text("2(w0,0=5;t3;x;)").due("run() = 6").text("x;"));
        Alike.due("2(r1,1;2(t9;)) as its acts in their order",
                x -> x.text("r1,1;t9;t9;r1,1;t9;t9;").due("run() = 6").text("x;"),
                x -> x.text("2(r1,1;2(t9;))").due("run() = 6").text("x;"));
    }

    @Sentence(head = HEAD, says = "(once without it);")
    static void promise10_aGroupWithoutADigitIsRunOnce() {
        succeeds("(x;)", 1);
        succeeds("(((x;)))", 1);
        succeeds("2((x;)x;)", 4);
        Alike.due("(w0,0=5;t3;) as its acts",
                x -> x.text("w0,0=5;t3;").due("run() = 2").text("x;"),
                x -> x.text("(w0,0=5;t3;)").due("run() = 2").text("x;"));
    }

    @Sentence(head = HEAD, says = "groups are nested at most 3 deep.")
    static void promise10_groupsAreNestedAtMost3Deep() {
        succeeds("((()))", 0);
        succeeds("(((x;)))", 1);
        fails("(((())))", 3);
        fails("((((x;))))", 3);
        succeeds("2(2(2(x;)))", 8);
        fails("2(2(2(2(x;))))", 7);
        // A group that is closed counts no more.
        succeeds("(((x;)(x;)))((()))(((x;)))", 3);
        fails("(((x;)))((((x;))))", 11);
        fails("(((x;)(x;(x;))))", 9);
        // A fourth one that is open at the end.
        fails("((((", 3);
        fails("(((", 3);
    }

    @Sentence(head = HEAD, says = "Numbers are 1 to 3 digits,")
    static void promise10_numbersAre1To3Digits() {
        succeeds("t1;t10;t100;", 3);
        fails("t;", 1);
        fails("t1000;", 4);
        fails("t1000", 4);
        // Three digits of a track or a sector are a number, though none that the call takes.
        fails("r999,0;", 0);
        fails("r1000,0;", 4);
        fails("r0,999;", 0);
        fails("r0,1000;", 6);
        fails("w100,0=0;", 0);
        fails("w1000,0=0;", 4);
        fails("w0,100=0;", 0);
        fails("w0,1000=0;", 6);
        succeeds("w0,0=9;w0,0=99;w0,0=999;", 3);
        fails("w0,0=1000;", 8);
        // The digits make the number that they say.
        new Run().text("t7;t12;t103;w0,10=805;").due("run() = 4", "count(0) = 122", "order(0, 2) = 10", "order(0, 7) = 805");
    }

    @Sentence(head = HEAD, says = "the first of several not 0.")
    static void promise10_theFirstOfSeveralDigitsIsNot0() {
        succeeds("w0,0=0;r0,10;t100;", 3);
        fails("t00;", 2);
        fails("t01;", 2);
        fails("t001;", 2);
        fails("r00,0;", 2);
        fails("r03,0;", 2);
        fails("r0,01;", 4);
        fails("w01,0=0;", 2);
        fails("w0,00=0;", 4);
        fails("w0,0=00;", 6);
        fails("w0,0=05;", 6);
    }

    @Sentence(head = HEAD, says = "Nothing else may stand in a text.")
    static void promise10_nothingElseMayStandInAText() {
        allowedBehind("", STARTS);
        allowedBehind("x;", STARTS);
        allowedBehind("()", STARTS);
        allowedBehind("(", STARTS + ")");
        allowedBehind("((x;", STARTS + ")");
    }

    @Sentence(head = HEAD, says = "\"r\" is read(),")
    static void promise10_rIsRead() {
        Alike.due("r3,11; as read(3, 11)",
                x -> x.text("r3,11;").due("write(0, 0, 5) = 0", "pass(1) = 1", "read(3, 11) = 1"),
                x -> x.text("r3,11;").due("write(0, 0, 5) = 0", "pass(1) = 1", "run() = 1"));
    }

    @Sentence(head = HEAD, says = "\"w\" write(),")
    static void promise10_wIsWrite() {
        Alike.due("w2,10=999; as write(2, 10, 999)",
                x -> x.text("w2,10=999;").due("read(0, 0) = 0", "pass(1) = 1", "write(2, 10, 999) = 1"),
                x -> x.text("w2,10=999;").due("read(0, 0) = 0", "pass(1) = 1", "run() = 1"));
    }

    @Sentence(head = HEAD, says = "\"t\" pass(),")
    static void promise10_tIsPass() {
        Alike.due("t200; as pass(200)",
                x -> x.text("t200;").due("write(0, 0, 5) = 0", "read(2, 1) = 1", "pass(200) = 2"),
                x -> x.text("t200;").due("write(0, 0, 5) = 0", "read(2, 1) = 1", "run() = 1"));
    }

    @Sentence(head = HEAD, says = "\"x\" cut().")
    static void promise10_xIsCut() {
        Alike.due("x; as cut()",
                x -> x.text("x;").due("write(0, 0, 5) = 0", "read(2, 1) = 1", "pass(1) = 1", "cut() = 1"),
                x -> x.text("x;").due("write(0, 0, 5) = 0", "read(2, 1) = 1", "pass(1) = 1", "run() = 1"));
        // A cut tears what the program wrote in the tick before, and what was written before it.
        new Run().text("w0,0=5;t1;x;").due("run() = 3", "count(9) = 1");
        new Run().text("w0,0=5;t2;x;").due("run() = 3", "count(9) = 0");
    }

    @Sentence(head = HEAD, says = "The text is read wholly before any of it is run.")
    static void promise10_theTextIsReadWhollyBeforeItIsRun() {
        fails("t0;y", 3);
        fails("r9,9;(", 6);
        fails("t5;w0,0=5;t1;y", 13);
        fails("t201;t201", 9);
    }

    @Sentence(head = HEAD, says = "It fails at the first character that is not allowed where it stands")
    static void promise10_itFailsAtTheFirstCharacterThatIsNotAllowed() {
        for (String text : new String[] {"2", "9", "(2", "x;9"}) {
            allowedBehind(text, "(");
        }
        allowedBehind("x", ";");
        for (String text : new String[] {"t", "r", "r0,", "r123,", "w", "w0,", "w123,", "w0,0=", "w0,123="}) {
            allowedBehind(text, DIGITS);
        }
        numbersEndWith("t", ";");
        numbersEndWith("r", ",");
        numbersEndWith("r0,", ";");
        numbersEndWith("r123,", ";");
        numbersEndWith("w", ",");
        numbersEndWith("w0,", "=");
        numbersEndWith("w123,", "=");
        numbersEndWith("w0,0=", ";");
        numbersEndWith("w0,123=", ";");
    }

    private static void numbersEndWith(String text, String sign) {
        allowedBehind(text + "0", sign);
        allowedBehind(text + "1", DIGITS + sign);
        allowedBehind(text + "12", DIGITS + sign);
        allowedBehind(text + "100", sign);
    }

    @Sentence(head = HEAD, says = "It fails at the first character that is not allowed where it stands")
    static void promise10_theFirstAndTheLastPlaceOfACharacterThatIsNotAllowed() {
        fails("y", 0);
        fails(repeated(")", 80), 0);
        fails("x;" + repeated("y", 78), 2);
        fails(repeated("t1;", 26) + "2)", 79);
        fails(repeated("x;", 39) + "x)", 79);
        fails(repeated("x;", 39) + "(y", 79);
        fails(repeated("x;", 38) + "t12=", 79);
        fails(repeated("x;", 38) + "t00;", 78);
    }

    @Sentence(head = HEAD, says = "(also a digit too many, be it one behind a 0,")
    static void promise10_itFailsAtADigitTooMany() {
        fails("t1234;", 4);
        fails("t1234", 4);
        fails("t00", 2);
        fails("t09;", 2);
        fails("w0,0=1234;", 8);
        fails("w0,0=01;", 6);
        // The last places of a text of 80; a digit that is not too many may be the last character too.
        fails(repeated("x;", 37) + "t10000", 78);
        fails(repeated("t1;", 25) + "t1000", 79);
        fails(repeated("t1;", 25) + "()t00", 79);
        fails(repeated("x;", 38) + "t100", 80);
    }

    @Sentence(head = HEAD, says = "and a \"(\" that is nested too deep),")
    static void promise10_itFailsAtABracketNestedTooDeep() {
        fails("((((x;))))", 3);
        fails("((((", 3);
        fails("x;(t1;(t1;(t1;(t1;))))", 14);
        // The first of two, and before a fault that stands behind it.
        fails("(((((x;)))))", 3);
        fails("((((y", 3);
        // The last character of a text of 80.
        fails(repeated("x;", 38) + "((((", 79);
        fails(repeated("x;", 38) + "(((2", 80);
    }

    @Sentence(head = HEAD, says = "at its length if it ends where something is missing,")
    static void promise10_itFailsAtItsLengthIfItEndsTooEarly() {
        String whole = "2(r3,11;w3,11=999;(t200;x;))";
        for (int length = 1; length < whole.length(); length++) {
            fails(whole.substring(0, length), length);
        }
        succeeds(whole, 8);
        for (String text : new String[] {"r", "r0", "r0,", "r0,0", "w", "w0", "w0,", "w0,0", "w0,0=", "w0,0=0", "t", "t1",
            "t0", "x", "2", "9", "("}) {
            fails(text, text.length());
        }
        // The full text.
        fails(repeated("t1;", 26) + "((", 80);
        fails(repeated("x;", 39) + "t1", 80);
        fails(repeated("(x;)", 19) + "w0,0", 80);
        fails("x;" + repeated("(((x;)))", 9) + "r0,11", 79);
    }

    @Sentence(head = HEAD, says = "or at the letter of the first act whose call returns an error code.")
    static void promise10_itFailsAtTheLetterOfTheFirstActThatReturnsAnErrorCode() {
        // The first place of a text, with each error code that a call returns.
        fails("t0;", 0);
        fails("t201;", 0);
        fails("r4,0;", 0);
        fails("r0,12;", 0);
        fails("w4,0=0;", 0);
        fails("w0,12=0;", 0);
        Run x = new Run();
        Made.atTick(x, 20000);
        x.text("t1;").due("run() = -1000").text("x;t200;").due("run() = -1002");
        // 20 wait, then 60 were taken.
        fails("9(r0,0;)9(w0,0=0;)2(r1,1;)r1,1;", 26);
        fails("9(r0,0;)9(w0,0=0;)2(r1,1;)w1,1=1;", 26);
        Run y = new Run();
        Made.lost(y, 59);
        y.text("r0,0;r0,0;").due("run() = -1005").text("(w0,0=0;)w0,0=0;").due("run() = -1009");
        // The last place at which a letter can stand, and the first of several that fail.
        fails(repeated("t1;", 25) + "()t0;", 77);
        fails("x;t0;t201;r9,9;", 2);
        // In a group: in the first turn, and in a later one.
        fails("x;2(t1;(t0;))", 8);
        fails("9(3(r0,0;))", 4);
        fails("3(9(w0,0=0;)t0;)", 12);
        // The last act that returns no error code.
        succeeds("9(r0,0;)9(w0,0=0;)2(r1,1;)", 20);
        succeeds("t1;t200;", 2);
    }

    @Sentence(head = HEAD, says = "If a program fails, nothing that it has done stays.")
    static void promise10_nothingStaysOfAProgramThatFails() {
        Alike.unchanged(x -> {
            Made.busy(x);
            x.text("w2,2=2;r1,1;t150;x;w0,0=1;t9;x;r0,0;t0;");
        }, "run() = -1036");
        Alike.unchanged(x -> {
            Made.busyWithRoom(x);
            x.text("t1;9(r0,0;)9(w0,0=0;)r1,1;");
        }, "run() = -1021");
        Alike.unchanged(x -> {
            Made.busy(x);
            x.text("t5;x;y");
        }, "run() = -1005");
        Alike.unchanged(x -> {
            Made.busyWithRoom(x);
            x.text("t5;x;9(9(t1;x;))");
        }, "run() = -1009");
        // A new object with an empty history.
        Alike.unchanged(x -> x.text("w0,0=5;t1;r0,12;"), "run() = -1010");
    }

    @Sentence(head = HEAD, says = "A program of which more than 100 acts with letters would be run fails at the letter of "
            + "the 101st,")
    static void promise10_100ActsAreRunAndTheProgramFailsAtThe101st() {
        succeeds("2(5(9(x;)x;))", 100);
        fails("2(5(9(x;)x;))x;", 13);
        fails("x;2(5(9(x;)x;))", 11);
        succeeds("9(9(x;))" + repeated("x;", 19), 100);
        fails("9(9(x;))" + repeated("x;", 20), 46);
        // The letters alone count, not the groups.
        succeeds("2(5(9(x;)x;()))" + repeated("()", 30), 100);
        // The 101st in a later turn of a group, and far behind.
        fails("9(9(t1;)x;x;x;)", 4);
        fails("9(2(x;)9(t1;)x;)", 9);
        fails("9(9(9(x;)))9(9(9(t1;)))", 6);
        fails("9(9(9(x;)))", 6);
        // The last places of a text at which a letter can stand.
        fails("9(9(x;))" + repeated("x;", 19) + repeated("()", 16) + "x;", 78);
        succeeds("9(9(x;))" + repeated("x;", 19) + repeated("()", 17), 100);
    }

    @Sentence(head = HEAD, says = "before any of its acts is run.")
    static void promise10_tooManyActsAreFoundBeforeAnyIsRun() {
        // The first act would return an error code.
        fails("t0;9(9(9(x;)))", 9);
        fails("9(9(9(r0,0;)))", 6);
        // A fault of the text comes before: it is read wholly.
        fails("9(9(9(x;)))y", 11);
        fails("9(9(9(x;)))(", 12);
    }
}
