/** The document's limits of the texts of commands: a test for each sentence that names one. */
public final class EdgesOfTextsTest {
    private static final Class<?> ARGUMENT = IllegalArgumentException.class;
    private static final Class<?> STATE = IllegalStateException.class;

    private static final Check CHECK = new Check();
    private static final String[] WORDS = {"edge", "line", "section", "timer", "raise", "up", "down", "set", "run"};
    private static final int[] NUMBERS = {2, 2, 4, 3, 1, 1, 1, 2, 1};

    public static void main(String[] arguments) {
        bytes();
        atMost150Bytes();
        textOf150Bytes();
        emptiedText();
        textWithoutCommands();
        numbersOfEachWord();
        callOfEachWord();
        oneToThreeDigits();
        fourthDigit();
        zerosInFront();
        spaceInFrontOfANumber();
        spacesThatMayStand();
        onlyByte32IsASpace();
        onlyDigitsAreNumbers();
        onlySmallLettersAreWords();
        semicolons();
        everyBeginning();
        wordsAtFault();
        wordCutOff();
        theFirstFault();
        rangesAreNoFaults();
        nothingIsDoneWithAFault();
        commandsUntilTheStop();
        stopOfEachException();
        stopOfTheLatestRun();
        oneStateForARun();
        aRunDropsTheOldestState();
        CHECK.end();
    }

    /** The answer to a run of this text on an object with some sources, so that most commands can be done. */
    private static int run(String text) {
        return Made.runText(some(), text);
    }

    private static NestedBells some() {
        return Made.with(new int[] {3, 0, 4}, new int[] {5, 1, 6});
    }

    private static void fault(String text, int index) {
        NestedBells x = some();
        long before = x.digest();
        Made.type(x, text);
        CHECK.due("runCommands() of '" + text + "'", x.runCommands(), -10 - index);
        CHECK.due("the text stays", x.clearCommands(), text.length());
        CHECK.due("nothing is done", x.digest(), before);
    }

    private static void fine(String text, int commands) {
        CHECK.due("runCommands() of '" + text + "'", run(text), commands);
    }

    /** "value: 0 to 127" */
    private static void bytes() {
        NestedBells x = new NestedBells();
        for (int bad : new int[] {-1, 128, Integer.MIN_VALUE, Integer.MAX_VALUE}) {
            CHECK.refused("type(" + bad + ")", x, ARGUMENT, () -> x.type(bad));
        }
        CHECK.due("the least byte", x.type(0), 1);
        CHECK.due("the greatest byte", x.type(127), 2);
        for (int value = 0; value < 128; value++) {
            NestedBells y = new NestedBells();
            y.type(value);
            boolean letter = value >= 'a' && value <= 'z';
            CHECK.due("the byte " + value + " alone", y.runCommands(), value == 32 ? 0 : -10);
            y.type('x');
            CHECK.due("the byte " + value + " and x", y.runCommands(), value == 32 ? -11 : -10);
            Made.runText(y, "up");
            y.type(value);
            CHECK.due("the byte " + value + " behind a word", y.runCommands(),
                    letter ? -10 : value == 32 ? -13 : -12);
        }
    }

    /** "The command text has at most 150 bytes." */
    private static void atMost150Bytes() {
        NestedBells x = new NestedBells();
        for (int length = 1; length <= 150; length++) {
            CHECK.due("type(59)", x.type(59), length);
        }
        CHECK.refused("a byte too many", x, STATE, () -> x.type(59));
        CHECK.refused("a byte too many that is out of range", x, ARGUMENT, () -> x.type(128));
        CHECK.refused("a byte too many that is out of range", x, ARGUMENT, () -> x.type(-1));
        CHECK.due("clearCommands()", x.clearCommands(), 150);
        CHECK.due("room again", x.type(59), 1);
    }

    private static void textOf150Bytes() {
        NestedBells x = new NestedBells();
        CHECK.due("25 commands of 6 bytes", Made.runText(x, "run 1;".repeat(25)), 25);
        CHECK.due("time", x.processor(0), 25);
        CHECK.due("150 spaces", Made.runText(x, " ".repeat(150)), 0);
        CHECK.due("spaces and a command", Made.runText(x, " ".repeat(144) + "run 9;"), 1);
        CHECK.due("a command and spaces", Made.runText(x, "run 9;" + " ".repeat(144)), 1);
        CHECK.due("spaces in a command", Made.runText(x, "run" + " ".repeat(145) + "9;"), 1);
        CHECK.due("150 letters", Made.runText(x, "r".repeat(150)), -10);
        CHECK.due("150 digits", Made.runText(x, "9".repeat(150)), -10);
        CHECK.due("150 semicolons", Made.runText(x, ";".repeat(150)), -10);
        CHECK.due("the greatest fault but the end", Made.runText(x, "run 1;".repeat(24) + "run 1x"), -10 - 149);
        CHECK.due("the end of the longest text", Made.runText(x, "run 1;".repeat(24) + "run 12"), -10 - 150);
        CHECK.due("time", x.processor(0), 25 + 27);
    }

    /** "Returns the length that it had." */
    private static void emptiedText() {
        NestedBells x = new NestedBells();
        CHECK.due("clearCommands() of an empty one", x.clearCommands(), 0);
        x.type('r');
        CHECK.due("clearCommands() of one byte", x.clearCommands(), 1);
        CHECK.due("clearCommands() again", x.clearCommands(), 0);
        CHECK.due("nothing is left of it", x.runCommands(), 0);
        Made.type(x, "un 1;");
        CHECK.due("nothing is left in front", x.runCommands(), -10);
        Made.runText(x, "run 1;");
        CHECK.due("nothing is left behind", Made.runText(x, "run"), -13);
    }

    /** "(perhaps none: a text that is empty, or has spaces alone, has no fault)" */
    private static void textWithoutCommands() {
        fine("", 0);
        fine(" ", 0);
        fine("     ", 0);
        NestedBells x = new NestedBells();
        CHECK.due("a new object", x.runCommands(), 0);
        CHECK.due("it saves a state", x.undo(), 0);
    }

    private static String command(int word, int numbers) {
        StringBuilder text = new StringBuilder(WORDS[word]);
        for (int i = 0; i < numbers; i++) {
            text.append(" 1");
        }
        return text.toString();
    }

    /** "followed by its numbers .. and a semicolon": one number too few, and one too many. */
    private static void numbersOfEachWord() {
        for (int word = 0; word < WORDS.length; word++) {
            String full = command(word, NUMBERS[word]);
            String less = command(word, NUMBERS[word] - 1);
            int done = WORDS[word].equals("timer") || WORDS[word].equals("raise") ? 0 : 1;
            fine(full + ";", done);
            fault(less + ";", less.length());
            fault(less + " ;", less.length() + 1);
            fault(full + " 1;", full.length() + 1);
            fault(full, full.length());
            fault(full + " ", full.length() + 1);
            fault(less, less.length());
        }
    }

    /** "The words are: edge p l (addSource(p, 0, l)), line p l (addSource(p, 1, l)), section s f l c .." */
    private static void callOfEachWord() {
        sameAs("edge 15 500;", x -> x.addSource(15, 0, 500));
        sameAs("line 15 500;", x -> x.addSource(15, 1, 500));
        sameAs("section 1 499 500 15;", x -> x.addSection(1, 499, 500, 15));
        sameAs("timer 0 999 1;", x -> x.setTimer(0, 999, 1));
        sameAs("timer 0 0 0;", x -> x.setTimer(0, 0, 0));
        sameAs("raise 0;", x -> x.raise(0));
        sameAs("up 1;", x -> x.setLine(1, true));
        sameAs("down 1;", x -> x.setLine(1, false));
        sameAs("set 0 15;", x -> x.set(0, 15));
        sameAs("set 3 50;", x -> x.set(3, 50));
        sameAs("run 500;", x -> x.run(500));
    }

    /** The command must do what the call does, from a line that is down and from one that is up. */
    private static void sameAs(String command, Check.Calls call) {
        for (boolean up : new boolean[] {false, true}) {
            NestedBells x = some();
            NestedBells y = some();
            x.setLine(1, up);
            y.setLine(1, up);
            CHECK.due("runCommands() of '" + command + "'", Made.runText(x, command), 1);
            call.make(y);
            x.clearCommands();
            CHECK.due("digest() behind '" + command + "'", x.digest(), y.digest());
        }
    }

    /** "each of one to three digits" */
    private static void oneToThreeDigits() {
        NestedBells x = new NestedBells();
        CHECK.due("one, two and three digits", Made.runText(x, "run 1;run 12;run 123;"), 3);
        CHECK.due("time", x.processor(0), 1 + 12 + 123);
        CHECK.due("the digits 0 and 9", Made.runText(x, "edge 9 490;set 0 0;"), 2);
        CHECK.due("length", x.source(0, 2), 490);
        CHECK.due("digits of each number", Made.runText(x, "section 0 109 210 11;timer 0 345 678;"), 2);
        int[] section = {109, 210, 11};
        for (int what = 0; what < 3; what++) {
            CHECK.due("section(0, 0, " + what + ")", x.section(0, 0, what), section[what]);
        }
        CHECK.due("ticks until the timer is due", x.source(0, 15), 345);
        CHECK.due("its period", x.setTimer(0, 0, 0), 678);
        fault("run ;", 4);
        fault("edge 1 ;", 7);
    }

    /** "a fourth digit cannot stand" */
    private static void fourthDigit() {
        for (int word = 0; word < WORDS.length; word++) {
            for (int place = 0; place < NUMBERS[word]; place++) {
                String start = command(word, place) + " 123";
                String rest = command(word, NUMBERS[word] - place - 1).substring(WORDS[word].length()) + ";";
                fault(start + "4" + rest, start.length());
                fault(start + "45" + rest, start.length());
                fault(start + "4", start.length());
                int done = run(start + rest);
                CHECK.due("three digits are no fault", done >= 0 ? 1 : 0, 1);
            }
        }
    }

    /** "(zeros in front are allowed; ..)" */
    private static void zerosInFront() {
        NestedBells x = new NestedBells();
        CHECK.due("zeros", Made.runText(x, "edge 07 008;raise 000;raise 00;set 00 01;"), 4);
        CHECK.due("priority", x.source(0, 0), 7);
        CHECK.due("length", x.source(0, 2), 8);
        CHECK.due("edges lost", x.source(0, 10), 1);
        CHECK.due("mask", x.processor(1), 1);
        fault("raise 0000;", 9);
        fault("run 0001;", 7);
    }

    /** "and with at least one space (byte 32) in front" */
    private static void spaceInFrontOfANumber() {
        fault("run1;", 3);
        fault("edge1 2;", 4);
        fault("edge 1;2;", 6);
        fault("edge 12;", 7);
        fault("section 0 1 2,3;", 13);
        fine("run 1;", 1);
        fine("run  1;", 1);
        fine("edge    1     2;", 1);
    }

    /** "Spaces may also stand in front of a command, in front of a semicolon, and at the end." */
    private static void spacesThatMayStand() {
        fine(" run 1;", 1);
        fine("   run 1;", 1);
        fine("run 1 ;", 1);
        fine("run 1   ;", 1);
        fine("run 1; ", 1);
        fine("run 1;   ", 1);
        fine("run 1; run 1;", 2);
        fine("  run 1  ;  run   1  ;  ", 2);
        fault("r un 1;", 0);
        fault("run 1 2;", 6);
        fault("up  1  0;", 7);
    }

    private static void onlyByte32IsASpace() {
        for (char other : new char[] {0, '\t', '\n', '\r', 31, 33, '_', 127}) {
            fault("" + other, 0);
            fault(other + "run 1;", 0);
            fault("run" + other + "1;", 3);
            fault("run " + other + "1;", 4);
            fault("run 1" + other + ";", 5);
            fault("run 1;" + other, 6);
        }
    }

    private static void onlyDigitsAreNumbers() {
        for (char other : new char[] {'/', ':', '-', '+', '.', 'a', 'O', 0}) {
            fault("run " + other + ";", 4);
            fault("run " + other + "1;", 4);
            fault("run 1" + other + ";", 5);
            fault("run 123" + other + ";", 7);
        }
    }

    /** "a word of letters a to z" */
    private static void onlySmallLettersAreWords() {
        fault("RUN 1;", 0);
        fault("Run 1;", 0);
        fault("rUn 1;", 0);
        fault("ruN 1;", 0);
        fault("run`1;", 3);
        fault("run{1;", 3);
        fault("runR 1;", 3);
        fault("`run 1;", 0);
        fault("{run 1;", 0);
        fault("1 run;", 0);
        fault("a 1;", 0);
        fault("z 1;", 0);
    }

    private static void semicolons() {
        fault(";", 0);
        fault(" ;", 1);
        fault("run 1;;", 6);
        fault("run 1; ;", 7);
        fault("run 1", 5);
        fault("run 1 ", 6);
        fault("run 1 run 1;", 6);
        fault("run 1,", 5);
        fault("run;1;", 3);
    }

    /** "or the length of the text if it ends too soon" */
    private static void everyBeginning() {
        String text = " run 1; section 0 10 200 3 ; up 1 ;";
        int[] faults = {0, 0, 1, 1, 4, 5, 6, 0, 0, 8, 8, 8, 8, 8, 8, 15, 16, 17, 18, 19, 20, 21, 22, 23, 24, 25, 26,
            27, 0, 0, 29, 31, 32, 33, 34, 0};
        for (int length = 0; length <= text.length(); length++) {
            String start = text.substring(0, length);
            if (faults[length] == 0) {
                CHECK.due("runCommands() of '" + start + "'", run(start), length < 7 ? 0 : length < 28 ? 1
                        : length < 35 ? 2 : 3);
            } else {
                fault(start, faults[length]);
            }
        }
    }

    /** "A word that is not one of these is at fault with its first byte, found when the word is complete" */
    private static void wordsAtFault() {
        for (String word : WORDS) {
            for (String wrong : new String[] {word.substring(1), word + "s", "x" + word, word + word,
                "x" + word.substring(1), word.substring(0, word.length() - 1),
                word.substring(0, word.length() - 1) + "x"}) {
                for (String next : new String[] {"", " ", " 1;", ";", "1", "X", "{", "\n"}) {
                    fault(wrong + next, 0);
                    fault("  " + wrong + next, 2);
                    fault("up 1;" + wrong + next, 5);
                    fault("up 1 ; " + wrong + next, 7);
                }
            }
        }
    }

    /** "when a byte that is no letter, or the end of the text, follows it" */
    private static void wordCutOff() {
        NestedBells x = some();
        int[] answers = {-10, -10, -13, -14, -15, 1, -16, -16};
        String text = "run 5;se";
        for (int i = 0; i < text.length(); i++) {
            x.type(text.charAt(i));
            CHECK.due("runCommands() of '" + text.substring(0, i + 1) + "'", x.runCommands(), answers[i]);
        }
        x.type('t');
        CHECK.due("a word that is complete", x.runCommands(), -19);
        x.type('s');
        CHECK.due("and is no word any more", x.runCommands(), -16);
    }

    /** "the index of the first byte that cannot stand at its place" */
    private static void theFirstFault() {
        fault("run x;run y;", 4);
        fault("run 1;foo;bar;", 6);
        fault("foo 1234;", 0);
        fault("run 1234;foo;", 7);
        fault("run 1 foo", 6);
        fault("up foo;", 3);
        fault("edge 1 foo;", 7);
        fault("run 1;!run 1", 6);
        fault("up run 1;foo;", 3);
        fault("up 1 run 1;foo;", 5);
        fault("up ; run 1;foo;", 3);
        fault("foo run 1;run;", 0);
    }

    /** "(That a number is out of its range is no fault.)" */
    private static void rangesAreNoFaults() {
        for (int word = 0; word < WORDS.length; word++) {
            StringBuilder text = new StringBuilder(WORDS[word]);
            for (int i = 0; i < NUMBERS[word]; i++) {
                text.append(" 999");
            }
            NestedBells x = some();
            CHECK.due("runCommands() of '" + text + "'", Made.runText(x, text.append(';').toString()), 0);
            CHECK.due("it stops", x.stop() == 0 ? 0 : 1, 1);
        }
    }

    /** "if it has a fault, nothing is done" */
    private static void nothingIsDoneWithAFault() {
        NestedBells x = new NestedBells();
        CHECK.due("a fault at the end", Made.runText(x, "edge 3 4;raise 0;run 5"), -10 - 22);
        CHECK.due("sources", x.processor(11), 0);
        CHECK.due("time", x.processor(0), 0);
        CHECK.due("stop()", x.stop(), 0);
        CHECK.refused("undo() of nothing", x, STATE, () -> x.undo());
        CHECK.due("the text stays", x.type(';'), 23);
        CHECK.due("the fault is gone", x.runCommands(), 3);
        CHECK.due("time", x.processor(0), 5);
        CHECK.due("stop behind a run into an exception", Made.runText(x, "run 0;"), 0);
        CHECK.due("a fault again", Made.runText(x, "run 0"), -10 - 5);
        CHECK.due("the stop stays", x.stop(), 2);
        for (int i = 1; i >= 0; i--) {
            CHECK.due("undo() of the runs without a fault", x.undo(), i);
        }
    }

    /** "until one of them would throw an exception .. those before it stay done, and they alone count" */
    private static void commandsUntilTheStop() {
        for (int good = 0; good < 4; good++) {
            NestedBells x = new NestedBells();
            CHECK.due("the commands that were carried out",
                    Made.runText(x, "run 2;".repeat(good) + "run 501;run 3;raise 0;"), good);
            CHECK.due("those before it stay done", x.processor(0), 2 * good);
            CHECK.due("stop()", x.stop(), 2);
        }
        NestedBells x = Made.with(new int[] {1, 0, 1});
        CHECK.due("what a command changes counts for the next", Made.runText(x, "raise 1;line 2 3;"), 0);
        CHECK.due("what a command changes counts for the next", Made.runText(x, "line 2 3;up 1;raise 1;up 1;"), 2);
        CHECK.due("stop()", x.stop(), 3);
    }

    /** "1 for an IndexOutOfBoundsException, 2 for an IllegalArgumentException, 3 for an IllegalStateException" */
    private static void stopOfEachException() {
        String[] texts = {"edge 0 1;", "edge 16 1;", "edge 1 0;", "edge 1 501;", "line 0 1;", "line 1 501;",
            "section 2 0 1 1;", "section 2 500 1 1;", "section 0 500 1 1;", "section 0 0 501 1;", "section 0 0 1 16;",
            "section 0 0 0 1;", "section 0 0 1 0;", "section 0 0 1 1;section 0 0 1 1;section 0 0 1 1;",
            "timer 2 0 1;", "timer 1 0 1;", "raise 2;", "raise 1;", "up 2;", "up 0;", "down 12;", "down 0;",
            "set 4 0;", "set 0 16;", "set 1 51;", "run 0;", "run 501;", "timer 0 0 1;run 1;timer 1 999 999;"};
        int[] stops = {2, 2, 2, 2, 2, 2, 1, 1, 2, 2, 2, 2, 2, 3, 1, 3, 1, 3, 1, 3, 1, 3, 2, 2, 2, 2, 2, 3};
        int[] counts = {0, 0, 0, 0, 0, 0, 0, 0, 0, 0, 0, 0, 0, 2, 0, 0, 0, 0, 0, 0, 0, 0, 0, 0, 0, 0, 0, 2};
        for (int i = 0; i < texts.length; i++) {
            NestedBells x = some();
            CHECK.due("runCommands() of '" + texts[i] + "'", Made.runText(x, texts[i]), counts[i]);
            CHECK.due("stop() of '" + texts[i] + "'", x.stop(), stops[i]);
        }
        NestedBells x = new NestedBells();
        CHECK.due("twelve sources and one", Made.runText(x, "edge 1 1;".repeat(13)), 12);
        CHECK.due("stop()", x.stop(), 3);
        CHECK.due("one that is out of range as well", Made.runText(x, "line 16 1;"), 0);
        CHECK.due("stop()", x.stop(), 2);
    }

    /** "a run that meets none, also one without commands, has none. With a fault the stop stays." */
    private static void stopOfTheLatestRun() {
        NestedBells x = new NestedBells();
        CHECK.due("there was no run", x.stop(), 0);
        Made.runText(x, "raise 0;");
        CHECK.due("of a run", x.stop(), 1);
        Made.runText(x, "raise 0");
        CHECK.due("behind a fault", x.stop(), 1);
        x.undo();
        x.clearCommands();
        CHECK.due("behind undo() and clearCommands()", x.stop(), 1);
        x.runCommands();
        CHECK.due("behind a run without commands", x.stop(), 0);
        Made.runText(x, "run 0;");
        CHECK.due("of another run", x.stop(), 2);
        Made.runText(x, "run 1;");
        CHECK.due("behind a run that meets none", x.stop(), 0);
    }

    /** "A run saves one state, the one from before it; its commands save none." */
    private static void oneStateForARun() {
        NestedBells x = new NestedBells();
        CHECK.due("five commands", Made.runText(x, "edge 1 1;run 1;run 2;run 3;run 4;"), 5);
        CHECK.due("undo()", x.undo(), 0);
        CHECK.due("time", x.processor(0), 0);
        CHECK.due("sources", x.processor(11), 0);
        CHECK.due("a run into a stop", Made.runText(x, "run 1;run 2;run 0;"), 2);
        CHECK.due("undo()", x.undo(), 0);
        CHECK.due("time", x.processor(0), 0);
        CHECK.due("a run that stops at once", Made.runText(x, "run 0;"), 0);
        CHECK.due("undo()", x.undo(), 0);
        CHECK.refused("undo() of nothing", x, STATE, () -> x.undo());
    }

    private static void aRunDropsTheOldestState() {
        NestedBells x = new NestedBells();
        for (int ticks = 1; ticks <= 4; ticks++) {
            x.run(ticks);
        }
        Made.runText(x, "run 5;run 6;");
        int[] times = {10, 6, 3, 1};
        for (int i = 0; i < 4; i++) {
            CHECK.due("undo()", x.undo(), 3 - i);
            CHECK.due("time", x.processor(0), times[i]);
        }
        CHECK.refused("undo() of the state that was dropped", x, STATE, () -> x.undo());
    }
}
