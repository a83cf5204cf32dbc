/** The document's limits of sources, sections, lines and timers: a test for each sentence that names one. */
public final class EdgesOfSourcesTest {
    private static final Class<?> INDEX = IndexOutOfBoundsException.class;
    private static final Class<?> ARGUMENT = IllegalArgumentException.class;
    private static final Class<?> STATE = IllegalStateException.class;

    private static final Check CHECK = new Check();

    public static void main(String[] arguments) {
        nothingInANewObject();
        atMostTwelveSources();
        roomAgainBehindUndo();
        priorities();
        kinds();
        shortestAndLongestHandler();
        enabledAtFirst();
        firstRaiseAndNext();
        raisedAgainBehindTheEntry();
        lineAtFirst();
        lineAndStack();
        lineThatIsSoAlready();
        atMostTwoSections();
        sectionsOfASourceThatIsEntered();
        sectionRanges();
        sectionOfTheFirstTick();
        sectionOfTheLastTick();
        sectionInTheMiddle();
        sectionOfAllTicks();
        sectionBehindTheHandler();
        setSourceInUse();
        waits();
        periods();
        timerTakenAway();
        timerInPlaceOfAnother();
        CHECK.end();
    }

    /** "Creates a processor without sources at time 0 .. an empty log, an empty command text, no stop .." */
    private static void nothingInANewObject() {
        NestedBells x = new NestedBells();
        CHECK.due("time", x.processor(0), 0);
        CHECK.due("sources", x.processor(11), 0);
        CHECK.refused("source(0, 0)", x, INDEX, () -> x.source(0, 0));
        CHECK.refused("section(0, 0, 0)", x, INDEX, () -> x.section(0, 0, 0));
        for (int what = 0; what < 3; what++) {
            CHECK.due("the empty log, log(0, " + what + ")", x.log(0, what), -1);
        }
        CHECK.due("the empty stack", x.stack(0), -1);
        CHECK.due("stop()", x.stop(), 0);
        CHECK.refused("the empty undo stack", x, STATE, () -> x.undo());
        CHECK.due("the empty command text", x.clearCommands(), 0);
        CHECK.due("idleAfter(0)", x.idleAfter(0), 0);
    }

    /** "There are at most 12 sources, numbered from 0." */
    private static void atMostTwelveSources() {
        NestedBells x = new NestedBells();
        for (int i = 0; i < 12; i++) {
            int number = i;
            CHECK.refused("source(" + i + ", 0) ahead of it", x, INDEX, () -> x.source(number, 0));
            CHECK.due("addSource, number " + i, x.addSource(i + 1, 0, 1), i);
            CHECK.due("sources", x.processor(11), i + 1);
        }
        CHECK.refused("a thirteenth source", x, STATE, () -> x.addSource(1, 0, 1));
        CHECK.due("sources", x.processor(11), 12);
        CHECK.due("the first one", x.source(0, 0), 1);
        CHECK.due("the last one", x.source(11, 0), 12);
        CHECK.due("raise(11)", x.raise(11), 1);
        CHECK.refused("raise(12)", x, INDEX, () -> x.raise(12));
    }

    private static void roomAgainBehindUndo() {
        NestedBells x = new NestedBells();
        for (int i = 0; i < 12; i++) {
            x.addSource(1, 0, 1);
        }
        CHECK.due("undo() of the twelfth", x.undo(), 3);
        CHECK.due("sources", x.processor(11), 11);
        CHECK.due("another twelfth", x.addSource(15, 1, 500), 11);
        CHECK.due("its priority", x.source(11, 0), 15);
        CHECK.refused("a thirteenth source", x, STATE, () -> x.addSource(1, 0, 1));
    }

    /** "A source has a priority (1 to 15; a greater one is more urgent)" */
    private static void priorities() {
        NestedBells x = Made.with(new int[] {1, 0, 1}, new int[] {15, 0, 1}, new int[] {14, 0, 1});
        for (int bad : new int[] {0, 16, Integer.MIN_VALUE, Integer.MAX_VALUE}) {
            CHECK.refused("addSource(" + bad + ", 0, 1)", x, ARGUMENT, () -> x.addSource(bad, 0, 1));
            CHECK.refused("setSource(0, 0, " + bad + ")", x, ARGUMENT, () -> x.setSource(0, 0, bad));
        }
        x.raise(0);
        CHECK.due("the least priority is enough", x.processor(6), 0);
        x.raise(1);
        x.raise(2);
        CHECK.due("the greatest one comes first", x.processor(6), 1);
        CHECK.due("setSource to the greatest", x.setSource(0, 0, 15), 1);
        CHECK.due("of two greatest ones the lower number", x.processor(6), 0);
        CHECK.due("setSource to the least", x.setSource(0, 0, 1), 15);
        CHECK.due("priority", x.source(0, 0), 1);
    }

    /** "a kind (0 edge, 1 line)" */
    private static void kinds() {
        NestedBells x = Made.with(new int[] {1, 0, 1}, new int[] {1, 1, 1});
        for (int bad : new int[] {-1, 2, Integer.MIN_VALUE, Integer.MAX_VALUE}) {
            CHECK.refused("addSource(1, " + bad + ", 1)", x, ARGUMENT, () -> x.addSource(1, bad, 1));
        }
        CHECK.due("kind 0", x.source(0, 1), 0);
        CHECK.due("kind 1", x.source(1, 1), 1);
        CHECK.due("an edge is raised", x.raise(0), 1);
        CHECK.due("a line comes up", x.setLine(1, true), 0);
        CHECK.refused("an edge has no line", x, STATE, () -> x.setLine(0, true));
        CHECK.refused("a line is not raised", x, STATE, () -> x.raise(1));
        CHECK.refused("a line has no timer", x, STATE, () -> x.setTimer(1, 0, 1));
    }

    /** "and a handler with a length (1 to 500 ticks)" */
    private static void shortestAndLongestHandler() {
        NestedBells x = Made.with(new int[] {1, 0, 1}, new int[] {1, 0, 500});
        for (int bad : new int[] {0, 501, Integer.MIN_VALUE, Integer.MAX_VALUE}) {
            CHECK.refused("addSource(1, 0, " + bad + ")", x, ARGUMENT, () -> x.addSource(1, 0, bad));
            CHECK.refused("setSource(0, 1, " + bad + ")", x, ARGUMENT, () -> x.setSource(0, 1, bad));
        }
        Made.costs(x, 0, 0, 0);
        x.raise(0);
        CHECK.due("a handler of one tick", x.run(1), 1);
        x.raise(1);
        CHECK.due("499 ticks of 500", x.run(499), 0);
        CHECK.due("ticks that have been run", x.source(1, 7), 499);
        CHECK.due("the last one", x.run(1), 1);
        CHECK.due("ticks of handlers", x.account(1), 501);
        CHECK.due("setSource to the least", x.setSource(1, 1, 1), 500);
        CHECK.due("setSource to the greatest", x.setSource(0, 1, 500), 1);
        x.raise(1);
        CHECK.due("the changed length counts", x.run(1), 1);
    }

    /** "It is enabled or not (enabled at first)." */
    private static void enabledAtFirst() {
        NestedBells x = Made.with(new int[] {1, 0, 1});
        CHECK.due("enabled at first", x.source(0, 3), 1);
        for (int bad : new int[] {-1, 2, Integer.MIN_VALUE, Integer.MAX_VALUE}) {
            CHECK.refused("setSource(0, 2, " + bad + ")", x, ARGUMENT, () -> x.setSource(0, 2, bad));
        }
        for (int bad : new int[] {-1, 3, Integer.MIN_VALUE, Integer.MAX_VALUE}) {
            CHECK.refused("setSource(0, " + bad + ", 1)", x, ARGUMENT, () -> x.setSource(0, bad, 1));
        }
        x.raise(0);
        CHECK.due("setSource(0, 2, 0)", x.setSource(0, 2, 0), 1);
        CHECK.due("not enabled", x.source(0, 3), 0);
        CHECK.due("not enabled, it is no candidate", x.processor(6), -1);
        CHECK.due("but it stays pending", x.source(0, 4), 1);
        CHECK.due("setSource(0, 2, 1)", x.setSource(0, 2, 1), 0);
        CHECK.due("enabled, it is", x.processor(6), 0);
    }

    /** "raising it makes it pending; if it is pending already, an edge is lost" */
    private static void firstRaiseAndNext() {
        NestedBells x = Made.with(new int[] {1, 0, 1});
        CHECK.due("not pending at first", x.source(0, 4), 0);
        CHECK.due("raise(0)", x.raise(0), 1);
        CHECK.due("no edge lost", x.source(0, 10) + x.account(7), 0);
        CHECK.due("no event", x.log(0, 0), -1);
        CHECK.due("raise(0) again", x.raise(0), 0);
        CHECK.due("an edge lost", x.source(0, 10), 1);
        CHECK.due("raise(0) once more", x.raise(0), 0);
        CHECK.due("two edges lost of the source", x.source(0, 10), 2);
        CHECK.due("two edges lost in all", x.account(7), 2);
        CHECK.due("two events", x.log(1, 0), 3);
        CHECK.due("and no third", x.log(2, 0), -1);
    }

    private static void raisedAgainBehindTheEntry() {
        NestedBells x = Made.with(new int[] {1, 0, 5});
        x.raise(0);
        x.run(11);
        CHECK.due("in the last tick of the entry an edge is lost", x.raise(0), 0);
        x.run(1);
        CHECK.due("on the stack it is not pending", x.source(0, 4), 0);
        CHECK.due("and becomes pending again", x.raise(0), 1);
        CHECK.due("once", x.raise(0), 0);
    }

    /** "A source of the kind 1 has a line, which is up or down (down at first)" */
    private static void lineAtFirst() {
        NestedBells x = Made.with(new int[] {1, 1, 1});
        CHECK.due("line", x.source(0, 5), 0);
        CHECK.due("pending", x.source(0, 4), 0);
        CHECK.due("setLine(0, true)", x.setLine(0, true), 0);
        CHECK.due("setLine(0, false)", x.setLine(0, false), 1);
        CHECK.due("setLine(0, false) again", x.setLine(0, false), 0);
        CHECK.due("setLine(0, true) again", x.setLine(0, true), 0);
    }

    /** "and is pending while its line is up and its handler is not on the stack" */
    private static void lineAndStack() {
        NestedBells x = Made.with(new int[] {1, 1, 3});
        x.setLine(0, true);
        x.run(11);
        CHECK.due("pending ahead of the last tick of its entry", x.source(0, 4), 1);
        x.run(1);
        CHECK.due("not pending from the tick on in which it comes on top", x.source(0, 4), 0);
        x.setLine(0, false);
        x.setLine(0, true);
        CHECK.due("nor if its line comes up anew", x.source(0, 4), 0);
        x.run(2);
        CHECK.due("not pending ahead of its last tick", x.source(0, 4), 0);
        x.run(1);
        CHECK.due("pending from the tick on in which it goes off", x.source(0, 4), 1);
        x.setLine(0, false);
        CHECK.due("not pending with the line down", x.source(0, 4), 0);
        CHECK.due("no edge is lost of a line", x.account(7), 0);
    }

    /** "(If it is so already, nothing changes.) Undoable." */
    private static void lineThatIsSoAlready() {
        NestedBells x = Made.with(new int[] {1, 1, 3});
        CHECK.due("setLine(0, false)", x.setLine(0, false), 0);
        CHECK.due("its undo()", x.undo(), 1);
        x.setLine(0, true);
        x.run(5);
        CHECK.due("setLine(0, true) again", x.setLine(0, true), 1);
        CHECK.due("no edge is lost", x.account(7) + x.source(0, 10), 0);
        CHECK.due("pending since the first time", x.latencyIf(0, 1000), 12);
        CHECK.due("its undo()", x.undo(), 3);
        CHECK.due("line", x.source(0, 5), 1);
    }

    /** "A handler may have at most 2 sections" */
    private static void atMostTwoSections() {
        NestedBells x = Made.with(new int[] {1, 0, 9}, new int[] {1, 0, 9});
        CHECK.due("clearSections of none", x.clearSections(0), 0);
        CHECK.refused("section(0, 0, 0) of none", x, INDEX, () -> x.section(0, 0, 0));
        CHECK.due("the first section", x.addSection(0, 1, 2, 3), 1);
        CHECK.refused("section(0, 1, 0) of one", x, INDEX, () -> x.section(0, 1, 0));
        CHECK.due("clearSections of one", x.clearSections(0), 1);
        CHECK.due("the first section", x.addSection(0, 4, 5, 6), 1);
        CHECK.due("the second section", x.addSection(0, 4, 5, 6), 2);
        CHECK.refused("a third section", x, STATE, () -> x.addSection(0, 4, 5, 6));
        CHECK.refused("section(0, 2, 0)", x, INDEX, () -> x.section(0, 2, 0));
        CHECK.due("another handler has room", x.addSection(1, 7, 8, 9), 1);
        CHECK.due("clearSections of two", x.clearSections(0), 2);
        CHECK.refused("section(0, 0, 0) behind it", x, INDEX, () -> x.section(0, 0, 0));
        CHECK.due("the other handler's stays", x.section(1, 0, 2), 9);
        CHECK.due("room again", x.addSection(0, 0, 1, 1), 1);
        CHECK.due("room again", x.addSection(0, 0, 1, 2), 2);
    }

    /** "Adds a section to the handler of a source, which may be being entered." */
    private static void sectionsOfASourceThatIsEntered() {
        NestedBells x = Made.with(new int[] {1, 0, 9}, new int[] {1, 0, 9});
        x.raise(0);
        x.raise(1);
        x.run(11);
        CHECK.due("addSection in the last tick of an entry", x.addSection(0, 0, 1, 1), 1);
        CHECK.due("clearSections there", x.clearSections(0), 1);
        x.run(1);
        CHECK.refused("addSection on the stack", x, STATE, () -> x.addSection(0, 0, 1, 1));
        CHECK.refused("clearSections on the stack", x, STATE, () -> x.clearSections(0));
        x.run(8);
        CHECK.refused("addSection ahead of its last tick", x, STATE, () -> x.addSection(0, 0, 1, 1));
        x.run(1);
        CHECK.due("addSection off the stack", x.addSection(0, 0, 1, 1), 1);
        x.run(1);
        CHECK.due("the other one is entered by a tail", x.processor(8) * 10 + x.processor(9), 31);
        CHECK.due("addSection in a tail", x.addSection(1, 0, 9, 15), 1);
        x.run(5);
        CHECK.due("it is in force", x.processor(5), 15);
    }

    /** "each with a first tick (0 to 499), a length (1 to 500) and a ceiling (1 to 15)" */
    private static void sectionRanges() {
        NestedBells x = Made.with(new int[] {1, 0, 9});
        for (int bad : new int[] {-1, 500, Integer.MIN_VALUE, Integer.MAX_VALUE}) {
            CHECK.refused("addSection(0, " + bad + ", 1, 1)", x, ARGUMENT, () -> x.addSection(0, bad, 1, 1));
        }
        for (int bad : new int[] {0, 501, Integer.MIN_VALUE, Integer.MAX_VALUE}) {
            CHECK.refused("addSection(0, 0, " + bad + ", 1)", x, ARGUMENT, () -> x.addSection(0, 0, bad, 1));
        }
        for (int bad : new int[] {0, 16, Integer.MIN_VALUE, Integer.MAX_VALUE}) {
            CHECK.refused("addSection(0, 0, 1, " + bad + ")", x, ARGUMENT, () -> x.addSection(0, 0, 1, bad));
        }
        CHECK.due("the least", x.addSection(0, 0, 1, 1), 1);
        CHECK.due("the greatest", x.addSection(0, 499, 500, 15), 2);
        int[] values = {0, 1, 1, 499, 500, 15};
        for (int i = 0; i < 6; i++) {
            CHECK.due("section(0, " + i / 3 + ", " + i % 3 + ")", x.section(0, i / 3, i % 3), values[i]);
        }
    }

    private static void inForce(String when, NestedBells x, int section, int due) {
        CHECK.due(when + ": in force", x.section(0, section, 3), due);
    }

    /**
     * "A section is in force while the handler is on the stack and the number of its ticks that have been run
     * is at least the first tick and less than the first tick plus the length." Five tests, for each end of it.
     */
    private static void sectionOfTheFirstTick() {
        NestedBells x = Made.with(new int[] {1, 0, 3});
        x.addSection(0, 0, 1, 9);
        inForce("never entered", x, 0, 0);
        x.raise(0);
        x.run(11);
        inForce("in the entry", x, 0, 0);
        CHECK.due("level", x.processor(5), 0);
        x.run(1);
        inForce("0 ticks run", x, 0, 1);
        CHECK.due("level", x.processor(5), 9);
        x.run(1);
        inForce("1 tick run", x, 0, 0);
        CHECK.due("level", x.processor(5), 1);
    }

    private static void sectionOfTheLastTick() {
        NestedBells x = Made.with(new int[] {1, 0, 500});
        x.addSection(0, 499, 1, 15);
        x.addSection(0, 499, 500, 14);
        x.raise(0);
        x.run(12);
        x.run(498);
        inForce("498 ticks run", x, 0, 0);
        inForce("498 ticks run", x, 1, 0);
        x.run(1);
        inForce("499 ticks run", x, 0, 1);
        inForce("499 ticks run", x, 1, 1);
        CHECK.due("level", x.processor(5), 15);
        x.run(1);
        inForce("off the stack", x, 0, 0);
        inForce("off the stack", x, 1, 0);
        CHECK.due("level", x.processor(5), 0);
    }

    private static void sectionInTheMiddle() {
        NestedBells x = Made.with(new int[] {1, 0, 20});
        x.addSection(0, 5, 3, 6);
        x.addSection(0, 8, 2, 4);
        x.raise(0);
        x.run(12);
        int[] levels = {1, 1, 1, 1, 1, 6, 6, 6, 4, 4, 1, 1};
        for (int ticks = 0; ticks < levels.length; ticks++) {
            inForce(ticks + " ticks run", x, 0, ticks >= 5 && ticks <= 7 ? 1 : 0);
            inForce(ticks + " ticks run", x, 1, ticks >= 8 && ticks <= 9 ? 1 : 0);
            CHECK.due("level", x.processor(5), levels[ticks]);
            x.run(1);
        }
    }

    private static void sectionOfAllTicks() {
        NestedBells x = Made.with(new int[] {1, 0, 500}, new int[] {7, 0, 1}, new int[] {8, 0, 1});
        x.addSection(0, 0, 500, 7);
        x.raise(0);
        x.run(12);
        x.raise(1);
        inForce("0 ticks run", x, 0, 1);
        x.run(499);
        inForce("499 ticks run", x, 0, 1);
        CHECK.due("one at the ceiling waits for all ticks", x.source(0, 7), 499);
        x.raise(2);
        x.run(3);
        CHECK.due("one above it does not", x.processor(9), 2);
        inForce("and preempted it stays in force", x, 0, 1);
        x.run(9 + 1 + 10 + 1);
        inForce("off the stack", x, 0, 0);
        CHECK.due("handlers on the stack", x.processor(7), 0);
    }

    private static void sectionBehindTheHandler() {
        NestedBells x = Made.with(new int[] {1, 0, 4});
        x.addSection(0, 4, 500, 9);
        x.addSection(0, 3, 500, 8);
        x.raise(0);
        x.run(12);
        for (int ticks = 0; ticks < 4; ticks++) {
            inForce(ticks + " ticks run", x, 0, 0);
            inForce(ticks + " ticks run", x, 1, ticks == 3 ? 1 : 0);
            x.run(1);
        }
        inForce("off the stack", x, 0, 0);
        inForce("off the stack", x, 1, 0);
    }

    /** "IllegalStateException if what is 0 or 1, and its handler is on the stack or it is being entered" */
    private static void setSourceInUse() {
        NestedBells x = Made.with(new int[] {1, 0, 2}, new int[] {1, 0, 2});
        x.raise(0);
        x.raise(1);
        CHECK.due("pending, but not entered", x.setSource(0, 1, 3), 2);
        x.run(1);
        CHECK.refused("in the first tick of its entry", x, STATE, () -> x.setSource(0, 1, 3));
        CHECK.due("what is 2, in an entry", x.setSource(0, 2, 1), 1);
        CHECK.due("the one that waits", x.setSource(1, 1, 4), 2);
        x.run(11);
        CHECK.refused("on the stack", x, STATE, () -> x.setSource(0, 0, 3));
        CHECK.due("what is 2, on the stack", x.setSource(0, 2, 0), 1);
        CHECK.due("what is 2, on the stack", x.setSource(0, 2, 1), 0);
        x.run(2);
        CHECK.refused("ahead of its last tick", x, STATE, () -> x.setSource(0, 0, 3));
        x.run(1);
        CHECK.due("off the stack", x.setSource(0, 0, 2), 1);
        x.run(1);
        CHECK.refused("in a tail", x, STATE, () -> x.setSource(1, 0, 3));
        CHECK.due("what is 2, in a tail", x.setSource(1, 2, 0), 1);
        x.run(1);
        CHECK.due("no longer entered", x.setSource(1, 0, 3), 1);
    }

    /** "ticks from now until it is due, 0 to 999" */
    private static void waits() {
        NestedBells x = Made.with(new int[] {1, 0, 1}, new int[] {1, 0, 1});
        x.set(0, 15);
        for (int bad : new int[] {-1, 1000, Integer.MIN_VALUE, Integer.MAX_VALUE}) {
            CHECK.refused("setTimer(0, " + bad + ", 5)", x, ARGUMENT, () -> x.setTimer(0, bad, 5));
            CHECK.refused("setTimer(0, " + bad + ", 0)", x, ARGUMENT, () -> x.setTimer(0, bad, 0));
        }
        x.run(7);
        CHECK.due("setTimer(0, 0, 1000)", x.setTimer(0, 0, 1000), 0);
        CHECK.due("setTimer(1, 999, 1000)", x.setTimer(1, 999, 1000), 0);
        CHECK.due("due now", x.source(0, 15), 0);
        CHECK.due("due in 999 ticks", x.source(1, 15), 999);
        CHECK.due("not raised ahead of the tick", x.source(0, 4), 0);
        x.run(1);
        CHECK.due("raised in the very next tick", x.source(0, 4), 1);
        x.run(500);
        x.run(498);
        CHECK.due("due now", x.source(1, 15), 0);
        CHECK.due("not raised ahead of the tick", x.source(1, 4), 0);
        x.run(1);
        CHECK.due("raised in the tick behind 999 others", x.source(1, 4), 1);
    }

    /** "A source of the kind 0 may have a timer, with .. a period (1 to 1000)." */
    private static void periods() {
        NestedBells x = Made.with(new int[] {1, 0, 1}, new int[] {1, 0, 1});
        x.set(0, 15);
        for (int bad : new int[] {-1, 1001, Integer.MIN_VALUE, Integer.MAX_VALUE}) {
            CHECK.refused("setTimer(0, 5, " + bad + ")", x, ARGUMENT, () -> x.setTimer(0, 5, bad));
        }
        x.setTimer(0, 0, 1);
        x.setTimer(1, 0, 1000);
        for (int tick = 0; tick < 5; tick++) {
            CHECK.due("the least period is due in each tick", x.source(0, 15), 0);
            x.run(1);
            CHECK.due("edges lost", x.source(0, 10), tick);
            CHECK.due("ticks until the greatest period is over", x.source(1, 15), 999 - tick);
        }
        x.run(495);
        x.run(500);
        CHECK.due("due again", x.source(1, 15), 0);
        CHECK.due("no edge lost yet", x.source(1, 10), 0);
        x.run(1);
        CHECK.due("edges lost by the greatest period", x.source(1, 10), 1);
        CHECK.due("edges lost by the least period", x.source(0, 10), 1000);
        CHECK.due("until it is due once more", x.source(1, 15), 999);
    }

    /** "1 to 1000, or 0 to take it away" and "Returns the previous period; 0 if there was none." */
    private static void timerTakenAway() {
        NestedBells x = Made.with(new int[] {1, 0, 1});
        CHECK.due("without a timer", x.source(0, 15), -1);
        CHECK.due("setTimer(0, 0, 0) of none", x.setTimer(0, 0, 0), 0);
        CHECK.due("still without one", x.source(0, 15), -1);
        CHECK.due("setTimer(0, 3, 1000)", x.setTimer(0, 3, 1000), 0);
        CHECK.due("setTimer(0, 999, 0)", x.setTimer(0, 999, 0), 1000);
        CHECK.due("without a timer again", x.source(0, 15), -1);
        CHECK.due("setTimer(0, 0, 0) again", x.setTimer(0, 0, 0), 0);
        x.run(10);
        CHECK.due("it raises nothing", x.source(0, 4), 0);
    }

    /** "Sets the timer of a source, in place of one that it has" */
    private static void timerInPlaceOfAnother() {
        NestedBells x = Made.with(new int[] {1, 0, 1});
        x.set(0, 15);
        x.setTimer(0, 0, 1);
        CHECK.due("the previous period", x.setTimer(0, 2, 10), 1);
        x.run(2);
        CHECK.due("the old one raises nothing", x.source(0, 4), 0);
        x.run(1);
        CHECK.due("the new one does", x.source(0, 4), 1);
        CHECK.due("and has its own period", x.source(0, 15), 9);
        CHECK.due("the previous period", x.setTimer(0, 0, 1000), 10);
    }
}
