/** The document's limits of the processor and of a tick: a test for each sentence that names one. */
public final class EdgesOfTicksTest {
    private static final Class<?> ARGUMENT = IllegalArgumentException.class;

    private static final Check CHECK = new Check();

    public static void main(String[] arguments) {
        mask();
        settingRanges();
        costsAtFirst();
        greatestCosts();
        leastCosts();
        noCosts();
        noTailCost();
        costSetInAChange();
        emptyStack();
        level();
        candidateAboveTheMask();
        candidateAboveThePriority();
        candidateAboveTheCeiling();
        lowestNumber();
        timersByAscendingNumbers();
        timerAheadOfTheCandidate();
        runRange();
        handlersThatWentOff();
        CHECK.end();
    }

    /** "There are a mask (0 to 15, 0 at first)" */
    private static void mask() {
        NestedBells x = Made.with(new int[] {1, 0, 1}, new int[] {15, 0, 1});
        x.raise(0);
        CHECK.due("0 at first", x.processor(1), 0);
        CHECK.due("it lets the least priority", x.processor(6), 0);
        CHECK.due("set(0, 1)", x.set(0, 1), 0);
        CHECK.due("it holds the least priority", x.processor(6), -1);
        x.raise(1);
        CHECK.due("set(0, 14)", x.set(0, 14), 1);
        CHECK.due("it lets the greatest priority", x.processor(6), 1);
        CHECK.due("set(0, 15)", x.set(0, 15), 14);
        CHECK.due("it holds all", x.processor(6), -1);
        x.run(500);
        CHECK.due("the main program alone runs", x.account(0), 500);
        CHECK.due("set(0, 0)", x.set(0, 0), 15);
    }

    /** "an entry cost, an exit cost and a tail cost (0 to 50 each; 12, 10 and 6 at first)" */
    private static void settingRanges() {
        NestedBells x = new NestedBells();
        int[] first = {0, 12, 10, 6};
        for (int what = 0; what < 4; what++) {
            int w = what;
            int greatest = what == 0 ? 15 : 50;
            CHECK.due("at first", x.processor(1 + w), first[w]);
            for (int bad : new int[] {-1, greatest + 1, Integer.MIN_VALUE, Integer.MAX_VALUE}) {
                CHECK.refused("set(" + w + ", " + bad + ")", x, ARGUMENT, () -> x.set(w, bad));
            }
            CHECK.due("set(" + w + ", the greatest)", x.set(w, greatest), first[w]);
            CHECK.due("set(" + w + ", the least)", x.set(w, 0), greatest);
            CHECK.due("set(" + w + ", the least) again", x.set(w, 0), 0);
        }
        for (int bad : new int[] {-1, 4, Integer.MIN_VALUE, Integer.MAX_VALUE}) {
            CHECK.refused("set(" + bad + ", 0)", x, ARGUMENT, () -> x.set(bad, 0));
        }
    }

    private static NestedBells twoShortOnes() {
        NestedBells x = Made.with(new int[] {1, 0, 1}, new int[] {1, 0, 1});
        x.raise(0);
        x.raise(1);
        return x;
    }

    private static void costsAtFirst() {
        NestedBells x = twoShortOnes();
        CHECK.due("entry, handler, tail and handler", x.run(12 + 1 + 6 + 1), 2);
        CHECK.event(x, 4, 1, 0, 12);
        CHECK.event(x, 3, 2, 0, 13);
        CHECK.event(x, 2, 5, 1, 13);
        CHECK.event(x, 1, 1, 1, 19);
        CHECK.event(x, 0, 2, 1, 20);
        CHECK.change(x, "the exit", 2, -1, 10);
        x.run(10);
        CHECK.change(x, "behind the exit", 0, -1, 0);
        CHECK.due("ticks of changes", x.account(2), 12 + 6 + 10);
    }

    private static void greatestCosts() {
        NestedBells x = twoShortOnes();
        Made.costs(x, 50, 50, 50);
        x.run(49);
        CHECK.change(x, "the last tick of the entry", 1, 0, 1);
        x.run(1);
        CHECK.event(x, 0, 1, 0, 50);
        CHECK.due("run(1)", x.run(1), 1);
        CHECK.change(x, "the exit", 2, -1, 50);
        x.run(49);
        CHECK.change(x, "the last tick of the tail", 3, 1, 1);
        x.run(1);
        CHECK.event(x, 0, 1, 1, 101);
        x.run(1 + 49);
        CHECK.change(x, "the last tick of the exit", 2, -1, 1);
        x.run(1);
        CHECK.change(x, "behind the exit", 0, -1, 0);
        CHECK.due("ticks of changes", x.account(2), 150);
    }

    /** "by a change, the ticks of which become less by 1 (an exit without ticks left is over; ..)" */
    private static void leastCosts() {
        NestedBells x = twoShortOnes();
        Made.costs(x, 1, 1, 1);
        x.run(1);
        CHECK.event(x, 0, 1, 0, 1);
        CHECK.change(x, "behind the entry", 0, -1, 0);
        CHECK.due("no tick of the handler yet", x.source(0, 7), 0);
        x.run(1);
        CHECK.change(x, "the exit", 2, -1, 1);
        x.run(1);
        CHECK.event(x, 0, 1, 1, 3);
        CHECK.event(x, 1, 5, 1, 2);
        x.run(1);
        CHECK.change(x, "the exit", 2, -1, 1);
        x.run(1);
        CHECK.change(x, "behind the exit", 0, -1, 0);
        CHECK.due("ticks of changes", x.account(2), 3);
        CHECK.due("ticks of the main program", x.account(0), 0);
    }

    /** "then, if there is an entry or a tail with 0 ticks left, the handler of its source comes on top .. at t" */
    private static void noCosts() {
        NestedBells x = twoShortOnes();
        Made.costs(x, 0, 0, 0);
        CHECK.due("run(1)", x.run(1), 1);
        CHECK.event(x, 1, 1, 0, 0);
        CHECK.event(x, 0, 2, 0, 1);
        CHECK.change(x, "an exit without ticks is none", 0, -1, 0);
        CHECK.due("run(1)", x.run(1), 1);
        CHECK.event(x, 1, 1, 1, 1);
        CHECK.event(x, 0, 2, 1, 2);
        CHECK.due("no tails without exits", x.account(4), 0);
        CHECK.due("ticks of changes", x.account(2), 0);
        CHECK.due("sum of latencies", x.account(9), 1);
        x.run(1);
        CHECK.due("then the main program", x.account(0), 1);
    }

    private static void noTailCost() {
        NestedBells x = twoShortOnes();
        Made.costs(x, 0, 5, 0);
        x.run(1);
        CHECK.change(x, "the exit", 2, -1, 5);
        CHECK.due("come on top, run and gone off in one tick", x.run(1), 1);
        CHECK.event(x, 2, 5, 1, 1);
        CHECK.event(x, 1, 1, 1, 1);
        CHECK.event(x, 0, 2, 1, 2);
        CHECK.due("ticks of changes", x.account(2), 0);
        CHECK.change(x, "the next exit", 2, -1, 5);
    }

    /** "Returns the previous value (ticks that are left of a change stay)." */
    private static void costSetInAChange() {
        NestedBells x = twoShortOnes();
        x.run(1);
        CHECK.due("set(1, 0) in an entry", x.set(1, 0), 12);
        CHECK.change(x, "the entry", 1, 0, 11);
        x.run(12);
        CHECK.change(x, "the exit", 2, -1, 10);
        CHECK.due("set(2, 0) in an exit", x.set(2, 0), 10);
        CHECK.change(x, "the exit", 2, -1, 10);
        x.run(1);
        CHECK.due("set(3, 50) in a tail", x.set(3, 50), 6);
        CHECK.due("set(3, 0) in a tail", x.set(3, 0), 50);
        CHECK.change(x, "the tail", 3, 1, 5);
        x.run(5);
        CHECK.event(x, 0, 1, 1, 19);
    }

    /** "without a handler the main program runs" */
    private static void emptyStack() {
        NestedBells x = Made.with(new int[] {1, 0, 2});
        x.run(3);
        CHECK.due("main program", x.account(0), 3);
        CHECK.due("no handlers", x.account(1) + x.account(2) + x.account(8), 0);
        x.raise(0);
        x.run(12 + 2 + 10);
        CHECK.due("no tick of it while there was something else", x.account(0), 3);
        x.run(1);
        CHECK.due("and it goes on", x.account(0), 4);
        CHECK.due("handlers on the stack", x.processor(7), 0);
    }

    /** "The level is the greatest one of the mask, the priorities .., and the ceilings of all sections .. in force" */
    private static void level() {
        NestedBells x = Made.with(new int[] {5, 0, 50});
        x.addSection(0, 2, 2, 9);
        CHECK.due("at first", x.processor(5), 0);
        x.set(0, 4);
        CHECK.due("of the mask", x.processor(5), 4);
        x.raise(0);
        x.run(11);
        CHECK.due("an entry does not count yet", x.processor(5), 4);
        x.run(1);
        CHECK.due("of a priority on the stack", x.processor(5), 5);
        x.set(0, 6);
        CHECK.due("of the greater mask", x.processor(5), 6);
        x.run(2);
        CHECK.due("of a ceiling", x.processor(5), 9);
        x.set(0, 15);
        CHECK.due("of the greatest mask", x.processor(5), 15);
        x.set(0, 0);
        CHECK.due("of the ceiling again", x.processor(5), 9);
        x.run(2);
        CHECK.due("of the priority again", x.processor(5), 5);
        x.run(46);
        CHECK.due("of nothing", x.processor(5), 0);
    }

    /** "The candidate is the source that is enabled and pending and has a priority above the level": three tests. */
    private static void candidateAboveTheMask() {
        NestedBells x = Made.with(new int[] {7, 0, 1});
        x.raise(0);
        x.set(0, 8);
        CHECK.due("below the mask", x.processor(6), -1);
        x.set(0, 7);
        CHECK.due("at the mask", x.processor(6), -1);
        x.run(1);
        CHECK.due("it does not enter", x.processor(8), 0);
        x.set(0, 6);
        CHECK.due("above the mask", x.processor(6), 0);
        x.run(1);
        CHECK.due("it enters", x.processor(8), 1);
    }

    private static void candidateAboveThePriority() {
        NestedBells x = Made.with(new int[] {7, 0, 50}, new int[] {6, 0, 1}, new int[] {7, 0, 1}, new int[] {8, 0, 1});
        x.raise(0);
        x.run(12);
        x.raise(0);
        x.raise(1);
        x.raise(2);
        CHECK.due("at a priority on the stack", x.processor(6), -1);
        x.run(1);
        CHECK.due("it does not enter", x.processor(8), 0);
        x.raise(3);
        CHECK.due("above it", x.processor(6), 3);
        x.run(1);
        CHECK.due("it enters", x.processor(9), 3);
    }

    private static void candidateAboveTheCeiling() {
        NestedBells x = Made.with(new int[] {2, 0, 50}, new int[] {9, 0, 1}, new int[] {10, 0, 1});
        x.addSection(0, 0, 50, 9);
        x.raise(0);
        x.run(12);
        x.raise(1);
        CHECK.due("at a ceiling", x.processor(6), -1);
        x.run(1);
        CHECK.due("it does not enter", x.processor(8), 0);
        x.raise(2);
        CHECK.due("above it", x.processor(6), 2);
        x.run(1);
        CHECK.due("it enters", x.processor(9), 2);
    }

    /** "and the greatest priority of these, of several the one with the lowest number; there may be none" */
    private static void lowestNumber() {
        NestedBells x = Made.with(new int[] {4, 0, 1}, new int[] {6, 0, 1}, new int[] {6, 1, 1}, new int[] {6, 0, 1});
        CHECK.due("none", x.processor(6), -1);
        x.raise(3);
        CHECK.due("the only one", x.processor(6), 3);
        x.setLine(2, true);
        CHECK.due("a lower number, though it came later", x.processor(6), 2);
        x.raise(1);
        CHECK.due("the lowest number", x.processor(6), 1);
        x.raise(0);
        CHECK.due("not a lower one of a lower priority", x.processor(6), 1);
        int[] next = {2, 3, 0, -1};
        for (int i = 0; i < 4; i++) {
            x.setSource(x.processor(6), 2, 0);
            CHECK.due("the next one, if it is not enabled", x.processor(6), next[i]);
        }
    }

    /** "each timer, by ascending numbers of its sources, that is due at t .., and its time increases by its period" */
    private static void timersByAscendingNumbers() {
        NestedBells x = Made.with(new int[] {1, 0, 1}, new int[] {1, 0, 1}, new int[] {1, 0, 1}, new int[] {1, 0, 1});
        x.set(0, 15);
        x.setTimer(2, 0, 5);
        x.setTimer(0, 0, 7);
        x.setTimer(1, 0, 1);
        x.setTimer(3, 1, 9);
        for (int source = 0; source < 4; source++) {
            x.raise(source);
        }
        x.run(1);
        for (int source = 0; source < 3; source++) {
            CHECK.event(x, 2 - source, 3, source, 0);
        }
        CHECK.event(x, 3, -1, -1, -1);
        int[] left = {6, 0, 4, 0};
        for (int source = 0; source < 4; source++) {
            CHECK.due("ticks until it is due", x.source(source, 15), left[source]);
        }
        x.run(1);
        CHECK.event(x, 1, 3, 1, 1);
        CHECK.event(x, 0, 3, 3, 1);
    }

    private static void timerAheadOfTheCandidate() {
        NestedBells x = Made.with(new int[] {1, 0, 1});
        x.setTimer(0, 3, 100);
        x.run(3);
        CHECK.change(x, "ahead of the tick in which it is due", 0, -1, 0);
        x.run(1);
        CHECK.change(x, "behind it", 1, 0, 11);
        x.run(11);
        CHECK.due("latency since the tick in which it was due", x.source(0, 11), 12);
    }

    /** "ticks: 1 to 500" and "(5) the time becomes t + 1." */
    private static void runRange() {
        NestedBells x = new NestedBells();
        for (int bad : new int[] {0, -1, 501, Integer.MIN_VALUE, Integer.MAX_VALUE}) {
            CHECK.refused("run(" + bad + ")", x, ARGUMENT, () -> x.run(bad));
        }
        x.run(1);
        CHECK.due("time behind the least run", x.processor(0), 1);
        x.run(500);
        CHECK.due("time behind the greatest run", x.processor(0), 501);
    }

    /** "Returns the number of handlers that went off the stack." */
    private static void handlersThatWentOff() {
        NestedBells x = Made.with(new int[] {1, 0, 1});
        Made.costs(x, 0, 0, 0);
        CHECK.due("none", x.run(500), 0);
        x.raise(0);
        CHECK.due("one", x.run(500), 1);
        x.setTimer(0, 0, 2);
        CHECK.due("one in every second tick", x.run(500), 250);
        x.setTimer(0, 0, 1);
        CHECK.due("one in each tick", x.run(500), 500);
    }
}
