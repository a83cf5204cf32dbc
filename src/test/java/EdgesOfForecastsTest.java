/** The document's limits of the forecasts: a test for each sentence that names one. */
public final class EdgesOfForecastsTest {
    private static final Class<?> INDEX = IndexOutOfBoundsException.class;
    private static final Class<?> ARGUMENT = IllegalArgumentException.class;

    private static final Check CHECK = new Check();

    public static void main(String[] arguments) {
        arguments();
        entersWithinTicks();
        entersInTheFirstTick();
        entersInTheLastTick();
        entersOnceMore();
        neverEnters();
        idleNow();
        idleAfterTicks();
        idleInTheLastTick();
        neverIdle();
        latencyWithinTicks();
        latencyInTheLastTick();
        latencyOfOneThatIsPending();
        latencyOfALineThatIsUp();
        leastLatency();
        blockedByNone();
        blockedByLessUrgentOnes();
        blockedAtTheCeiling();
        blockedForTicksOfTheHandler();
        blockedForTheGreatestLength();
        CHECK.end();
    }

    /** "most: 0 to 1000" */
    private static void arguments() {
        NestedBells x = Made.with(new int[] {4, 0, 9});
        x.raise(0);
        for (int bad : new int[] {-1, 1, 12, Integer.MIN_VALUE, Integer.MAX_VALUE}) {
            CHECK.refused("entersAfter(" + bad + ", 0)", x, INDEX, () -> x.entersAfter(bad, 0));
            CHECK.refused("entersAfter(" + bad + ", -1)", x, INDEX, () -> x.entersAfter(bad, -1));
            CHECK.refused("latencyIf(" + bad + ", 0)", x, INDEX, () -> x.latencyIf(bad, 0));
            CHECK.refused("latencyIf(" + bad + ", 1001)", x, INDEX, () -> x.latencyIf(bad, 1001));
            CHECK.refused("blocking(" + bad + ")", x, INDEX, () -> x.blocking(bad));
        }
        for (int bad : new int[] {-1, 1001, Integer.MIN_VALUE, Integer.MAX_VALUE}) {
            CHECK.refused("entersAfter(0, " + bad + ")", x, ARGUMENT, () -> x.entersAfter(0, bad));
            CHECK.refused("idleAfter(" + bad + ")", x, ARGUMENT, () -> x.idleAfter(bad));
            CHECK.refused("latencyIf(0, " + bad + ")", x, ARGUMENT, () -> x.latencyIf(0, bad));
        }
        CHECK.due("entersAfter(0, the least)", x.entersAfter(0, 0), -1);
        CHECK.due("entersAfter(0, the greatest)", x.entersAfter(0, 1000), 12);
        CHECK.due("idleAfter(the least)", x.idleAfter(0), 0);
        CHECK.due("idleAfter(the greatest)", x.idleAfter(1000), 0);
        CHECK.due("latencyIf(0, the least)", x.latencyIf(0, 0), -1);
        CHECK.due("latencyIf(0, the greatest)", x.latencyIf(0, 1000), 12);
    }

    /** "Returns the number of ticks, the one in which it comes there included (1 to most); NONE if it would not .." */
    private static void entersWithinTicks() {
        NestedBells x = Made.with(new int[] {4, 0, 9});
        x.raise(0);
        for (int left = 12; left > 0; left--) {
            CHECK.due("a tick too few", x.entersAfter(0, left - 1), -1);
            CHECK.due("just enough", x.entersAfter(0, left), left);
            CHECK.due("a tick more", x.entersAfter(0, left + 1), left);
            x.run(1);
        }
        CHECK.due("it is there", x.stack(0), 0);
        CHECK.due("and does not come once more", x.entersAfter(0, 1000), -1);
    }

    private static void entersInTheFirstTick() {
        NestedBells x = Made.with(new int[] {4, 0, 1});
        x.set(1, 0);
        x.raise(0);
        CHECK.due("in the first tick, though it goes off in it", x.entersAfter(0, 1), 1);
        CHECK.due("not without a tick", x.entersAfter(0, 0), -1);
        x.set(1, 1);
        CHECK.due("at the end of the first tick", x.entersAfter(0, 1), 1);
    }

    private static void entersInTheLastTick() {
        NestedBells x = Made.with(new int[] {4, 0, 1}, new int[] {4, 0, 1});
        x.setTimer(0, 988, 1000);
        x.setTimer(1, 995, 1);
        CHECK.due("in the last tick of 1000", x.entersAfter(0, 1000), 1000);
        CHECK.due("not in 999", x.entersAfter(0, 999), -1);
        x.setTimer(0, 989, 1000);
        CHECK.due("not a tick later", x.entersAfter(0, 1000), -1);
        CHECK.due("time stays", x.processor(0), 0);
        CHECK.due("the timer stays", x.source(0, 15), 989);
    }

    /** "until the handler of a source has come on top of the stack once more" */
    private static void entersOnceMore() {
        NestedBells x = Made.with(new int[] {4, 1, 3});
        x.setLine(0, true);
        CHECK.due("the first time", x.entersAfter(0, 1000), 12);
        x.run(12);
        CHECK.due("on the stack: its 3 ticks and a tail", x.entersAfter(0, 1000), 3 + 6);
        x.run(2);
        CHECK.due("in its last tick", x.entersAfter(0, 1000), 1 + 6);
        x.run(1);
        CHECK.due("in the exit", x.entersAfter(0, 1000), 6);
    }

    private static void neverEnters() {
        NestedBells x = Made.with(new int[] {4, 0, 3}, new int[] {5, 1, 3});
        CHECK.due("not pending", x.entersAfter(0, 1000), -1);
        x.raise(0);
        x.set(0, 4);
        CHECK.due("masked", x.entersAfter(0, 1000), -1);
        x.set(0, 3);
        CHECK.due("above the mask", x.entersAfter(0, 1000), 12);
        x.setSource(0, 2, 0);
        CHECK.due("not enabled", x.entersAfter(0, 1000), -1);
        x.setSource(0, 2, 1);
        x.setLine(1, true);
        CHECK.due("behind a line that stays up", x.entersAfter(0, 1000), -1);
    }

    /** "Returns the number of ticks (0 if it is so now)" */
    private static void idleNow() {
        NestedBells x = Made.with(new int[] {4, 0, 3});
        for (int most : new int[] {0, 1, 1000}) {
            CHECK.due("a new one", x.idleAfter(most), 0);
        }
        x.raise(0);
        CHECK.due("though a source is pending", x.idleAfter(0), 0);
        x.run(1);
        CHECK.due("not in a change", x.idleAfter(0), -1);
        x.run(11);
        CHECK.due("not with a handler", x.idleAfter(0), -1);
        x.run(3);
        CHECK.due("not in an exit", x.idleAfter(0), -1);
        x.run(10);
        CHECK.due("behind it", x.idleAfter(0), 0);
    }

    /** "NONE if it would not be so within most ticks" */
    private static void idleAfterTicks() {
        NestedBells x = Made.with(new int[] {4, 0, 3});
        x.raise(0);
        x.run(1);
        for (int left = 11 + 3 + 10; left > 0; left--) {
            CHECK.due("a tick too few", x.idleAfter(left - 1), -1);
            CHECK.due("just enough", x.idleAfter(left), left);
            CHECK.due("a tick more", x.idleAfter(left + 1), left);
            x.run(1);
        }
    }

    /** A first handler that runs to 549, a tail to 599, a second one to 950, and an exit or a tail to 1000. */
    private static NestedBells aThousandTicks() {
        NestedBells x = Made.with(new int[] {9, 0, 500}, new int[] {9, 0, 351}, new int[] {3, 0, 5});
        Made.costs(x, 50, 50, 50);
        x.raise(0);
        x.raise(1);
        x.run(1);
        return x;
    }

    private static void idleInTheLastTick() {
        NestedBells x = aThousandTicks();
        CHECK.due("in the last tick of 1000", x.idleAfter(1000), 1000);
        CHECK.due("not in 999", x.idleAfter(999), -1);
        x.setSource(1, 1, 352);
        CHECK.due("not a tick later", x.idleAfter(1000), -1);
        x.setSource(1, 1, 350);
        CHECK.due("a tick earlier", x.idleAfter(999), 999);
        CHECK.due("time stays", x.processor(0), 1);
    }

    private static void neverIdle() {
        NestedBells x = Made.with(new int[] {4, 1, 1});
        x.setLine(0, true);
        x.run(1);
        CHECK.due("a line that stays up", x.idleAfter(1000), -1);
        x.set(2, 0);
        CHECK.due("without an exit cost, between its handlers", x.idleAfter(1000), 12);
    }

    /** "Returns the latency of the next time ..; NONE if it would not within most ticks." */
    private static void latencyWithinTicks() {
        NestedBells x = Made.with(new int[] {4, 0, 9}, new int[] {4, 1, 9});
        for (int source = 0; source < 2; source++) {
            CHECK.due("a tick too few", x.latencyIf(source, 11), -1);
            CHECK.due("just enough", x.latencyIf(source, 12), 12);
            CHECK.due("a tick more", x.latencyIf(source, 13), 12);
            CHECK.due("it does not become pending", x.source(source, 4), 0);
        }
        CHECK.due("its line stays down", x.source(1, 5), 0);
        x.set(0, 4);
        CHECK.due("masked", x.latencyIf(0, 1000), -1);
        x.set(0, 0);
        x.setSource(0, 2, 0);
        CHECK.due("not enabled", x.latencyIf(0, 1000), -1);
    }

    private static void latencyInTheLastTick() {
        NestedBells x = aThousandTicks();
        CHECK.due("in the last tick of 1000", x.latencyIf(2, 1000), 1000);
        CHECK.due("not in 999", x.latencyIf(2, 999), -1);
        x.setSource(1, 1, 352);
        CHECK.due("not a tick later", x.latencyIf(2, 1000), -1);
        CHECK.due("it does not become pending", x.source(2, 4), 0);
    }

    /** "(if it is pending already, since it is so; ..)" */
    private static void latencyOfOneThatIsPending() {
        NestedBells x = Made.with(new int[] {4, 0, 9});
        x.set(0, 15);
        x.run(7);
        x.raise(0);
        x.run(500);
        x.run(500);
        x.run(1);
        x.set(0, 0);
        CHECK.due("more than most", x.latencyIf(0, 12), 1013);
        CHECK.due("a tick too few", x.latencyIf(0, 11), -1);
        CHECK.due("no edge is lost", x.source(0, 10) + x.account(7), 0);
        CHECK.due("undo() to the mask", x.undo(), 3);
        CHECK.due("not while it is masked", x.latencyIf(0, 1000), -1);
        x.set(0, 0);
        x.run(12);
        CHECK.due("so it is", x.source(0, 11), 1013);
        CHECK.due("on the stack: since now, behind 9 ticks", x.latencyIf(0, 1000), 9 + 6);
        x.raise(0);
        x.run(4);
        CHECK.due("on the stack, and pending since 4 ticks", x.latencyIf(0, 1000), 9 + 6);
        CHECK.due("on the stack, a tick too few", x.latencyIf(0, 10), -1);
        CHECK.due("on the stack, just enough", x.latencyIf(0, 11), 9 + 6);
    }

    /** "a line that is up already stays as it is" */
    private static void latencyOfALineThatIsUp() {
        NestedBells x = Made.with(new int[] {4, 1, 9});
        x.set(0, 15);
        x.setLine(0, true);
        x.run(100);
        x.set(0, 0);
        CHECK.due("since it came up", x.latencyIf(0, 12), 112);
        x.run(12);
        CHECK.due("on the stack: since its handler goes off", x.latencyIf(0, 1000), 6);
        CHECK.due("on the stack: a tick too few", x.latencyIf(0, 14), -1);
        CHECK.due("on the stack: just enough", x.latencyIf(0, 15), 6);
        x.setLine(0, false);
        CHECK.due("on the stack with its line down: since its handler goes off", x.latencyIf(0, 15), 6);
        x.run(9 + 4);
        CHECK.due("in the exit with its line down: since now", x.latencyIf(0, 6), 6);
    }

    private static void leastLatency() {
        NestedBells x = Made.with(new int[] {4, 0, 1}, new int[] {5, 0, 1});
        x.set(1, 0);
        CHECK.due("in the first tick", x.latencyIf(0, 1), 0);
        CHECK.due("not without a tick", x.latencyIf(0, 0), -1);
        x.set(2, 0);
        x.raise(1);
        CHECK.due("behind another one of a tick", x.latencyIf(0, 2), 1);
        CHECK.due("a tick too few", x.latencyIf(0, 1), -1);
    }

    /** "0 if there is none" */
    private static void blockedByNone() {
        NestedBells x = Made.with(new int[] {4, 0, 20}, new int[] {9, 0, 20});
        CHECK.due("no sections", x.blocking(1), 0);
        x.addSection(1, 0, 20, 15);
        CHECK.due("its own section", x.blocking(1), 0);
        CHECK.due("a section of a more urgent one", x.blocking(0), 0);
    }

    /** "of handlers of sources with a lower priority" */
    private static void blockedByLessUrgentOnes() {
        NestedBells x = Made.with(new int[] {4, 0, 20}, new int[] {5, 0, 20});
        x.addSection(0, 0, 7, 15);
        CHECK.due("a priority that is lower by 1", x.blocking(1), 7);
        x.setSource(1, 0, 4);
        CHECK.due("the same priority", x.blocking(1), 0);
        x.setSource(1, 0, 3);
        CHECK.due("a greater priority", x.blocking(1), 0);
        x.setSource(1, 0, 15);
        x.setSource(0, 0, 1);
        CHECK.due("the least and the greatest priority", x.blocking(1), 7);
    }

    /** "whose ceiling is at least the priority of this source" */
    private static void blockedAtTheCeiling() {
        int[] due = {0, 7, 7};
        for (int ceiling = 8; ceiling <= 10; ceiling++) {
            NestedBells x = Made.with(new int[] {4, 0, 20}, new int[] {9, 0, 20});
            x.addSection(0, 2, 7, ceiling);
            CHECK.due("ceiling " + ceiling, x.blocking(1), due[ceiling - 8]);
        }
    }

    /** "of each section only the ticks that are less than the length of its handler count" */
    private static void blockedForTicksOfTheHandler() {
        int[][] sections = {{0, 1, 1}, {0, 20, 20}, {0, 21, 20}, {0, 500, 20}, {1, 19, 19}, {1, 20, 19}, {18, 1, 1},
            {18, 500, 2}, {19, 1, 1}, {19, 2, 1}, {20, 1, 0}, {20, 500, 0}, {499, 500, 0}};
        for (int[] s : sections) {
            NestedBells x = Made.with(new int[] {4, 0, 20}, new int[] {9, 0, 20});
            x.addSection(0, s[0], s[1], 9);
            CHECK.due("section of " + s[1] + " from " + s[0], x.blocking(1), s[2]);
        }
        NestedBells x = Made.with(new int[] {4, 0, 500}, new int[] {9, 0, 20});
        x.addSection(0, 0, 500, 9);
        CHECK.due("the greatest section", x.blocking(1), 500);
        x.setSource(0, 1, 1);
        CHECK.due("a handler that became shorter", x.blocking(1), 1);
    }

    /** "Returns the greatest length of a section" */
    private static void blockedForTheGreatestLength() {
        NestedBells x = Made.with(new int[] {4, 0, 20}, new int[] {5, 0, 20}, new int[] {9, 0, 20});
        x.addSection(0, 0, 3, 9);
        x.addSection(0, 5, 4, 9);
        x.addSection(1, 0, 6, 9);
        x.addSection(1, 7, 5, 9);
        CHECK.due("of all", x.blocking(2), 6);
        CHECK.due("of those below", x.blocking(1), 4);
        x.clearSections(1);
        CHECK.due("of those that are left, the second of a handler", x.blocking(2), 4);
        x.raise(0);
        x.run(20);
        CHECK.due("also while one is in force", x.blocking(2), 4);
    }
}
