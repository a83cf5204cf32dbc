/** The document's limits of what the calls read, and of the log: a test for each sentence that names one. */
public final class EdgesOfValuesTest {
    private static final Class<?> INDEX = IndexOutOfBoundsException.class;
    private static final Class<?> ARGUMENT = IllegalArgumentException.class;

    private static final Check CHECK = new Check();

    public static void main(String[] arguments) {
        sourceArguments();
        placeOnTheStack();
        ticksThatHaveBeenRun();
        handlersOnAndOff();
        latencies();
        ticksUntilTheTimerIsDue();
        whyItWaitsIfItIsPending();
        sectionArguments();
        placesOfTheStack();
        processorArguments();
        processorWithoutOne();
        accountArguments();
        greatestNumberOfHandlers();
        logArguments();
        logOfTwentyEvents();
        logFillsInOneRun();
        eventsOfEachKind();
        CHECK.end();
    }

    /** "IndexOutOfBoundsException if there is no such source", "IllegalArgumentException if what is out of range" */
    private static void sourceArguments() {
        NestedBells x = Made.with(new int[] {3, 0, 2}, new int[] {4, 1, 5});
        for (int bad : new int[] {-1, 2, 12, Integer.MIN_VALUE, Integer.MAX_VALUE}) {
            CHECK.refused("source(" + bad + ", 0)", x, INDEX, () -> x.source(bad, 0));
            CHECK.refused("source(" + bad + ", 17)", x, INDEX, () -> x.source(bad, 17));
        }
        for (int bad : new int[] {-1, 17, Integer.MIN_VALUE, Integer.MAX_VALUE}) {
            CHECK.refused("source(1, " + bad + ")", x, ARGUMENT, () -> x.source(1, bad));
        }
        CHECK.due("the least source and value", x.source(0, 0), 3);
        CHECK.due("the greatest source and value", x.source(1, 16), -1);
    }

    /** "6 place on the stack, from 0 at the bottom (NONE if it is not there)" */
    private static void placeOnTheStack() {
        NestedBells x = Made.with(new int[] {7, 0, 2}, new int[] {4, 0, 5});
        x.raise(1);
        x.run(11);
        CHECK.due("ahead of the last tick of its entry", x.source(1, 6), -1);
        x.run(1);
        CHECK.due("at the bottom", x.source(1, 6), 0);
        x.raise(0);
        x.run(12);
        CHECK.due("on top", x.source(0, 6), 1);
        CHECK.due("still at the bottom", x.source(1, 6), 0);
        x.run(2);
        CHECK.due("gone off", x.source(0, 6), -1);
        CHECK.due("still there", x.source(1, 6), 0);
    }

    /** "7 ticks of its handler that have been run (0 if not on the stack)" and "14 ticks of its handlers so far" */
    private static void ticksThatHaveBeenRun() {
        NestedBells x = Made.with(new int[] {4, 0, 3});
        CHECK.due("0 ahead of the first entry", x.source(0, 7), 0);
        for (int round = 0; round < 2; round++) {
            x.raise(0);
            x.run(11);
            CHECK.due("0 in an entry", x.source(0, 7), 0);
            x.run(1);
            for (int ticks = 0; ticks < 3; ticks++) {
                CHECK.due("ticks that have been run", x.source(0, 7), ticks);
                CHECK.due("ticks so far", x.source(0, 14), 3 * round + ticks);
                x.run(1);
            }
            CHECK.due("0 behind all of them", x.source(0, 7), 0);
            CHECK.due("ticks so far", x.source(0, 14), 3 * round + 3);
            x.run(10);
        }
    }

    /** "8 handlers that came on top of the stack, 9 that went off" */
    private static void handlersOnAndOff() {
        NestedBells x = Made.with(new int[] {4, 0, 3});
        x.raise(0);
        x.run(11);
        CHECK.due("none came", x.source(0, 8), 0);
        x.run(1);
        CHECK.due("one came", x.source(0, 8), 1);
        x.run(2);
        CHECK.due("none went", x.source(0, 9), 0);
        x.run(1);
        CHECK.due("one went", x.source(0, 9), 1);
        x.raise(0);
        x.run(6);
        CHECK.due("two came", x.source(0, 8), 2);
        CHECK.due("one went", x.source(0, 9), 1);
    }

    /** "11 latest and 12 greatest latency (NONE if there was none)" */
    private static void latencies() {
        NestedBells x = Made.with(new int[] {4, 0, 1});
        x.raise(0);
        x.run(11);
        CHECK.due("no latest one", x.source(0, 11), -1);
        CHECK.due("no greatest one", x.source(0, 12), -1);
        x.run(1);
        CHECK.due("the latest one", x.source(0, 11), 12);
        CHECK.due("the greatest one", x.source(0, 12), 12);
        x.run(1);
        x.raise(0);
        x.run(6);
        CHECK.due("a smaller latest one", x.source(0, 11), 6);
        CHECK.due("the greatest one stays", x.source(0, 12), 12);
    }

    /** "15 ticks until its timer is due (NONE without one)" */
    private static void ticksUntilTheTimerIsDue() {
        NestedBells x = Made.with(new int[] {4, 0, 1}, new int[] {4, 1, 1});
        CHECK.due("without one", x.source(0, 15), -1);
        CHECK.due("a line", x.source(1, 15), -1);
        x.setTimer(0, 2, 3);
        int[] left = {2, 1, 0, 2, 1, 0, 2};
        for (int ticks = 0; ticks < left.length; ticks++) {
            CHECK.due("ticks until it is due", x.source(0, 15), left[ticks]);
            x.run(1);
        }
    }

    /** "16 why it waits (NONE if it is not pending)" */
    private static void whyItWaitsIfItIsPending() {
        NestedBells x = Made.with(new int[] {4, 0, 1}, new int[] {4, 1, 1});
        x.set(0, 15);
        CHECK.due("an edge that is not pending", x.source(0, 16), -1);
        CHECK.due("a line that is down", x.source(1, 16), -1);
        x.raise(0);
        x.setLine(1, true);
        CHECK.due("an edge that is", x.source(0, 16), 2);
        CHECK.due("a line that is up", x.source(1, 16), 2);
    }

    /** "IndexOutOfBoundsException if there is no such source or section" */
    private static void sectionArguments() {
        NestedBells x = Made.with(new int[] {4, 0, 9}, new int[] {4, 0, 9}, new int[] {4, 0, 9});
        x.addSection(1, 1, 2, 3);
        x.addSection(2, 4, 5, 6);
        x.addSection(2, 7, 8, 9);
        for (int source = -1; source < 4; source++) {
            int s = source;
            for (int k = source == 3 ? 0 : Math.max(source, 0); k < 4; k++) {
                int section = k;
                CHECK.refused("section(" + s + ", " + k + ", 3)", x, INDEX, () -> x.section(s, section, 3));
                CHECK.refused("section(" + s + ", " + k + ", 4)", x, INDEX, () -> x.section(s, section, 4));
            }
            CHECK.refused("section(" + s + ", -1, 0)", x, INDEX, () -> x.section(s, -1, 0));
        }
        for (int bad : new int[] {-1, 4, Integer.MIN_VALUE, Integer.MAX_VALUE}) {
            CHECK.refused("section(1, 0, " + bad + ")", x, ARGUMENT, () -> x.section(1, 0, bad));
            CHECK.refused("section(2, 1, " + bad + ")", x, ARGUMENT, () -> x.section(2, 1, bad));
        }
        int[] values = {7, 8, 9, 0};
        for (int what = 0; what < 4; what++) {
            CHECK.due("section(2, 1, " + what + ")", x.section(2, 1, what), values[what]);
        }
    }

    /** "Returns the source; NONE if there are not so many." "IllegalArgumentException if place is negative" */
    private static void placesOfTheStack() {
        NestedBells x = Made.with(new int[] {4, 0, 9}, new int[] {5, 0, 9});
        x.raise(0);
        x.run(11);
        CHECK.due("stack(0) of an empty one", x.stack(0), -1);
        x.run(1);
        CHECK.due("stack(0) of one", x.stack(0), 0);
        CHECK.due("stack(1) of one", x.stack(1), -1);
        x.raise(1);
        x.run(12);
        CHECK.due("stack(1) of two", x.stack(1), 1);
        for (int place : new int[] {2, 11, 12, 13, Integer.MAX_VALUE}) {
            CHECK.due("stack(" + place + ") of two", x.stack(place), -1);
        }
        x.run(9);
        CHECK.due("stack(1) of one again", x.stack(1), -1);
        CHECK.refused("stack(-1)", x, ARGUMENT, () -> x.stack(-1));
        CHECK.refused("stack(the least)", x, ARGUMENT, () -> x.stack(Integer.MIN_VALUE));
    }

    /** "IllegalArgumentException if what is out of range" */
    private static void processorArguments() {
        NestedBells x = Made.with(new int[] {4, 0, 9});
        x.run(3);
        for (int bad : new int[] {-1, 12, Integer.MIN_VALUE, Integer.MAX_VALUE}) {
            CHECK.refused("processor(" + bad + ")", x, ARGUMENT, () -> x.processor(bad));
        }
        CHECK.due("the least value", x.processor(0), 3);
        CHECK.due("the greatest value", x.processor(11), 1);
    }

    /** "6 candidate (NONE without one)", "9 source that is entered (NONE ..)", "10 ticks that are left (0 ..)" */
    private static void processorWithoutOne() {
        NestedBells x = Made.with(new int[] {4, 0, 9});
        CHECK.due("no candidate", x.processor(6), -1);
        CHECK.change(x, "no change", 0, -1, 0);
        x.raise(0);
        CHECK.due("a candidate", x.processor(6), 0);
        CHECK.change(x, "no change yet", 0, -1, 0);
        x.run(11);
        CHECK.due("the candidate is entered", x.processor(6), 0);
        CHECK.change(x, "the last tick of the entry", 1, 0, 1);
        x.run(1);
        CHECK.due("no candidate", x.processor(6), -1);
        CHECK.change(x, "a handler runs", 0, -1, 0);
        x.run(9);
        CHECK.change(x, "an exit has no source", 2, -1, 10);
        x.run(10);
        CHECK.change(x, "no change again", 0, -1, 0);
        CHECK.due("handlers on the stack", x.processor(7), 0);
    }

    private static void accountArguments() {
        NestedBells x = Made.with(new int[] {4, 0, 9});
        x.raise(0);
        x.run(11);
        CHECK.due("the greatest value ahead of the first latency", x.account(9), 0);
        x.run(30);
        for (int bad : new int[] {-1, 10, Integer.MIN_VALUE, Integer.MAX_VALUE}) {
            CHECK.refused("account(" + bad + ")", x, ARGUMENT, () -> x.account(bad));
        }
        CHECK.due("the least value", x.account(0), 10);
        CHECK.due("the greatest value", x.account(9), 12);
    }

    /** "8 greatest number of handlers on the stack so far" */
    private static void greatestNumberOfHandlers() {
        NestedBells x = Made.with(new int[] {4, 0, 1}, new int[] {5, 0, 9});
        CHECK.due("none so far", x.account(8), 0);
        Made.costs(x, 0, 0, 0);
        x.raise(0);
        x.run(1);
        CHECK.due("one, for a tick", x.account(8), 1);
        CHECK.due("none now", x.processor(7), 0);
        x.raise(1);
        x.run(2);
        CHECK.due("still one", x.account(8), 1);
        x.raise(0);
        x.run(100);
        CHECK.due("one behind the other", x.account(8), 1);
        x.setSource(0, 1, 5);
        x.raise(0);
        x.run(1);
        x.raise(1);
        x.run(1);
        CHECK.due("two, one on the other", x.account(8), 2);
        x.run(100);
        x.raise(1);
        x.run(1);
        CHECK.due("one now", x.processor(7), 1);
        CHECK.due("still two", x.account(8), 2);
    }

    /** "IllegalArgumentException if event is negative, or what is out of range" */
    private static void logArguments() {
        NestedBells x = Made.with(new int[] {4, 0, 1});
        x.raise(0);
        x.raise(0);
        for (int bad : new int[] {-1, 3, Integer.MIN_VALUE, Integer.MAX_VALUE}) {
            CHECK.refused("log(0, " + bad + ")", x, ARGUMENT, () -> x.log(0, bad));
            CHECK.refused("log(1, " + bad + ")", x, ARGUMENT, () -> x.log(1, bad));
        }
        CHECK.refused("log(-1, 0)", x, ARGUMENT, () -> x.log(-1, 0));
        CHECK.refused("log(the least, 0)", x, ARGUMENT, () -> x.log(Integer.MIN_VALUE, 0));
        CHECK.event(x, 0, 3, 0, 0);
        CHECK.event(x, 1, -1, -1, -1);
        CHECK.event(x, Integer.MAX_VALUE, -1, -1, -1);
    }

    /** "The log keeps the latest 20 events, numbered from 0 for the latest one" */
    private static void logOfTwentyEvents() {
        NestedBells x = Made.with(new int[] {4, 0, 1});
        x.set(0, 15);
        x.raise(0);
        CHECK.event(x, 0, -1, -1, -1);
        for (int count = 1; count <= 45; count++) {
            x.raise(0);
            int kept = Math.min(count, 20);
            CHECK.event(x, 0, 3, 0, count - 1);
            CHECK.event(x, kept - 1, 3, 0, count - kept);
            CHECK.event(x, kept, -1, -1, -1);
            x.run(1);
        }
        for (int event = 0; event < 20; event++) {
            CHECK.event(x, event, 3, 0, 44 - event);
        }
    }

    private static void logFillsInOneRun() {
        NestedBells x = Made.with(new int[] {4, 0, 1});
        x.set(0, 15);
        x.raise(0);
        x.setTimer(0, 0, 1);
        x.run(19);
        CHECK.event(x, 18, 3, 0, 0);
        CHECK.event(x, 19, -1, -1, -1);
        x.run(1);
        CHECK.event(x, 19, 3, 0, 0);
        CHECK.event(x, 20, -1, -1, -1);
        x.run(1);
        CHECK.event(x, 19, 3, 0, 1);
        CHECK.event(x, 20, -1, -1, -1);
        x.run(500);
        CHECK.event(x, 19, 3, 0, 501);
        CHECK.event(x, 0, 3, 0, 520);
        CHECK.due("the accounts count them all", x.account(7), 521);
    }

    /** "1 a handler came on top .. 2 a handler went off the stack (at the time t + 1) .. (t in a tick)" */
    private static void eventsOfEachKind() {
        NestedBells x = Made.with(new int[] {4, 0, 1}, new int[] {6, 1, 20}, new int[] {8, 1, 20});
        x.run(5);
        x.raise(0);
        x.raise(0);
        CHECK.event(x, 0, 3, 0, 5);
        x.run(2);
        x.setLine(1, true);
        x.run(1);
        CHECK.event(x, 0, 4, 1, 7);
        x.run(9);
        CHECK.event(x, 0, 1, 1, 17);
        x.setLine(1, false);
        x.setLine(2, true);
        x.run(1);
        CHECK.event(x, 0, 6, 1, 17);
        x.setLine(2, false);
        x.run(1);
        CHECK.event(x, 0, 7, 2, 18);
        x.run(9 + 20);
        CHECK.event(x, 0, 2, 1, 48);
        x.run(1);
        CHECK.event(x, 0, 5, 0, 48);
        x.run(5);
        CHECK.event(x, 0, 1, 0, 54);
        CHECK.event(x, 8, -1, -1, -1);
        CHECK.event(x, 7, 3, 0, 5);
    }
}
