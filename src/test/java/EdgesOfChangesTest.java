/** The document's limits of entries, exits, tails, latencies and why a source waits: a test for each sentence. */
public final class EdgesOfChangesTest {
    private static final Check CHECK = new Check();

    public static void main(String[] arguments) {
        lateInTheFirstAndLastTick();
        tooLateAndTooSoonToBeLate();
        lateInATail();
        lateOfTheSamePriority();
        lateAndLessUrgent();
        spuriousWithAnExit();
        spuriousWithTheShortestExit();
        spuriousWithoutAnExit();
        spuriousOnAHandler();
        spuriousInATail();
        tailInTheFirstAndLastTick();
        noTailBehindTheExit();
        noTailOnAHandler();
        preemptedIfThereIsOne();
        entryWithoutTicksOnAHandler();
        lastTickOfAHandler();
        sinceItWasRaised();
        sinceItsLineCameUp();
        sinceItWentOff();
        leastLatency();
        whyNotEnabled();
        whyTheMask();
        whyACeiling();
        whyAPriority();
        whyNotTheCandidate();
        whyAChange();
        CHECK.end();
    }

    private static NestedBells entryOf3(int ticks) {
        NestedBells x = Made.with(new int[] {3, 0, 20}, new int[] {7, 0, 4});
        x.raise(0);
        x.run(ticks);
        return x;
    }

    /** "if the candidate is another source .., that one is entered instead (with the ticks that are left)" */
    private static void lateInTheFirstAndLastTick() {
        NestedBells x = entryOf3(1);
        x.raise(1);
        x.run(1);
        CHECK.change(x, "taken over in the second tick", 1, 1, 10);
        CHECK.event(x, 0, 4, 1, 1);
        x = entryOf3(11);
        x.raise(1);
        x.run(1);
        CHECK.change(x, "taken over in the last tick", 0, -1, 0);
        CHECK.event(x, 1, 4, 1, 11);
        CHECK.event(x, 0, 1, 1, 12);
        CHECK.due("the latency of one tick", x.source(1, 11), 1);
        CHECK.due("the other one stays pending", x.source(0, 4), 1);
        CHECK.due("late arrivals", x.account(3), 1);
    }

    private static void tooLateAndTooSoonToBeLate() {
        NestedBells x = entryOf3(12);
        x.raise(1);
        x.run(1);
        CHECK.change(x, "behind the entry it preempts", 1, 1, 11);
        CHECK.event(x, 0, 6, 0, 12);
        CHECK.due("no late arrival", x.account(3), 0);
        x = Made.with(new int[] {3, 0, 20}, new int[] {7, 0, 4});
        x.raise(0);
        x.raise(1);
        x.run(1);
        CHECK.change(x, "ahead of the entry it is entered itself", 1, 1, 11);
        CHECK.due("no late arrival", x.account(3), 0);
        CHECK.event(x, 0, -1, -1, -1);
    }

    private static void lateInATail() {
        NestedBells x = Made.with(new int[] {3, 0, 2}, new int[] {3, 0, 5}, new int[] {7, 0, 4});
        x.raise(0);
        x.raise(1);
        x.run(19);
        CHECK.change(x, "the last tick of a tail", 3, 1, 1);
        x.raise(2);
        x.run(1);
        CHECK.event(x, 1, 4, 2, 19);
        CHECK.event(x, 0, 1, 2, 20);
        CHECK.due("late arrivals", x.account(3), 1);
        CHECK.due("tails", x.account(4), 1);
    }

    private static void lateOfTheSamePriority() {
        NestedBells x = Made.with(new int[] {5, 0, 2}, new int[] {5, 0, 2}, new int[] {5, 0, 2});
        x.raise(1);
        x.run(1);
        x.raise(2);
        x.run(1);
        CHECK.change(x, "not taken over by a greater number", 1, 1, 10);
        x.raise(0);
        x.run(1);
        CHECK.change(x, "taken over by a lower number", 1, 0, 9);
        CHECK.due("late arrivals", x.account(3), 1);
    }

    /** "a late arrival, also if it is less urgent, where the other one is no candidate any more" */
    private static void lateAndLessUrgent() {
        NestedBells x = Made.with(new int[] {7, 1, 4}, new int[] {3, 0, 2});
        x.setLine(0, true);
        x.raise(1);
        x.run(11);
        CHECK.change(x, "the last tick of the entry", 1, 0, 1);
        x.setLine(0, false);
        x.run(1);
        CHECK.event(x, 1, 4, 1, 11);
        CHECK.event(x, 0, 1, 1, 12);
        CHECK.due("late arrivals", x.account(3), 1);
        CHECK.due("spurious entries", x.account(6), 0);
        x = Made.with(new int[] {7, 0, 4}, new int[] {3, 0, 2});
        x.raise(0);
        x.raise(1);
        x.run(1);
        x.setSource(0, 2, 0);
        x.run(1);
        CHECK.change(x, "where the other one is not enabled", 1, 1, 10);
    }

    private static NestedBells entryOfALine(int exitCost, int ticks) {
        NestedBells x = Made.with(new int[] {7, 1, 4});
        x.set(2, exitCost);
        x.setLine(0, true);
        x.run(ticks);
        x.setLine(0, false);
        return x;
    }

    /** "if there is no candidate, the change becomes an exit with the ticks of the exit cost (or none, ..)" */
    private static void spuriousWithAnExit() {
        for (int ticks : new int[] {1, 11}) {
            NestedBells x = entryOfALine(10, ticks);
            CHECK.change(x, "the entry", 1, 0, 12 - ticks);
            CHECK.due("no handler went off", x.run(1), 0);
            CHECK.change(x, "an exit instead", 2, -1, 9);
            CHECK.event(x, 0, 7, 0, ticks);
            CHECK.event(x, 1, -1, -1, -1);
            CHECK.due("spurious entries", x.account(6), 1);
            CHECK.due("ticks of changes", x.account(2), ticks + 1);
            x.run(8);
            CHECK.change(x, "its last tick", 2, -1, 1);
            x.run(1);
            CHECK.change(x, "behind it", 0, -1, 0);
            CHECK.due("no handler came on top", x.source(0, 8), 0);
        }
    }

    private static void spuriousWithTheShortestExit() {
        NestedBells x = entryOfALine(1, 3);
        x.run(1);
        CHECK.change(x, "an exit of one tick is spent", 0, -1, 0);
        CHECK.due("ticks of changes", x.account(2), 4);
        CHECK.due("ticks of the main program", x.account(0), 0);
    }

    private static void spuriousWithoutAnExit() {
        NestedBells x = entryOfALine(0, 3);
        x.run(1);
        CHECK.change(x, "no exit", 0, -1, 0);
        CHECK.due("ticks of changes", x.account(2), 3);
        CHECK.due("the tick is the main program's", x.account(0), 1);
        CHECK.event(x, 0, 7, 0, 3);
        x.setLine(0, true);
        x.run(1);
        CHECK.change(x, "an entry, for there is no exit", 1, 0, 11);
    }

    private static void spuriousOnAHandler() {
        int[] costs = {10, 0};
        for (int cost : costs) {
            NestedBells x = Made.with(new int[] {3, 0, 20}, new int[] {7, 1, 4});
            x.set(2, cost);
            x.raise(0);
            x.run(13);
            x.setLine(1, true);
            x.run(3);
            x.setLine(1, false);
            if (cost > 0) {
                x.run(cost);
            }
            CHECK.due("ticks of the handler so far", x.source(0, 7), 1);
            x.run(1);
            CHECK.change(x, "behind the exit", 0, -1, 0);
            CHECK.due("the handler goes on at once", x.source(0, 7), 2);
            CHECK.due("preemptions", x.account(5), 1);
            CHECK.due("spurious entries", x.account(6), 1);
            CHECK.due("handlers on the stack at most", x.account(8), 1);
        }
    }

    private static void spuriousInATail() {
        int[] costs = {10, 0};
        for (int cost : costs) {
            NestedBells x = Made.with(new int[] {3, 0, 2}, new int[] {3, 0, 5});
            x.raise(0);
            x.raise(1);
            x.run(19);
            CHECK.change(x, "the last tick of the tail", 3, 1, 1);
            x.set(2, cost);
            x.set(0, 3);
            x.run(1);
            CHECK.change(x, "an exit, if it has ticks", cost == 0 ? 0 : 2, -1, cost == 0 ? 0 : 9);
            CHECK.event(x, 0, 7, 1, 19);
            CHECK.due("ticks of the main program", x.account(0), cost == 0 ? 1 : 0);
            CHECK.due("still pending", x.source(1, 16), 2);
        }
    }

    private static NestedBells exitOf3(int ticks) {
        NestedBells x = Made.with(new int[] {3, 0, 2}, new int[] {1, 0, 5});
        x.raise(0);
        x.run(14);
        CHECK.change(x, "the exit", 2, -1, 10);
        x.run(ticks);
        x.raise(1);
        x.run(1);
        return x;
    }

    /** "If there is an exit, and a candidate: the change becomes a tail with the candidate and .. the tail cost." */
    private static void tailInTheFirstAndLastTick() {
        for (int ticks : new int[] {1, 9}) {
            NestedBells x = exitOf3(ticks);
            CHECK.change(x, "a tail, whatever is left of the exit", 3, 1, 5);
            CHECK.event(x, 0, 5, 1, 14 + ticks);
            CHECK.due("tails", x.account(4), 1);
            x.run(5);
            CHECK.due("latency of the tail cost", x.source(1, 11), 6);
        }
        NestedBells x = Made.with(new int[] {3, 0, 2}, new int[] {1, 0, 5});
        x.raise(0);
        x.raise(1);
        x.run(15);
        CHECK.change(x, "in the first tick of the exit", 3, 1, 5);
        CHECK.event(x, 0, 5, 1, 14);
    }

    private static void noTailBehindTheExit() {
        NestedBells x = exitOf3(10);
        CHECK.change(x, "an entry behind the exit", 1, 1, 11);
        CHECK.due("tails", x.account(4), 0);
        CHECK.due("no preemption", x.account(5), 0);
    }

    private static void noTailOnAHandler() {
        NestedBells x = Made.with(new int[] {3, 0, 20}, new int[] {7, 0, 4}, new int[] {3, 0, 4}, new int[] {4, 0, 4});
        x.raise(0);
        x.run(12);
        x.raise(1);
        x.run(12 + 4);
        x.raise(2);
        x.run(1);
        CHECK.change(x, "no tail to one that is at the priority below", 2, -1, 9);
        x.raise(3);
        x.run(1);
        CHECK.change(x, "a tail to one above it", 3, 3, 5);
        x.run(5);
        CHECK.due("on top of the one below", x.stack(1), 3);
        CHECK.due("which is not preempted again", x.source(0, 13), 1);
        CHECK.due("preemptions", x.account(5), 1);
        CHECK.event(x, 1, 5, 3, 29);
    }

    /** "if the stack is not empty, its top handler is preempted" */
    private static void preemptedIfThereIsOne() {
        NestedBells x = Made.with(new int[] {3, 0, 20}, new int[] {5, 0, 20}, new int[] {7, 0, 20});
        x.raise(0);
        x.run(12);
        CHECK.due("nobody is preempted on an empty stack", x.account(5), 0);
        CHECK.event(x, 1, -1, -1, -1);
        x.raise(1);
        x.run(12);
        CHECK.event(x, 1, 6, 0, 12);
        x.raise(2);
        x.run(12);
        CHECK.event(x, 1, 6, 1, 24);
        int[] preempted = {1, 1, 0};
        for (int source = 0; source < 3; source++) {
            CHECK.due("the top one alone is preempted", x.source(source, 13), preempted[source]);
        }
        CHECK.due("preemptions", x.account(5), 2);
    }

    private static void entryWithoutTicksOnAHandler() {
        NestedBells x = Made.with(new int[] {3, 0, 5}, new int[] {7, 0, 2}, new int[] {8, 0, 1});
        Made.costs(x, 0, 0, 0);
        x.raise(0);
        x.run(2);
        x.raise(1);
        CHECK.due("run(1)", x.run(1), 0);
        CHECK.event(x, 1, 6, 0, 2);
        CHECK.event(x, 0, 1, 1, 2);
        CHECK.due("the tick is the new one's", x.source(1, 7), 1);
        x.raise(2);
        CHECK.due("on top and off in one tick", x.run(1), 1);
        CHECK.due("three on the stack in the tick", x.account(8), 3);
        CHECK.due("then the ones below go on, a tick each", x.run(1), 1);
        CHECK.due("to their ends", x.run(3), 1);
        CHECK.due("ticks of handlers", x.account(1), 8);
    }

    /** "A handler of which all ticks have been run goes off the stack, and there is an exit with .. the exit cost" */
    private static void lastTickOfAHandler() {
        int[] costs = {0, 1, 50};
        for (int cost : costs) {
            NestedBells x = Made.with(new int[] {3, 0, 3});
            x.set(2, cost);
            x.raise(0);
            CHECK.due("ahead of the last tick", x.run(14), 0);
            CHECK.due("still on the stack", x.source(0, 6), 0);
            CHECK.due("the last tick", x.run(1), 1);
            CHECK.due("off the stack", x.source(0, 6), -1);
            CHECK.event(x, 0, 2, 0, 15);
            CHECK.change(x, "behind it", cost == 0 ? 0 : 2, -1, cost);
            CHECK.due("idleAfter", x.idleAfter(1000), cost);
        }
    }

    /** "A source of the kind 0 is pending since it was raised (not when an edge was lost)" */
    private static void sinceItWasRaised() {
        NestedBells x = Made.with(new int[] {3, 0, 3});
        x.run(2);
        x.raise(0);
        x.raise(0);
        x.run(11);
        x.raise(0);
        x.run(1);
        CHECK.due("latency", x.source(0, 11), 12);
        CHECK.due("edges lost", x.source(0, 10), 2);
        x.setTimer(0, 1, 1);
        x.run(2);
        CHECK.due("raised by its timer on the stack", x.source(0, 4), 1);
        x.run(1 + 6);
        CHECK.due("latency since it was, over its last 2 ticks and a tail", x.source(0, 11), 2 + 6);
    }

    /** "one of the kind 1 since its line came up" */
    private static void sinceItsLineCameUp() {
        NestedBells x = Made.with(new int[] {3, 1, 3});
        x.run(2);
        x.setLine(0, true);
        x.run(2);
        x.setLine(0, true);
        x.run(10);
        CHECK.due("latency", x.source(0, 11), 12);
        NestedBells y = Made.with(new int[] {3, 1, 3});
        y.setLine(0, true);
        y.run(4);
        y.setLine(0, false);
        y.setLine(0, true);
        y.run(8);
        CHECK.due("since it came up anew, in the same entry", y.source(0, 11), 8);
        CHECK.due("spurious entries", y.account(6), 0);
    }

    /** "or since its handler went off the stack (at the time t + 1 of that tick) with the line up" */
    private static void sinceItWentOff() {
        NestedBells x = Made.with(new int[] {3, 1, 3});
        x.setLine(0, true);
        x.run(12 + 3 + 6);
        CHECK.due("latency with the line up all the time", x.source(0, 11), 6);
        x.run(2);
        x.setLine(0, false);
        x.setLine(0, true);
        x.run(1 + 6);
        CHECK.due("latency with the line up anew on the stack", x.source(0, 11), 6);
        x.setLine(0, false);
        x.run(3 + 4);
        x.setLine(0, true);
        x.run(2);
        CHECK.change(x, "a tail of a line that came up in the exit", 3, 0, 4);
        x.run(4);
        CHECK.due("latency with the line down when it went off", x.source(0, 11), 6);
        CHECK.due("sum of latencies", x.account(9), 12 + 6 + 6 + 6);
    }

    /** "its latency is this time minus the time since which its source is pending" */
    private static void leastLatency() {
        NestedBells x = Made.with(new int[] {3, 0, 1});
        CHECK.due("there was none", x.source(0, 11), -1);
        Made.costs(x, 0, 0, 0);
        x.raise(0);
        x.run(1);
        CHECK.due("the least", x.source(0, 11), 0);
        CHECK.due("the greatest so far", x.source(0, 12), 0);
        x.set(1, 1);
        x.raise(0);
        x.run(1);
        CHECK.due("of one tick", x.source(0, 11), 1);
        CHECK.due("the greatest so far", x.source(0, 12), 1);
        x.run(1);
        x.set(1, 0);
        x.raise(0);
        x.run(1);
        CHECK.due("the latest", x.source(0, 11), 0);
        CHECK.due("the greatest stays", x.source(0, 12), 1);
        CHECK.due("sum of latencies", x.account(9), 1);
    }

    private static void why(String when, NestedBells x, int source, int due) {
        CHECK.due("why it waits, " + when, x.source(source, 16), due);
    }

    /** "this is the first that applies: 1 it is not enabled" */
    private static void whyNotEnabled() {
        NestedBells x = Made.with(new int[] {3, 0, 9});
        x.setSource(0, 2, 0);
        why("not pending", x, 0, -1);
        x.raise(0);
        why("not enabled", x, 0, 1);
        x.set(0, 15);
        why("not enabled, and masked", x, 0, 1);
        x.setSource(0, 2, 1);
        why("masked alone", x, 0, 2);
    }

    /** "2 its priority is at most the mask" */
    private static void whyTheMask() {
        NestedBells x = Made.with(new int[] {3, 0, 9});
        x.raise(0);
        int[] due = {0, 0, 0, 2, 2};
        for (int mask = 0; mask < 5; mask++) {
            x.set(0, mask);
            why("mask " + mask, x, 0, due[mask]);
        }
    }

    /** "3 it is at most the ceiling of a section that is in force" */
    private static void whyACeiling() {
        NestedBells x = Made.with(new int[] {2, 0, 50}, new int[] {4, 0, 9}, new int[] {5, 0, 9}, new int[] {6, 0, 9});
        x.addSection(0, 0, 1, 5);
        x.raise(0);
        x.run(12);
        x.raise(1);
        why("below the ceiling", x, 1, 3);
        x.raise(2);
        why("at the ceiling", x, 2, 3);
        x.set(0, 4);
        why("at the mask as well", x, 1, 2);
        why("at the ceiling, above the mask", x, 2, 3);
        x.raise(3);
        why("above the ceiling", x, 3, 0);
        x.run(12);
        why("at the ceiling of a section below the top", x, 2, 3);
        why("at the mask", x, 1, 2);
    }

    /** "4 it is at most the priority of a source whose handler is on the stack" */
    private static void whyAPriority() {
        NestedBells x = Made.with(new int[] {5, 0, 50}, new int[] {4, 0, 9}, new int[] {5, 0, 9}, new int[] {6, 0, 9});
        x.addSection(0, 0, 1, 4);
        x.raise(0);
        x.run(12);
        x.raise(0);
        why("of its own handler", x, 0, 4);
        x.raise(1);
        why("at a ceiling as well", x, 1, 3);
        x.raise(2);
        why("at the priority", x, 2, 4);
        x.run(1);
        why("below the priority, the section is over", x, 1, 4);
        x.raise(3);
        why("above the priority", x, 3, 0);
    }

    /** "5 it is not the candidate" */
    private static void whyNotTheCandidate() {
        NestedBells x = Made.with(new int[] {5, 0, 9}, new int[] {5, 0, 9}, new int[] {4, 0, 9});
        x.raise(1);
        x.raise(2);
        why("a greater priority waits", x, 2, 5);
        why("the candidate", x, 1, 0);
        x.raise(0);
        why("a lower number waits", x, 1, 5);
        x.run(1);
        why("in a change too", x, 1, 5);
        why("in a change too", x, 2, 5);
    }

    /** "6 there is a change; 0 otherwise" */
    private static void whyAChange() {
        NestedBells x = Made.with(new int[] {5, 0, 2}, new int[] {6, 0, 2});
        x.raise(0);
        why("no change", x, 0, 0);
        x.run(1);
        why("its own entry", x, 0, 6);
        x.raise(1);
        why("the entry of another one", x, 1, 6);
        x.run(11 + 2);
        why("an exit", x, 0, 6);
        x.run(1);
        why("its own tail", x, 0, 6);
        x.run(5);
        why("on the stack, not pending", x, 0, -1);
    }
}
