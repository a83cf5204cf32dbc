/** Promises 9 and 10: the settings, and what a tick does. */
public final class TicksTest {
    private static final Class<?> ARGUMENT = IllegalArgumentException.class;

    private static final Check CHECK = new Check();

    public static void main(String[] arguments) {
        set();
        runArguments();
        entryAndExit();
        noCosts();
        preemption();
        lateArrival();
        lessUrgentLateArrival();
        spuriousEntry();
        spuriousEntryWithoutExit();
        tail();
        tailWithoutCost();
        spuriousTail();
        sectionHoldsOff();
        sectionsOfHandlersBelow();
        equalPriorities();
        changedCostInAChange();
        lineThatComesUpOnTheStack();
        shortestExit();
        twelveSources();
        CHECK.end();
    }

    private static void set() {
        NestedBells x = new NestedBells();
        int[] at = {0, 12, 10, 6};
        int[] most = {15, 50, 50, 50};
        for (int what = 0; what < 4; what++) {
            int w = what;
            CHECK.due("set to the greatest", x.set(w, most[w]), at[w]);
            CHECK.due("set to 0", x.set(w, 0), most[w]);
            CHECK.due("set back", x.set(w, at[w]), 0);
            CHECK.due("processor", x.processor(1 + w), at[w]);
            CHECK.refused("set too great", x, ARGUMENT, () -> x.set(w, most[w] + 1));
            CHECK.refused("set negative", x, ARGUMENT, () -> x.set(w, -1));
        }
        CHECK.refused("set(-1, 0)", x, ARGUMENT, () -> x.set(-1, 0));
        CHECK.refused("set(4, 0)", x, ARGUMENT, () -> x.set(4, 0));
    }

    private static void runArguments() {
        NestedBells x = new NestedBells();
        CHECK.due("run(500)", x.run(500), 0);
        CHECK.due("run(1)", x.run(1), 0);
        CHECK.due("time", x.processor(0), 501);
        CHECK.due("ticks of the main program", x.account(0), 501);
        CHECK.refused("run(0)", x, ARGUMENT, () -> x.run(0));
        CHECK.refused("run(501)", x, ARGUMENT, () -> x.run(501));
        CHECK.refused("run(-1)", x, ARGUMENT, () -> x.run(-1));
        CHECK.refused("run(least int)", x, ARGUMENT, () -> x.run(Integer.MIN_VALUE));
    }

    private static void entryAndExit() {
        NestedBells x = new NestedBells();
        x.addSource(5, 0, 3);
        x.raise(0);
        x.run(1);
        CHECK.change(x, "in the entry", 1, 0, 11);
        x.run(10);
        CHECK.change(x, "before its last tick", 1, 0, 1);
        CHECK.due("stack before", x.stack(0), -1);
        x.run(1);
        CHECK.change(x, "behind the entry", 0, -1, 0);
        CHECK.due("stack behind", x.stack(0), 0);
        CHECK.event(x, 0, 1, 0, 12);
        CHECK.due("ticks run at first", x.source(0, 7), 0);
        CHECK.due("run(2)", x.run(2), 0);
        CHECK.due("ticks run", x.source(0, 7), 2);
        CHECK.due("run(1) to its end", x.run(1), 1);
        CHECK.event(x, 0, 2, 0, 15);
        CHECK.change(x, "in the exit", 2, -1, 10);
        x.run(9);
        CHECK.change(x, "before the last tick of the exit", 2, -1, 1);
        x.run(1);
        CHECK.change(x, "behind the exit", 0, -1, 0);
        CHECK.due("ticks of the main program", x.account(0), 0);
        x.run(2);
        int[] accounts = {2, 3, 22, 0, 0, 0, 0, 0, 1, 12};
        for (int what = 0; what < 10; what++) {
            CHECK.due("account(" + what + ")", x.account(what), accounts[what]);
        }
        CHECK.event(x, 2, -1, -1, -1);
    }

    private static void noCosts() {
        NestedBells x = new NestedBells();
        x.addSource(5, 0, 1);
        x.set(1, 0);
        x.set(2, 0);
        x.raise(0);
        CHECK.due("entered, run and left in one tick", x.run(1), 1);
        CHECK.change(x, "behind it", 0, -1, 0);
        CHECK.event(x, 1, 1, 0, 0);
        CHECK.event(x, 0, 2, 0, 1);
        CHECK.due("latency", x.source(0, 11), 0);
        CHECK.due("ticks of handlers", x.account(1), 1);
        CHECK.due("ticks of changes", x.account(2), 0);
        x.setTimer(0, 0, 1);
        CHECK.due("a handler each tick", x.run(7), 7);
    }

    private static void preemption() {
        NestedBells x = new NestedBells();
        x.addSource(3, 0, 20);
        x.addSource(7, 0, 4);
        x.raise(0);
        x.run(17);
        x.raise(1);
        x.run(1);
        CHECK.change(x, "in the entry on top", 1, 1, 11);
        CHECK.event(x, 0, 6, 0, 17);
        CHECK.due("preempted", x.source(0, 13), 1);
        CHECK.due("preemptions", x.account(5), 1);
        CHECK.due("level", x.processor(5), 3);
        x.run(11);
        CHECK.due("stack(0)", x.stack(0), 0);
        CHECK.due("stack(1)", x.stack(1), 1);
        CHECK.due("stack(2)", x.stack(2), -1);
        CHECK.due("level with both", x.processor(5), 7);
        CHECK.due("greatest number of handlers", x.account(8), 2);
        CHECK.due("ticks run by the lower one", x.source(0, 7), 5);
        x.raise(0);
        CHECK.due("run(4)", x.run(4), 1);
        CHECK.change(x, "in the exit of the upper one", 2, -1, 10);
        x.run(11);
        CHECK.due("ticks run by the lower one, which goes on", x.source(0, 7), 6);
        CHECK.due("no more preemptions", x.account(5), 1);
        CHECK.due("run to its end", x.run(14), 1);
        x.run(1);
        CHECK.change(x, "its own tail", 3, 0, 5);
        x.run(5);
        CHECK.due("latency since it was raised on the stack", x.source(0, 11), 35);
    }

    private static void lateArrival() {
        NestedBells x = new NestedBells();
        x.addSource(3, 0, 2);
        x.addSource(7, 0, 4);
        x.raise(0);
        x.run(9);
        x.raise(1);
        x.run(1);
        CHECK.change(x, "taken over", 1, 1, 2);
        CHECK.event(x, 0, 4, 1, 9);
        CHECK.due("late arrivals", x.account(3), 1);
        x.run(2);
        CHECK.due("stack(0)", x.stack(0), 1);
        CHECK.due("latency of the late one", x.source(1, 11), 3);
        CHECK.due("the other one still waits", x.source(0, 16), 4);
        CHECK.due("no preemption", x.account(5), 0);
        x.run(4);
        x.run(1);
        CHECK.change(x, "the tail to the other one", 3, 0, 5);
        x.run(5);
        CHECK.due("latency of the other one", x.source(0, 11), 22);
        CHECK.due("sum of latencies", x.account(9), 25);
    }

    private static void lessUrgentLateArrival() {
        NestedBells x = new NestedBells();
        x.addSource(7, 1, 4);
        x.addSource(3, 0, 2);
        x.setLine(0, true);
        x.raise(1);
        x.run(3);
        CHECK.change(x, "the more urgent one first", 1, 0, 9);
        x.setLine(0, false);
        x.run(1);
        CHECK.change(x, "the less urgent one instead", 1, 1, 8);
        CHECK.event(x, 0, 4, 1, 3);
        CHECK.due("late arrivals", x.account(3), 1);
    }

    private static void spuriousEntry() {
        NestedBells x = new NestedBells();
        x.addSource(7, 1, 4);
        x.setLine(0, true);
        x.run(11);
        x.setLine(0, false);
        CHECK.change(x, "before the last tick", 1, 0, 1);
        CHECK.due("run(1)", x.run(1), 0);
        CHECK.change(x, "an exit instead", 2, -1, 9);
        CHECK.event(x, 0, 7, 0, 11);
        CHECK.due("spurious entries", x.account(6), 1);
        CHECK.due("handlers that came on top", x.source(0, 8), 0);
        CHECK.due("latency", x.source(0, 11), -1);
        x.setLine(0, true);
        x.run(1);
        CHECK.change(x, "the exit becomes a tail", 3, 0, 5);
    }

    private static void spuriousEntryWithoutExit() {
        NestedBells x = new NestedBells();
        x.addSource(7, 0, 4);
        x.set(2, 0);
        x.raise(0);
        x.run(2);
        x.set(0, 7);
        x.run(1);
        CHECK.change(x, "no exit", 0, -1, 0);
        CHECK.due("the tick is the main program's", x.account(0), 1);
        CHECK.due("spurious entries", x.account(6), 1);
        CHECK.due("still pending", x.source(0, 16), 2);
    }

    private static void tail() {
        NestedBells x = new NestedBells();
        x.addSource(3, 0, 2);
        x.addSource(3, 0, 5);
        x.raise(0);
        x.raise(1);
        CHECK.due("run(14)", x.run(14), 1);
        CHECK.change(x, "in the exit", 2, -1, 10);
        CHECK.due("tails before", x.account(4), 0);
        x.run(1);
        CHECK.change(x, "in the tail", 3, 1, 5);
        CHECK.event(x, 0, 5, 1, 14);
        CHECK.due("tails", x.account(4), 1);
        x.run(5);
        CHECK.event(x, 0, 1, 1, 20);
        CHECK.due("latency", x.source(1, 11), 20);
        x.run(8);
        CHECK.change(x, "in the next exit", 2, -1, 7);
        x.raise(0);
        x.run(1);
        CHECK.change(x, "a tail in the middle of an exit", 3, 0, 5);
        CHECK.event(x, 0, 5, 0, 28);
    }

    private static void tailWithoutCost() {
        NestedBells x = new NestedBells();
        x.addSource(3, 0, 2);
        x.addSource(3, 0, 5);
        x.set(3, 0);
        x.raise(0);
        x.raise(1);
        x.run(14);
        x.run(1);
        CHECK.due("on the stack at once", x.stack(0), 1);
        CHECK.due("a tick of it is run", x.source(1, 7), 1);
        CHECK.event(x, 0, 1, 1, 14);
        CHECK.event(x, 1, 5, 1, 14);
    }

    private static void spuriousTail() {
        NestedBells x = new NestedBells();
        x.addSource(3, 0, 2);
        x.addSource(3, 0, 5);
        x.raise(0);
        x.raise(1);
        x.run(16);
        CHECK.change(x, "in the tail", 3, 1, 4);
        x.setSource(1, 2, 0);
        x.run(1);
        CHECK.change(x, "in an exit again", 2, -1, 9);
        CHECK.event(x, 0, 7, 1, 16);
    }

    private static void sectionHoldsOff() {
        NestedBells x = new NestedBells();
        x.addSource(3, 0, 20);
        x.addSource(7, 0, 4);
        x.addSource(8, 0, 4);
        x.addSection(0, 2, 3, 7);
        x.raise(0);
        x.run(13);
        CHECK.due("not in force before its first tick", x.section(0, 0, 3), 0);
        CHECK.due("level before", x.processor(5), 3);
        x.run(1);
        CHECK.due("in force", x.section(0, 0, 3), 1);
        CHECK.due("level", x.processor(5), 7);
        x.raise(1);
        CHECK.due("why it waits", x.source(1, 16), 3);
        CHECK.due("no candidate", x.processor(6), -1);
        x.run(2);
        CHECK.due("in force in its last tick", x.section(0, 0, 3), 1);
        x.run(1);
        CHECK.due("not in force behind it", x.section(0, 0, 3), 0);
        CHECK.due("ticks run in the section", x.source(0, 7), 5);
        CHECK.due("candidate", x.processor(6), 1);
        x.run(1);
        CHECK.change(x, "entry behind the section", 1, 1, 11);
        NestedBells y = new NestedBells();
        y.addSource(3, 0, 20);
        y.addSource(8, 0, 4);
        y.addSection(0, 0, 20, 7);
        y.raise(0);
        y.run(13);
        y.raise(1);
        y.run(1);
        CHECK.change(y, "above the ceiling", 1, 1, 11);
    }

    private static void sectionsOfHandlersBelow() {
        NestedBells x = new NestedBells();
        x.addSource(3, 0, 20);
        x.addSource(7, 0, 4);
        x.addSource(9, 0, 4);
        x.addSection(0, 0, 20, 5);
        x.addSection(0, 1, 2, 10);
        x.set(1, 0);
        x.raise(0);
        x.raise(1);
        x.run(1);
        CHECK.due("the more urgent one alone", x.processor(7), 1);
        x.run(3);
        x.run(1);
        CHECK.due("in the tail", x.processor(8), 3);
        x.run(5);
        CHECK.due("the section in force from the start", x.processor(5), 5);
        x.raise(1);
        x.run(1);
        CHECK.due("nested", x.processor(7), 2);
        CHECK.due("level of the one on top", x.processor(5), 7);
        x.run(3);
        x.run(11);
        CHECK.due("the greater ceiling of the two", x.processor(5), 10);
        x.raise(2);
        CHECK.due("why it waits", x.source(2, 16), 3);
    }

    private static void equalPriorities() {
        NestedBells x = new NestedBells();
        x.addSource(4, 0, 2);
        x.addSource(6, 0, 2);
        x.addSource(6, 0, 2);
        x.raise(2);
        x.run(1);
        x.raise(1);
        x.raise(0);
        CHECK.due("the lowest number of the most urgent", x.processor(6), 1);
        x.run(1);
        CHECK.change(x, "a late arrival of the lower number", 1, 1, 10);
        x.run(10);
        x.run(2);
        x.run(1);
        CHECK.change(x, "then the other one of the priority", 3, 2, 5);
    }

    private static void changedCostInAChange() {
        NestedBells x = new NestedBells();
        x.addSource(4, 0, 1);
        x.raise(0);
        x.run(1);
        CHECK.due("set(1, 50)", x.set(1, 50), 12);
        CHECK.due("set(2, 0)", x.set(2, 0), 10);
        CHECK.change(x, "ticks that are left stay", 1, 0, 11);
        x.run(11);
        CHECK.due("on the stack", x.stack(0), 0);
        CHECK.due("run(1)", x.run(1), 1);
        CHECK.change(x, "no exit", 0, -1, 0);
    }

    private static void shortestExit() {
        NestedBells x = new NestedBells();
        x.addSource(4, 0, 1);
        x.set(2, 1);
        x.raise(0);
        x.run(13);
        CHECK.change(x, "an exit of one tick", 2, -1, 1);
        x.run(1);
        CHECK.change(x, "behind it", 0, -1, 0);
        CHECK.due("ticks of changes", x.account(2), 13);
    }

    private static void twelveSources() {
        NestedBells x = new NestedBells();
        for (int i = 0; i < 12; i++) {
            x.addSource(i + 1, 0, 20);
            x.addSection(i, 0, 20, i + 1);
            x.setTimer(i, 4 * i, 1000);
        }
        x.set(1, 0);
        x.run(48);
        CHECK.due("all on the stack", x.processor(7), 12);
        CHECK.due("level", x.processor(5), 12);
        for (int i = 0; i < 12; i++) {
            CHECK.due("stack(" + i + ")", x.stack(i), i);
            CHECK.due("preempted " + i, x.source(i, 13), i == 11 ? 0 : 1);
        }
        CHECK.due("stack(12)", x.stack(12), -1);
        CHECK.due("greatest number of handlers", x.account(8), 12);
        CHECK.due("blocking(11)", x.blocking(11), 0);
        x.raise(0);
        CHECK.due("all the others, and the lowest one twice", x.run(500), 13);
        CHECK.due("latency of the one below them all: 192 ticks, 11 exits, a tail", x.source(0, 11), 192 + 110 + 6);
    }

    private static void lineThatComesUpOnTheStack() {
        NestedBells x = new NestedBells();
        x.addSource(4, 1, 5);
        x.setLine(0, true);
        x.run(13);
        x.setLine(0, false);
        x.run(1);
        x.setLine(0, true);
        CHECK.due("not pending on the stack", x.source(0, 16), -1);
        x.run(3);
        CHECK.event(x, 0, 2, 0, 17);
        x.run(6);
        CHECK.due("latency since it went off", x.source(0, 11), 6);
        CHECK.due("greatest latency", x.source(0, 12), 12);
        x.setLine(0, false);
        x.run(5);
        CHECK.due("off with the line down", x.source(0, 4), 0);
        x.run(3);
        x.setLine(0, true);
        x.run(6);
        CHECK.due("latency since the line came up", x.source(0, 11), 6);
    }
}
