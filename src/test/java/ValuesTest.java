/** Promises 11 to 16: the values of sources, sections, the stack, the processor, the accounts and the log. */
public final class ValuesTest {
    private static final Class<?> INDEX = IndexOutOfBoundsException.class;
    private static final Class<?> ARGUMENT = IllegalArgumentException.class;

    private static final Check CHECK = new Check();

    public static void main(String[] arguments) {
        sourceValues();
        sourceArguments();
        whyASourceWaits();
        section();
        stack();
        processor();
        account();
        logRuns();
        logArguments();
        CHECK.end();
    }

    private static void sourceValues() {
        NestedBells x = new NestedBells();
        x.addSource(3, 0, 20);
        x.addSource(7, 1, 4);
        x.setTimer(0, 0, 30);
        x.run(14);
        x.setLine(1, true);
        x.run(14);
        x.raise(0);
        x.raise(0);
        int[] lower = {3, 0, 20, 1, 1, 0, 0, 2, 1, 0, 1, 12, 12, 1, 2, 2, 4};
        int[] upper = {7, 1, 4, 1, 0, 1, 1, 2, 1, 0, 0, 12, 12, 0, 2, -1, -1};
        for (int what = 0; what < 17; what++) {
            CHECK.due("source(0, " + what + ")", x.source(0, what), lower[what]);
            CHECK.due("source(1, " + what + ")", x.source(1, what), upper[what]);
        }
        x.run(2);
        x.run(6);
        x.setLine(1, false);
        CHECK.due("latest latency", x.source(1, 11), 6);
        CHECK.due("greatest latency", x.source(1, 12), 12);
        x.run(30);
        int[] done = {7, 1, 4, 1, 0, 0, -1, 0, 2, 2, 0, 6, 12, 0, 8, -1, -1};
        for (int what = 0; what < 17; what++) {
            CHECK.due("source(1, " + what + ") at the end", x.source(1, what), done[what]);
        }
    }

    private static void sourceArguments() {
        NestedBells x = new NestedBells();
        CHECK.refused("source(0, 0) without sources", x, INDEX, () -> x.source(0, 0));
        x.addSource(3, 0, 20);
        CHECK.refused("source(1, 0)", x, INDEX, () -> x.source(1, 0));
        CHECK.refused("source(-1, 0)", x, INDEX, () -> x.source(-1, 0));
        CHECK.refused("source(12, 17)", x, INDEX, () -> x.source(12, 17));
        CHECK.refused("source(0, 17)", x, ARGUMENT, () -> x.source(0, 17));
        CHECK.refused("source(0, -1)", x, ARGUMENT, () -> x.source(0, -1));
        CHECK.refused("source(greatest int, 0)", x, INDEX, () -> x.source(Integer.MAX_VALUE, 0));
    }

    private static void whyASourceWaits() {
        NestedBells x = new NestedBells();
        x.addSource(4, 0, 20);
        x.addSource(6, 0, 20);
        x.addSource(6, 0, 20);
        CHECK.due("not pending", x.source(0, 16), -1);
        x.raise(0);
        CHECK.due("0: nothing", x.source(0, 16), 0);
        x.raise(1);
        CHECK.due("5: less urgent than the candidate", x.source(0, 16), 5);
        x.raise(2);
        CHECK.due("5: behind one of its priority", x.source(2, 16), 5);
        CHECK.due("0: the candidate", x.source(1, 16), 0);
        x.set(0, 6);
        CHECK.due("2: at the mask", x.source(1, 16), 2);
        CHECK.due("2: below the mask", x.source(0, 16), 2);
        x.setSource(1, 2, 0);
        CHECK.due("1: not enabled, before the mask", x.source(1, 16), 1);
        x.set(0, 0);
        CHECK.due("1: not enabled", x.source(1, 16), 1);
        CHECK.due("0: the candidate now", x.source(2, 16), 0);
        x.run(1);
        CHECK.due("6: there is a change to it", x.source(2, 16), 6);
        CHECK.due("5: before the change", x.source(0, 16), 5);
        x.addSection(2, 0, 500, 4);
        x.run(11);
        CHECK.due("3: at a ceiling, before the stack", x.source(0, 16), 3);
        CHECK.due("1: still not enabled", x.source(1, 16), 1);
        x.setSource(1, 2, 1);
        CHECK.due("4: at a priority on the stack", x.source(1, 16), 4);
        x.set(0, 5);
        CHECK.due("2: the mask, before a ceiling", x.source(0, 16), 2);
        x.set(0, 0);
        x.run(20);
        CHECK.due("6: there is an exit", x.source(1, 16), 6);
        CHECK.due("5: in an exit", x.source(0, 16), 5);
    }

    private static void section() {
        NestedBells x = new NestedBells();
        x.addSource(4, 0, 20);
        CHECK.refused("section(0, 0, 0) without one", x, INDEX, () -> x.section(0, 0, 0));
        x.addSection(0, 0, 2, 9);
        CHECK.refused("section(0, 1, 0)", x, INDEX, () -> x.section(0, 1, 0));
        CHECK.refused("section(0, -1, 0)", x, INDEX, () -> x.section(0, -1, 0));
        CHECK.refused("section(1, 0, 0)", x, INDEX, () -> x.section(1, 0, 0));
        CHECK.refused("section(-1, 0, 4)", x, INDEX, () -> x.section(-1, 0, 4));
        CHECK.refused("section(0, 0, 4)", x, ARGUMENT, () -> x.section(0, 0, 4));
        CHECK.refused("section(0, 0, -1)", x, ARGUMENT, () -> x.section(0, 0, -1));
        x.addSection(0, 2, 1, 8);
        CHECK.refused("section(0, 2, 0)", x, INDEX, () -> x.section(0, 2, 0));
        CHECK.due("not in force off the stack", x.section(0, 0, 3), 0);
        x.raise(0);
        x.run(12);
        CHECK.due("in force on the stack", x.section(0, 0, 3), 1);
        x.run(1);
        CHECK.due("still", x.section(0, 0, 3), 1);
        CHECK.due("the other one not yet", x.section(0, 1, 3), 0);
        x.run(1);
        CHECK.due("no longer", x.section(0, 0, 3), 0);
        CHECK.due("the other one now", x.section(0, 1, 3), 1);
        CHECK.due("first tick", x.section(0, 1, 0), 2);
        CHECK.due("length", x.section(0, 1, 1), 1);
        CHECK.due("ceiling", x.section(0, 1, 2), 8);
        x.run(18);
        CHECK.due("not in force off the stack again", x.section(0, 0, 3), 0);
    }

    private static void stack() {
        NestedBells x = new NestedBells();
        x.addSource(4, 0, 20);
        CHECK.refused("stack(-1)", x, ARGUMENT, () -> x.stack(-1));
        CHECK.refused("stack(least int)", x, ARGUMENT, () -> x.stack(Integer.MIN_VALUE));
        CHECK.due("stack(greatest int)", x.stack(Integer.MAX_VALUE), -1);
        x.raise(0);
        x.run(12);
        CHECK.due("stack(0)", x.stack(0), 0);
        CHECK.due("stack(1)", x.stack(1), -1);
        x.run(20);
        CHECK.due("stack(0) of the empty one", x.stack(0), -1);
    }

    private static void processor() {
        NestedBells x = new NestedBells();
        x.addSource(4, 0, 20);
        x.addSource(6, 1, 20);
        x.set(0, 2);
        x.set(1, 20);
        x.set(2, 30);
        x.set(3, 40);
        x.raise(0);
        x.run(22);
        x.setLine(1, true);
        x.run(3);
        int[] values = {25, 2, 20, 30, 40, 4, 1, 1, 1, 1, 17, 2};
        for (int what = 0; what < 12; what++) {
            CHECK.due("processor(" + what + ")", x.processor(what), values[what]);
        }
        x.set(0, 9);
        CHECK.due("level of the mask", x.processor(5), 9);
        CHECK.due("no candidate above it", x.processor(6), -1);
        CHECK.refused("processor(-1)", x, ARGUMENT, () -> x.processor(-1));
        CHECK.refused("processor(12)", x, ARGUMENT, () -> x.processor(12));
    }

    private static void account() {
        NestedBells x = new NestedBells();
        CHECK.refused("account(-1)", x, ARGUMENT, () -> x.account(-1));
        CHECK.refused("account(10)", x, ARGUMENT, () -> x.account(10));
        x.addSource(4, 0, 6);
        x.addSource(6, 0, 4);
        x.addSource(8, 1, 5);
        x.run(3);
        x.raise(0);
        x.raise(0);
        x.run(2);
        x.raise(1);
        x.run(10);
        x.setLine(2, true);
        x.run(2);
        x.setLine(2, false);
        x.run(40);
        int[] values = {7, 10, 40, 1, 1, 1, 1, 1, 1, 44};
        for (int what = 0; what < 10; what++) {
            CHECK.due("account(" + what + ")", x.account(what), values[what]);
        }
    }

    private static void logRuns() {
        NestedBells x = new NestedBells();
        x.addSource(4, 0, 1);
        x.set(0, 15);
        x.raise(0);
        for (int i = 0; i < 25; i++) {
            x.raise(0);
            CHECK.due("time of the latest event", x.log(0, 2), i);
            CHECK.due("time of the first event, or of the 20th", x.log(Math.min(i, 19), 2), Math.max(0, i - 19));
            CHECK.due("no event before it", x.log(Math.min(i, 19) + 1, 2), -1);
            x.run(1);
        }
    }

    private static void logArguments() {
        NestedBells x = new NestedBells();
        CHECK.refused("log(-1, 0)", x, ARGUMENT, () -> x.log(-1, 0));
        CHECK.refused("log(0, -1)", x, ARGUMENT, () -> x.log(0, -1));
        CHECK.refused("log(0, 3)", x, ARGUMENT, () -> x.log(0, 3));
        CHECK.due("log(greatest int, 2)", x.log(Integer.MAX_VALUE, 2), -1);
        CHECK.due("log(20, 2)", x.log(20, 2), -1);
    }
}
