/** Promises 17 to 20: the forecasts, which change nothing. */
public final class ForecastsTest {
    private static final Class<?> INDEX = IndexOutOfBoundsException.class;
    private static final Class<?> ARGUMENT = IllegalArgumentException.class;

    private static final Check CHECK = new Check();

    public static void main(String[] arguments) {
        entersAfter();
        idleAfter();
        latencyIf();
        latencyOfLines();
        blocking();
        arguments();
        CHECK.end();
    }

    private static void entersAfter() {
        NestedBells x = new NestedBells();
        x.addSource(4, 0, 20);
        x.addSource(6, 1, 3);
        CHECK.due("not pending", x.entersAfter(0, 1000), -1);
        x.raise(0);
        long before = x.digest();
        CHECK.due("entersAfter(0, 12)", x.entersAfter(0, 12), 12);
        CHECK.due("entersAfter(0, 11)", x.entersAfter(0, 11), -1);
        CHECK.due("entersAfter(0, 0)", x.entersAfter(0, 0), -1);
        CHECK.due("nothing is changed", x.digest(), before);
        x.run(12);
        CHECK.due("on the stack it must come once more", x.entersAfter(0, 1000), -1);
        x.raise(0);
        CHECK.due("once more, by a tail", x.entersAfter(0, 1000), 26);
        x.setLine(1, true);
        CHECK.due("a line on top", x.entersAfter(1, 1000), 12);
        CHECK.due("behind a line that stays up", x.entersAfter(0, 1000), -1);
        NestedBells y = new NestedBells();
        y.addSource(4, 0, 20);
        y.setTimer(0, 900, 1);
        y.set(1, 0);
        CHECK.due("by its timer, without a cost: in the tick itself", y.entersAfter(0, 1000), 901);
        CHECK.due("a tick too few", y.entersAfter(0, 900), -1);
        CHECK.due("the timer stays", y.source(0, 15), 900);
    }

    private static void idleAfter() {
        NestedBells x = new NestedBells();
        x.addSource(4, 0, 20);
        CHECK.due("idle", x.idleAfter(0), 0);
        CHECK.due("idle", x.idleAfter(1000), 0);
        x.raise(0);
        CHECK.due("pending, but there is no change yet", x.idleAfter(5), 0);
        x.run(1);
        long before = x.digest();
        CHECK.due("entry, handler and exit", x.idleAfter(1000), 41);
        CHECK.due("just enough", x.idleAfter(41), 41);
        CHECK.due("too few", x.idleAfter(40), -1);
        CHECK.due("none", x.idleAfter(0), -1);
        CHECK.due("nothing is changed", x.digest(), before);
        x.run(31);
        CHECK.due("in the exit", x.idleAfter(1000), 10);
        x.run(9);
        CHECK.due("in its last tick", x.idleAfter(1), 1);
        x.setTimer(0, 0, 1);
        CHECK.due("never", x.idleAfter(1000), -1);
    }

    private static void latencyIf() {
        NestedBells x = new NestedBells();
        x.addSource(4, 0, 20);
        x.addSource(6, 0, 30);
        long before = x.digest();
        CHECK.due("latencyIf(0, 12)", x.latencyIf(0, 12), 12);
        CHECK.due("latencyIf(0, 11)", x.latencyIf(0, 11), -1);
        CHECK.due("latencyIf(0, 0)", x.latencyIf(0, 0), -1);
        CHECK.due("nothing is changed", x.digest(), before);
        x.raise(1);
        x.run(5);
        CHECK.due("behind another one: 7, 30 and a tail of 6", x.latencyIf(0, 1000), 43);
        CHECK.due("pending already: since it is so", x.latencyIf(1, 1000), 12);
        CHECK.due("pending already: ticks from now", x.latencyIf(1, 7), 12);
        CHECK.due("pending already: too few ticks", x.latencyIf(1, 6), -1);
        x.run(10);
        CHECK.due("on the stack: of the next time", x.latencyIf(1, 1000), 33);
        CHECK.due("on the stack: behind its 27 ticks and the exit", x.idleAfter(1000), 37);
        x.raise(0);
        x.run(3);
        CHECK.due("pending for 3 ticks already: since it is so", x.latencyIf(0, 1000), 33);
        CHECK.due("pending for 3 ticks already: ticks from now", x.entersAfter(0, 1000), 30);
        x.setSource(0, 2, 0);
        CHECK.due("not enabled", x.latencyIf(0, 1000), -1);
        x.set(1, 0);
        NestedBells y = new NestedBells();
        y.addSource(4, 0, 20);
        y.set(1, 0);
        CHECK.due("at once", y.latencyIf(0, 1), 0);
        CHECK.due("without a tick", y.latencyIf(0, 0), -1);
    }

    private static void latencyOfLines() {
        NestedBells x = new NestedBells();
        x.addSource(4, 1, 20);
        long before = x.digest();
        CHECK.due("if its line came up", x.latencyIf(0, 1000), 12);
        CHECK.due("nothing is changed", x.digest(), before);
        x.setLine(0, true);
        x.run(4);
        CHECK.due("a line that is up stays as it is", x.latencyIf(0, 1000), 12);
        x.run(10);
        CHECK.due("on the stack with the line up", x.latencyIf(0, 1000), 6);
        x.setLine(0, false);
        CHECK.due("on the stack with the line down: since it went off", x.latencyIf(0, 1000), 6);
        x.run(20);
        CHECK.due("in the exit: by a tail", x.latencyIf(0, 1000), 6);
        CHECK.due("the line stays down", x.source(0, 5), 0);
    }

    private static void blocking() {
        NestedBells x = new NestedBells();
        x.addSource(4, 0, 20);
        x.addSource(8, 1, 30);
        x.addSource(6, 0, 100);
        CHECK.due("without sections", x.blocking(1), 0);
        x.addSection(0, 5, 10, 8);
        CHECK.due("a ceiling at its priority", x.blocking(1), 10);
        CHECK.due("a ceiling above its priority", x.blocking(2), 10);
        CHECK.due("none of a less urgent one", x.blocking(0), 0);
        x.addSection(0, 8, 500, 15);
        CHECK.due("only the ticks of the handler", x.blocking(1), 12);
        x.addSection(2, 100, 500, 15);
        CHECK.due("a section behind the handler", x.blocking(1), 12);
        x.addSection(2, 50, 25, 7);
        CHECK.due("a ceiling below its priority", x.blocking(1), 12);
        x.setSource(1, 0, 7);
        CHECK.due("with a lower priority", x.blocking(1), 25);
        x.setSource(1, 0, 6);
        CHECK.due("a section of one of its own priority", x.blocking(1), 12);
        x.addSection(1, 0, 30, 15);
        CHECK.due("its own section", x.blocking(1), 12);
        x.clearSections(0);
        x.addSection(0, 19, 1, 6);
        CHECK.due("the last tick of the handler", x.blocking(1), 1);
        x.clearSections(0);
        CHECK.due("only behind the handler", x.blocking(1), 0);
        x.addSection(0, 20, 1, 15);
        CHECK.due("just behind the handler", x.blocking(1), 0);
    }

    private static void arguments() {
        NestedBells x = new NestedBells();
        CHECK.refused("blocking(0)", x, INDEX, () -> x.blocking(0));
        x.addSource(4, 0, 20);
        CHECK.refused("blocking(1)", x, INDEX, () -> x.blocking(1));
        CHECK.refused("blocking(-1)", x, INDEX, () -> x.blocking(-1));
        CHECK.refused("idleAfter(-1)", x, ARGUMENT, () -> x.idleAfter(-1));
        CHECK.refused("idleAfter(1001)", x, ARGUMENT, () -> x.idleAfter(1001));
        for (int source : new int[] {-1, 1, Integer.MAX_VALUE}) {
            for (int most : new int[] {-1, 0, 1001}) {
                CHECK.refused("entersAfter", x, INDEX, () -> x.entersAfter(source, most));
                CHECK.refused("latencyIf", x, INDEX, () -> x.latencyIf(source, most));
            }
        }
        for (int most : new int[] {-1, 1001, Integer.MIN_VALUE}) {
            CHECK.refused("entersAfter", x, ARGUMENT, () -> x.entersAfter(0, most));
            CHECK.refused("latencyIf", x, ARGUMENT, () -> x.latencyIf(0, most));
        }
    }
}
