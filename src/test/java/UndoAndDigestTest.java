/** Promises 25 and 26: undo and digest. */
public final class UndoAndDigestTest {
    private static final Class<?> STATE = IllegalStateException.class;
    private static final Class<?> ARGUMENT = IllegalArgumentException.class;

    private static final Check CHECK = new Check();

    public static void main(String[] arguments) {
        everyCallIsUndone();
        stackAndLatenciesAreRestored();
        fourStates();
        refusedCallsSaveNothing();
        readsSaveNothing();
        textAndStopAreNotSaved();
        digest();
        CHECK.end();
    }

    private static NestedBells busy() {
        NestedBells x = new NestedBells();
        x.addSource(3, 0, 20);
        x.addSource(7, 1, 5);
        x.addSource(9, 0, 5);
        x.addSection(0, 3, 30, 8);
        x.addSection(2, 0, 3, 9);
        x.setTimer(0, 0, 17);
        x.setLine(1, true);
        x.run(33);
        return x;
    }

    /** The digest without the number of states that can be undone, which the call itself changes. */
    private static long stateOf(NestedBells x) {
        long h = 0;
        for (int what = 0; what < 12; what++) {
            h = 31 * h + x.processor(what);
        }
        for (int what = 0; what < 10; what++) {
            h = 31 * h + x.account(what);
        }
        for (int source = 0; source < x.processor(11); source++) {
            for (int what = 0; what < 17; what++) {
                h = 31 * h + x.source(source, what);
            }
            h = 31 * h + sectionsOf(x, source);
            h = 31 * h + 7 * x.blocking(source) + x.entersAfter(source, 100);
        }
        for (int place = 0; place < 12; place++) {
            h = 31 * h + x.stack(place);
        }
        for (int event = 0; event < 20; event++) {
            h = 31 * h + 5 * x.log(event, 0) + 7 * x.log(event, 1) + x.log(event, 2);
        }
        return h;
    }

    private static long sectionsOf(NestedBells x, int source) {
        long h = 0;
        try {
            for (int section = 0; section < 2; section++) {
                for (int what = 0; what < 4; what++) {
                    h = 31 * h + x.section(source, section, what);
                }
            }
        } catch (IndexOutOfBoundsException e) {
            return h;
        }
        return h;
    }

    private static void undone(String call, java.util.function.Consumer<NestedBells> made) {
        undone(call, 1, made);
    }

    private static void undone(String calls, int count, java.util.function.Consumer<NestedBells> made) {
        NestedBells x = busy();
        long before = stateOf(x);
        made.accept(x);
        for (int i = 1; i <= count; i++) {
            CHECK.due("undo() of " + calls, x.undo(), 4 - i);
        }
        CHECK.due("state behind undo() of " + calls, stateOf(x), before);
    }

    private static void everyCallIsUndone() {
        undone("addSource", x -> x.addSource(1, 0, 1));
        undone("setSource", x -> x.setSource(2, 0, 1));
        undone("setSource to what it is", x -> x.setSource(2, 0, 9));
        undone("addSection", x -> x.addSection(2, 2, 2, 15));
        undone("clearSections", x -> x.clearSections(2));
        undone("clearSections without one", x -> x.clearSections(1));
        undone("setTimer", x -> x.setTimer(0, 5, 5));
        undone("raise", x -> x.raise(2));
        undone("setLine", x -> x.setLine(1, false));
        undone("setLine to what it is", x -> x.setLine(1, true));
        undone("set", x -> x.set(3, 50));
        undone("run(1)", x -> x.run(1));
        undone("run(500)", x -> x.run(500));
        undone("runCommands without a command", x -> x.runCommands());
        undone("runCommands", x -> {
            for (char c : "run 100;set 0 9;".toCharArray()) {
                x.type(c);
            }
            x.runCommands();
        });
        undone("other sections", 2, x -> {
            x.clearSections(2);
            x.addSection(2, 7, 8, 4);
        });
        undone("other sections, costs and sources", 4, x -> {
            x.addSection(2, 7, 8, 4);
            x.addSource(5, 0, 9);
            x.set(2, 0);
            x.setSource(1, 2, 0);
        });
        undone("a long run with the line down", 4, x -> {
            x.setLine(1, false);
            x.run(500);
            x.raise(2);
            x.run(333);
        });
        undone("an edge that has waited", 4, x -> {
            x.set(0, 15);
            x.raise(2);
            x.run(100);
            x.set(0, 0);
        });
        undone("the handlers in another order", 4, x -> {
            x.setLine(1, false);
            x.run(77);
            x.raise(2);
            x.run(14);
        });
    }

    private static void stackAndLatenciesAreRestored() {
        NestedBells x = new NestedBells();
        x.addSource(5, 0, 3);
        x.addSource(6, 0, 4);
        x.run(2);
        x.raise(1);
        x.run(12);
        CHECK.due("stack(0)", x.stack(0), 1);
        x.raise(0);
        x.run(11);
        CHECK.due("stack(0) later", x.stack(0), 0);
        CHECK.due("undo()", x.undo(), 3);
        CHECK.due("stack(0) behind undo()", x.stack(0), 1);
        x.run(10);
        CHECK.due("latency behind undo()", x.source(0, 11), 10);
        CHECK.due("undo()", x.undo(), 3);
        CHECK.due("undo()", x.undo(), 2);
        CHECK.due("undo()", x.undo(), 1);
        CHECK.due("time", x.processor(0), 2);
        x.run(12);
        CHECK.due("latency since the raise that was not undone", x.source(1, 11), 12);
    }

    private static void fourStates() {
        NestedBells x = new NestedBells();
        CHECK.refused("undo() of nothing", x, STATE, () -> x.undo());
        for (int i = 1; i <= 9; i++) {
            x.run(i);
        }
        CHECK.due("undo()", x.undo(), 3);
        CHECK.due("time", x.processor(0), 36);
        CHECK.due("undo()", x.undo(), 2);
        CHECK.due("time", x.processor(0), 28);
        x.run(100);
        CHECK.due("undo()", x.undo(), 2);
        CHECK.due("time", x.processor(0), 28);
        CHECK.due("undo()", x.undo(), 1);
        CHECK.due("undo()", x.undo(), 0);
        CHECK.due("time", x.processor(0), 15);
        CHECK.refused("undo() of a state that was dropped", x, STATE, () -> x.undo());
        x.run(7);
        CHECK.due("undo()", x.undo(), 0);
        CHECK.due("time", x.processor(0), 15);
    }

    private static void refusedCallsSaveNothing() {
        NestedBells x = new NestedBells();
        x.run(3);
        CHECK.refused("run(0)", x, ARGUMENT, () -> x.run(0));
        CHECK.refused("set(0, 16)", x, ARGUMENT, () -> x.set(0, 16));
        CHECK.refused("addSource(0, 0, 0)", x, ARGUMENT, () -> x.addSource(0, 0, 0));
        CHECK.due("undo()", x.undo(), 0);
        CHECK.due("time", x.processor(0), 0);
        for (int i = 1; i <= 4; i++) {
            x.run(i);
        }
        CHECK.refused("run(501) with four states", x, ARGUMENT, () -> x.run(501));
        CHECK.due("undo()", x.undo() + x.undo() + x.undo() + x.undo(), 6);
        CHECK.due("time", x.processor(0), 0);
    }

    private static void readsSaveNothing() {
        NestedBells x = busy();
        x.undo();
        long before = x.digest();
        stateOf(x);
        x.latencyIf(2, 1000);
        x.idleAfter(1000);
        x.section(0, 0, 3);
        x.stop();
        CHECK.due("digest() behind reads", x.digest(), before);
        CHECK.due("undo()", x.undo(), 2);
    }

    private static void textAndStopAreNotSaved() {
        NestedBells x = new NestedBells();
        x.run(1);
        x.type('u');
        x.type('p');
        x.type(' ');
        x.type('0');
        x.type(';');
        CHECK.due("undo() of the run before", x.undo(), 0);
        CHECK.due("the text stays", x.runCommands(), 0);
        CHECK.due("stop()", x.stop(), 1);
        x.undo();
        CHECK.due("the stop stays", x.stop(), 1);
        CHECK.due("clearCommands()", x.clearCommands(), 5);
    }

    private static long hash(long... values) {
        long h = 43211;
        for (long v : values) {
            h = 31 * h + v;
        }
        return h;
    }

    private static void digest() {
        NestedBells x = new NestedBells();
        CHECK.due("digest() of a new object", x.digest(),
                hash(0, 0, 0, 0, 0, 12, 10, 6, 0, -1, 0, 0, -1, 0, 0, 0, 0, 0, 0, 0, 0, 0, 0, 0, 0));
        x.addSource(4, 0, 20);
        x.addSource(6, 1, 3);
        x.addSection(0, 5, 6, 7);
        x.raise(0);
        x.raise(0);
        x.run(13);
        x.type(65);
        CHECK.due("digest()", x.digest(), hash(4, 1, 0,
                13, 0, 12, 10, 6, 4, -1, 1, 0, -1, 0, 2,
                0, 1, 12, 0, 0, 0, 0, 1, 1, 12,
                4, 0, 20, 1, 0, 0, 0, 1, 1, 0, 1, 12, 12, 0, 1, -1, -1,
                5, 6, 7, 0,
                6, 1, 3, 1, 0, 0, -1, 0, 0, 0, 0, -1, -1, 0, 0, -1, -1,
                0,
                1, 0, 12, 3, 0, 0));
        x.setLine(1, true);
        x.run(12);
        x.clearCommands();
        for (char c : "up 0;".toCharArray()) {
            x.type(c);
        }
        CHECK.due("runCommands()", x.runCommands(), 0);
        CHECK.due("digest() with a stop and two handlers", x.digest(), hash(4, 5, 3,
                25, 0, 12, 10, 6, 6, -1, 2, 0, -1, 0, 2,
                0, 1, 24, 0, 0, 1, 0, 1, 2, 24,
                4, 0, 20, 1, 0, 0, 0, 1, 1, 0, 1, 12, 12, 1, 1, -1, -1,
                5, 6, 7, 0,
                6, 1, 3, 1, 0, 1, 1, 0, 1, 0, 0, 12, 12, 0, 0, -1, -1,
                0, 1,
                1, 1, 25, 6, 0, 13, 1, 0, 12, 3, 0, 0));
    }
}
