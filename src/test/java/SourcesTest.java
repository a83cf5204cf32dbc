/** Promises 1 to 8: a new object, and the calls that make and change sources. */
public final class SourcesTest {
    private static final Class<?> INDEX = IndexOutOfBoundsException.class;
    private static final Class<?> ARGUMENT = IllegalArgumentException.class;
    private static final Class<?> STATE = IllegalStateException.class;

    private static final Check CHECK = new Check();

    public static void main(String[] arguments) {
        newObject();
        addSource();
        setSource();
        setSourceInUse();
        addSection();
        clearSections();
        setTimer();
        timerRings();
        raise();
        setLine();
        CHECK.end();
    }

    private static void newObject() {
        NestedBells x = new NestedBells();
        int[] processor = {0, 0, 12, 10, 6, 0, -1, 0, 0, -1, 0, 0};
        for (int what = 0; what < processor.length; what++) {
            CHECK.due("new: processor(" + what + ")", x.processor(what), processor[what]);
        }
        for (int what = 0; what < 10; what++) {
            CHECK.due("new: account(" + what + ")", x.account(what), 0);
        }
        CHECK.due("new: log(0, 0)", x.log(0, 0), NestedBells.NONE);
        CHECK.due("new: stack(0)", x.stack(0), NestedBells.NONE);
        CHECK.due("new: stop()", x.stop(), 0);
        CHECK.due("new: clearCommands()", x.clearCommands(), 0);
        CHECK.refused("new: undo()", x, STATE, () -> x.undo());
    }

    private static void addSource() {
        NestedBells x = new NestedBells();
        CHECK.due("addSource(1, 0, 1)", x.addSource(1, 0, 1), 0);
        CHECK.due("addSource(15, 1, 500)", x.addSource(15, 1, 500), 1);
        int[][] bad = {{0, 0, 1}, {16, 0, 1}, {1, -1, 1}, {1, 2, 1}, {1, 0, 0}, {1, 0, 501}, {-1, 9, -5},
            {Integer.MIN_VALUE, 0, 1}, {1, 0, Integer.MAX_VALUE}};
        for (int[] b : bad) {
            CHECK.refused("addSource", x, ARGUMENT, () -> x.addSource(b[0], b[1], b[2]));
        }
        int[] edge = {1, 0, 1, 1, 0, 0, -1, 0, 0, 0, 0, -1, -1, 0, 0, -1, -1};
        int[] line = {15, 1, 500, 1, 0, 0, -1, 0, 0, 0, 0, -1, -1, 0, 0, -1, -1};
        for (int what = 0; what < 17; what++) {
            CHECK.due("source(0, " + what + ")", x.source(0, what), edge[what]);
            CHECK.due("source(1, " + what + ")", x.source(1, what), line[what]);
        }
        for (int i = 2; i < 12; i++) {
            CHECK.due("addSource, number " + i, x.addSource(i, i % 2, i), i);
        }
        CHECK.due("processor(11)", x.processor(11), 12);
        CHECK.refused("a source too many", x, STATE, () -> x.addSource(1, 0, 1));
        CHECK.refused("a source too many, out of range", x, ARGUMENT, () -> x.addSource(1, 0, 501));
    }

    private static void setSource() {
        NestedBells x = new NestedBells();
        x.addSource(3, 0, 20);
        CHECK.due("setSource(0, 0, 15)", x.setSource(0, 0, 15), 3);
        CHECK.due("setSource(0, 0, 1)", x.setSource(0, 0, 1), 15);
        CHECK.due("setSource(0, 1, 500)", x.setSource(0, 1, 500), 20);
        CHECK.due("setSource(0, 1, 1)", x.setSource(0, 1, 1), 500);
        CHECK.due("setSource(0, 2, 0)", x.setSource(0, 2, 0), 1);
        CHECK.due("setSource(0, 2, 0) again", x.setSource(0, 2, 0), 0);
        CHECK.due("not enabled", x.source(0, 3), 0);
        CHECK.due("setSource(0, 2, 1)", x.setSource(0, 2, 1), 0);
        CHECK.due("priority", x.source(0, 0), 1);
        CHECK.due("length", x.source(0, 2), 1);
        CHECK.due("enabled", x.source(0, 3), 1);
        int[][] bad = {{0, 0}, {0, 16}, {1, 0}, {1, 501}, {2, -1}, {2, 2}, {3, 1}, {-1, 1}};
        for (int[] b : bad) {
            CHECK.refused("setSource(0, ..)", x, ARGUMENT, () -> x.setSource(0, b[0], b[1]));
            CHECK.refused("setSource(1, ..)", x, INDEX, () -> x.setSource(1, b[0], b[1]));
            CHECK.refused("setSource(-1, ..)", x, INDEX, () -> x.setSource(-1, b[0], b[1]));
        }
    }

    private static void setSourceInUse() {
        NestedBells x = new NestedBells();
        x.addSource(3, 0, 20);
        x.raise(0);
        CHECK.due("setSource of a pending source", x.setSource(0, 0, 4), 3);
        x.run(1);
        CHECK.refused("priority in an entry", x, STATE, () -> x.setSource(0, 0, 5));
        CHECK.refused("length in an entry", x, STATE, () -> x.setSource(0, 1, 5));
        CHECK.refused("priority out of range in an entry", x, ARGUMENT, () -> x.setSource(0, 0, 16));
        CHECK.due("enabled in an entry", x.setSource(0, 2, 1), 1);
        x.run(12);
        CHECK.due("stack(0)", x.stack(0), 0);
        CHECK.refused("priority on the stack", x, STATE, () -> x.setSource(0, 0, 5));
        CHECK.refused("length on the stack", x, STATE, () -> x.setSource(0, 1, 5));
        CHECK.due("enabled on the stack", x.setSource(0, 2, 0), 1);
        x.run(19);
        CHECK.due("in the exit", x.processor(8), 2);
        CHECK.due("priority in the exit", x.setSource(0, 0, 5), 4);
    }

    private static void addSection() {
        NestedBells x = new NestedBells();
        x.addSource(3, 0, 20);
        int[][] bad = {{-1, 1, 1}, {500, 1, 1}, {0, 0, 1}, {0, 501, 1}, {0, 1, 0}, {0, 1, 16}};
        for (int[] b : bad) {
            CHECK.refused("addSection(0, ..)", x, ARGUMENT, () -> x.addSection(0, b[0], b[1], b[2]));
            CHECK.refused("addSection(1, ..)", x, INDEX, () -> x.addSection(1, b[0], b[1], b[2]));
        }
        CHECK.due("addSection(0, 499, 500, 15)", x.addSection(0, 499, 500, 15), 1);
        x.raise(0);
        x.run(1);
        CHECK.due("source in the entry", x.processor(9), 0);
        CHECK.due("addSection in an entry", x.addSection(0, 0, 1, 1), 2);
        CHECK.refused("a section too many", x, STATE, () -> x.addSection(0, 0, 1, 1));
        CHECK.refused("a section too many, out of range", x, ARGUMENT, () -> x.addSection(0, 0, 1, 16));
        int[] first = {499, 500, 15, 0};
        int[] second = {0, 1, 1, 0};
        for (int what = 0; what < 4; what++) {
            CHECK.due("section(0, 0, " + what + ")", x.section(0, 0, what), first[what]);
            CHECK.due("section(0, 1, " + what + ")", x.section(0, 1, what), second[what]);
        }
        NestedBells y = new NestedBells();
        y.addSource(3, 0, 20);
        y.raise(0);
        y.run(12);
        CHECK.refused("addSection on the stack", y, STATE, () -> y.addSection(0, 0, 1, 1));
        CHECK.refused("addSection on the stack, out of range", y, ARGUMENT, () -> y.addSection(0, 0, 0, 1));
    }

    private static void clearSections() {
        NestedBells x = new NestedBells();
        x.addSource(3, 0, 20);
        CHECK.due("clearSections without one", x.clearSections(0), 0);
        x.addSection(0, 0, 1, 1);
        x.addSection(0, 2, 3, 4);
        x.raise(0);
        x.run(1);
        CHECK.due("clearSections in an entry", x.clearSections(0), 2);
        CHECK.refused("section(0, 0, 0)", x, INDEX, () -> x.section(0, 0, 0));
        CHECK.due("addSection behind it", x.addSection(0, 5, 6, 7), 1);
        CHECK.due("section(0, 0, 0)", x.section(0, 0, 0), 5);
        CHECK.refused("clearSections(1)", x, INDEX, () -> x.clearSections(1));
        CHECK.refused("clearSections(-1)", x, INDEX, () -> x.clearSections(-1));
        x.run(11);
        CHECK.refused("clearSections on the stack", x, STATE, () -> x.clearSections(0));
    }

    private static void setTimer() {
        NestedBells x = new NestedBells();
        x.addSource(3, 0, 20);
        x.addSource(3, 1, 20);
        CHECK.due("setTimer(0, 999, 1000)", x.setTimer(0, 999, 1000), 0);
        CHECK.due("until it is due", x.source(0, 15), 999);
        CHECK.due("setTimer(0, 0, 1)", x.setTimer(0, 0, 1), 1000);
        CHECK.due("until it is due", x.source(0, 15), 0);
        CHECK.due("setTimer(0, 5, 0)", x.setTimer(0, 5, 0), 1);
        CHECK.due("without a timer", x.source(0, 15), NestedBells.NONE);
        CHECK.due("setTimer(0, 0, 0)", x.setTimer(0, 0, 0), 0);
        int[][] bad = {{-1, 1}, {1000, 1}, {0, -1}, {0, 1001}, {1000, 0}};
        for (int[] b : bad) {
            CHECK.refused("setTimer(0, ..)", x, ARGUMENT, () -> x.setTimer(0, b[0], b[1]));
            CHECK.refused("setTimer of a line, out of range", x, ARGUMENT, () -> x.setTimer(1, b[0], b[1]));
            CHECK.refused("setTimer(2, ..)", x, INDEX, () -> x.setTimer(2, b[0], b[1]));
        }
        CHECK.refused("setTimer of a line", x, STATE, () -> x.setTimer(1, 0, 1));
        CHECK.refused("setTimer of a line, to take it away", x, STATE, () -> x.setTimer(1, 0, 0));
        x.run(3);
        CHECK.due("no ring of a timer taken away", x.source(0, 4), 0);
    }

    private static void timerRings() {
        NestedBells x = new NestedBells();
        x.addSource(3, 0, 20);
        x.set(0, 15);
        x.setTimer(0, 2, 3);
        x.run(2);
        CHECK.due("not due yet", x.source(0, 4), 0);
        CHECK.due("due now", x.source(0, 15), 0);
        x.run(1);
        CHECK.due("raised by its timer", x.source(0, 4), 1);
        CHECK.due("until it is due again", x.source(0, 15), 2);
        x.run(3);
        CHECK.due("an edge of the timer is lost", x.source(0, 10), 1);
        CHECK.due("kind of the event", x.log(0, 0), 3);
        CHECK.due("time of the event", x.log(0, 2), 5);
        x.setTimer(0, 1, 1);
        x.run(3);
        CHECK.due("edges lost, by a timer in place of another", x.source(0, 10), 3);
    }

    private static void raise() {
        NestedBells x = new NestedBells();
        x.addSource(3, 0, 20);
        x.addSource(3, 1, 20);
        CHECK.due("raise(0)", x.raise(0), 1);
        CHECK.due("pending", x.source(0, 4), 1);
        CHECK.due("raise(0) again", x.raise(0), 0);
        CHECK.due("edges lost of the source", x.source(0, 10), 1);
        CHECK.due("edges lost", x.account(7), 1);
        CHECK.due("log(0, 0)", x.log(0, 0), 3);
        CHECK.due("log(0, 1)", x.log(0, 1), 0);
        CHECK.due("log(0, 2)", x.log(0, 2), 0);
        CHECK.refused("raise of a line", x, STATE, () -> x.raise(1));
        CHECK.refused("raise(2)", x, INDEX, () -> x.raise(2));
        CHECK.refused("raise(-1)", x, INDEX, () -> x.raise(-1));
        x.run(4);
        CHECK.due("raise in the entry", x.raise(0), 0);
        x.run(8);
        CHECK.due("latency since it was raised, not since an edge was lost", x.source(0, 11), 12);
        CHECK.due("not pending on the stack", x.source(0, 4), 0);
        CHECK.due("raise on the stack", x.raise(0), 1);
        CHECK.due("pending on the stack", x.source(0, 4), 1);
    }

    private static void setLine() {
        NestedBells x = new NestedBells();
        x.addSource(3, 0, 20);
        x.addSource(3, 1, 2);
        CHECK.due("setLine(1, false)", x.setLine(1, false), 0);
        CHECK.due("setLine(1, true)", x.setLine(1, true), 0);
        CHECK.due("line", x.source(1, 5), 1);
        CHECK.due("pending", x.source(1, 4), 1);
        x.run(5);
        CHECK.due("setLine(1, true) again", x.setLine(1, true), 1);
        x.run(7);
        CHECK.due("latency since the line came up", x.source(1, 11), 12);
        CHECK.due("not pending on the stack", x.source(1, 4), 0);
        CHECK.due("its line on the stack", x.source(1, 5), 1);
        x.run(2);
        CHECK.due("pending again off the stack", x.source(1, 4), 1);
        x.run(6);
        CHECK.due("latency since it went off the stack", x.source(1, 11), 6);
        CHECK.due("setLine(1, false)", x.setLine(1, false), 1);
        x.run(2);
        CHECK.due("not pending with the line down", x.source(1, 4), 0);
        CHECK.due("line down", x.source(1, 5), 0);
        CHECK.due("no edge lost", x.account(7), 0);
        CHECK.refused("setLine of an edge", x, STATE, () -> x.setLine(0, true));
        CHECK.refused("setLine(2, true)", x, INDEX, () -> x.setLine(2, true));
        CHECK.refused("setLine(-1, false)", x, INDEX, () -> x.setLine(-1, false));
    }
}
