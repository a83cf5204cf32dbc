/**
 * "A call that throws an exception changes nothing. If several exceptions of a method apply, the one that is
 * listed first is thrown. NONE is returned only if no exception applies." Each exception of each call, in the
 * middle of an entry or a tail, with what is seen of the object behind it.
 */
public final class RefusalsTest {
    private static final Class<?> INDEX = IndexOutOfBoundsException.class;
    private static final Class<?> ARGUMENT = IllegalArgumentException.class;
    private static final Class<?> STATE = IllegalStateException.class;

    private static final Check CHECK = new Check();
    private static final Check.Calls ENTRY = Made::busyInAnEntry;
    private static final Check.Calls TAIL = Made::busyInATail;
    private static final int[] NO_SOURCE = {-1, 5, 11, 12, Integer.MIN_VALUE, Integer.MAX_VALUE};
    private static final int[] FORECAST = outside(0, 1000);

    public static void main(String[] arguments) {
        whatIsBusy();
        withoutSources();
        addSource();
        setSource();
        setSourceInUse();
        addSection();
        clearSections();
        setTimer();
        raiseAndSetLine();
        setAndRun();
        source();
        section();
        otherValues();
        log();
        forecasts();
        type();
        undo();
        withoutSavedStates();
        CHECK.end();
    }

    /** The values next to a range, and the farthest ones. */
    private static int[] outside(int least, int greatest) {
        return new int[] {least - 1, greatest + 1, Integer.MIN_VALUE, Integer.MAX_VALUE};
    }

    private static void refused(String call, Class<?> want, Check.Calls made) {
        CHECK.refused(call, ENTRY, want, made);
    }

    private static void whatIsBusy() {
        for (int kind : new int[] {1, 3}) {
            NestedBells x = new NestedBells();
            (kind == 1 ? ENTRY : TAIL).make(x);
            CHECK.due("kind of the change", x.processor(8), kind);
            CHECK.due("source that is entered", x.processor(9), 2);
            CHECK.due("sources", x.processor(11), 5);
            CHECK.due("handlers on the stack", x.processor(7), 2);
            CHECK.due("top of the stack", x.stack(1), 1);
            CHECK.due("events in the log", x.log(19, 0), 3);
            CHECK.due("stop()", x.stop(), 3);
            CHECK.due("undo() of four states", x.undo() + x.undo() + x.undo() + x.undo(), 6);
        }
    }

    private static void withoutSources() {
        String[] names = {"setSource", "addSection", "clearSections", "setTimer", "raise", "setLine", "source",
            "section", "entersAfter", "latencyIf", "blocking"};
        Check.Calls[] calls = {x -> x.setSource(0, 0, 1), x -> x.addSection(0, 0, 1, 1), x -> x.clearSections(0),
            x -> x.setTimer(0, 0, 1), x -> x.raise(0), x -> x.setLine(0, true), x -> x.source(0, 0),
            x -> x.section(0, 0, 0), x -> x.entersAfter(0, 0), x -> x.latencyIf(0, 0), x -> x.blocking(0)};
        for (int i = 0; i < names.length; i++) {
            CHECK.refused(names[i] + " of a new object's source 0", x -> { }, INDEX, calls[i]);
        }
    }

    private static void addSource() {
        for (int bad : outside(1, 15)) {
            refused("addSource(" + bad + ", 0, 1)", ARGUMENT, x -> x.addSource(bad, 0, 1));
        }
        for (int bad : outside(0, 1)) {
            refused("addSource(1, " + bad + ", 1)", ARGUMENT, x -> x.addSource(1, bad, 1));
        }
        for (int bad : outside(1, 500)) {
            refused("addSource(1, 0, " + bad + ")", ARGUMENT, x -> x.addSource(1, 0, bad));
        }
        Check.Calls full = x -> {
            Made.busyInAnEntry(x);
            for (int i = 5; i < 12; i++) {
                x.addSource(i, i % 2, i);
            }
        };
        CHECK.refused("a source too many", full, STATE, x -> x.addSource(1, 0, 1));
        CHECK.refused("one too many with a bad priority", full, ARGUMENT, x -> x.addSource(16, 0, 1));
        CHECK.refused("one too many with a bad kind", full, ARGUMENT, x -> x.addSource(1, 2, 1));
        CHECK.refused("one too many with a bad length", full, ARGUMENT, x -> x.addSource(1, 0, 501));
    }

    private static void setSource() {
        for (int bad : NO_SOURCE) {
            refused("setSource(" + bad + ", 0, 1)", INDEX, x -> x.setSource(bad, 0, 1));
            refused("setSource(" + bad + ", 3, 1)", INDEX, x -> x.setSource(bad, 3, 1));
            refused("setSource(" + bad + ", 0, 16)", INDEX, x -> x.setSource(bad, 0, 16));
        }
        for (int bad : outside(0, 2)) {
            refused("setSource(3, " + bad + ", 1)", ARGUMENT, x -> x.setSource(3, bad, 1));
        }
        int[] greatest = {15, 500, 1};
        for (int what = 0; what < 3; what++) {
            int w = what;
            for (int bad : outside(what == 2 ? 0 : 1, greatest[what])) {
                refused("setSource(3, " + w + ", " + bad + ")", ARGUMENT, x -> x.setSource(3, w, bad));
            }
        }
    }

    private static void setSourceInUse() {
        for (int what = 0; what < 2; what++) {
            int w = what;
            for (int source = 0; source < 3; source++) {
                int s = source;
                String call = "setSource(" + s + ", " + w + ", ..) of a source in use";
                refused(call, STATE, x -> x.setSource(s, w, 5));
                refused(call + ", to what it is", STATE, x -> x.setSource(s, w, x.source(s, 2 * w)));
                refused(call + ", too small", ARGUMENT, x -> x.setSource(s, w, 0));
                refused(call + ", too great", ARGUMENT, x -> x.setSource(s, w, w == 0 ? 16 : 501));
                CHECK.refused(call + ", in a tail", TAIL, STATE, x -> x.setSource(s, w, 5));
            }
        }
        refused("setSource(0, 3, 1) of a source in use", ARGUMENT, x -> x.setSource(0, 3, 1));
        refused("setSource(2, 2, 2) of a source in use", ARGUMENT, x -> x.setSource(2, 2, 2));
    }

    private static void addSection() {
        for (int bad : NO_SOURCE) {
            refused("addSection(" + bad + ", 0, 1, 1)", INDEX, x -> x.addSection(bad, 0, 1, 1));
            refused("addSection(" + bad + ", 500, 0, 0)", INDEX, x -> x.addSection(bad, 500, 0, 0));
        }
        for (int bad : outside(0, 499)) {
            refused("addSection(3, " + bad + ", 1, 1)", ARGUMENT, x -> x.addSection(3, bad, 1, 1));
            refused("addSection(1, " + bad + ", 1, 1)", ARGUMENT, x -> x.addSection(1, bad, 1, 1));
        }
        for (int bad : outside(1, 500)) {
            refused("addSection(3, 0, " + bad + ", 1)", ARGUMENT, x -> x.addSection(3, 0, bad, 1));
            refused("addSection(1, 0, " + bad + ", 1)", ARGUMENT, x -> x.addSection(1, 0, bad, 1));
        }
        for (int bad : outside(1, 15)) {
            refused("addSection(3, 0, 1, " + bad + ")", ARGUMENT, x -> x.addSection(3, 0, 1, bad));
            refused("addSection(0, 0, 1, " + bad + ")", ARGUMENT, x -> x.addSection(0, 0, 1, bad));
        }
        refused("addSection(1, 0, 1, 1) on the stack, without a section", STATE, x -> x.addSection(1, 0, 1, 1));
        Check.Calls two = x -> {
            Made.busyInATail(x);
            x.addSection(2, 5, 6, 7);
            x.addSection(3, 0, 1, 1);
            x.addSection(3, 2, 3, 4);
        };
        CHECK.refused("a third section", two, STATE, x -> x.addSection(3, 0, 1, 1));
        CHECK.refused("a third section of a source that is being entered", two, STATE, x -> x.addSection(2, 0, 1, 1));
        CHECK.refused("a third section that is bad", two, ARGUMENT, x -> x.addSection(3, 0, 1, 16));
    }

    private static void clearSections() {
        for (int bad : NO_SOURCE) {
            refused("clearSections(" + bad + ")", INDEX, x -> x.clearSections(bad));
        }
        refused("clearSections(0) on the stack", STATE, x -> x.clearSections(0));
        refused("clearSections(1) on the stack, without a section", STATE, x -> x.clearSections(1));
    }

    private static void setTimer() {
        for (int bad : NO_SOURCE) {
            refused("setTimer(" + bad + ", 0, 1)", INDEX, x -> x.setTimer(bad, 0, 1));
            refused("setTimer(" + bad + ", 1000, 1001)", INDEX, x -> x.setTimer(bad, 1000, 1001));
        }
        for (int bad : outside(0, 999)) {
            refused("setTimer(3, " + bad + ", 1)", ARGUMENT, x -> x.setTimer(3, bad, 1));
            refused("setTimer(3, " + bad + ", 0), to take it away", ARGUMENT, x -> x.setTimer(3, bad, 0));
            refused("setTimer(1, " + bad + ", 1) of a line", ARGUMENT, x -> x.setTimer(1, bad, 1));
        }
        for (int bad : outside(0, 1000)) {
            refused("setTimer(3, 0, " + bad + ")", ARGUMENT, x -> x.setTimer(3, 0, bad));
            refused("setTimer(4, 0, " + bad + ") of a line", ARGUMENT, x -> x.setTimer(4, 0, bad));
        }
        refused("setTimer(1, 0, 1) of a line", STATE, x -> x.setTimer(1, 0, 1));
        refused("setTimer(4, 999, 1000) of a line", STATE, x -> x.setTimer(4, 999, 1000));
        refused("setTimer(4, 0, 0) of a line, without a timer to take away", STATE, x -> x.setTimer(4, 0, 0));
    }

    private static void raiseAndSetLine() {
        for (int bad : NO_SOURCE) {
            refused("raise(" + bad + ")", INDEX, x -> x.raise(bad));
            refused("setLine(" + bad + ", true)", INDEX, x -> x.setLine(bad, true));
            refused("setLine(" + bad + ", false)", INDEX, x -> x.setLine(bad, false));
        }
        refused("raise(1) of a line that is up", STATE, x -> x.raise(1));
        refused("raise(4) of a line that is down", STATE, x -> x.raise(4));
        for (int source : new int[] {0, 2, 3}) {
            refused("setLine(" + source + ", true) of an edge", STATE, x -> x.setLine(source, true));
            refused("setLine(" + source + ", false) of an edge", STATE, x -> x.setLine(source, false));
        }
    }

    private static void setAndRun() {
        for (int bad : outside(0, 3)) {
            refused("set(" + bad + ", 0)", ARGUMENT, x -> x.set(bad, 0));
        }
        for (int what = 0; what < 4; what++) {
            int w = what;
            for (int bad : outside(0, what == 0 ? 15 : 50)) {
                refused("set(" + w + ", " + bad + ")", ARGUMENT, x -> x.set(w, bad));
            }
        }
        for (int bad : outside(1, 500)) {
            refused("run(" + bad + ")", ARGUMENT, x -> x.run(bad));
        }
    }

    private static void source() {
        for (int bad : NO_SOURCE) {
            refused("source(" + bad + ", 0)", INDEX, x -> x.source(bad, 0));
            refused("source(" + bad + ", 17)", INDEX, x -> x.source(bad, 17));
        }
        for (int bad : outside(0, 16)) {
            refused("source(4, " + bad + ")", ARGUMENT, x -> x.source(4, bad));
        }
    }

    private static void section() {
        for (int bad : NO_SOURCE) {
            refused("section(" + bad + ", 0, 0)", INDEX, x -> x.section(bad, 0, 0));
            refused("section(" + bad + ", 0, 4)", INDEX, x -> x.section(bad, 0, 4));
        }
        int[] has = {2, 0, 1};
        for (int source = 0; source < 3; source++) {
            int s = source;
            for (int bad : outside(0, has[s] - 1)) {
                refused("section(" + s + ", " + bad + ", 3)", INDEX, x -> x.section(s, bad, 3));
                refused("section(" + s + ", " + bad + ", 4)", INDEX, x -> x.section(s, bad, 4));
            }
        }
        for (int bad : outside(0, 3)) {
            refused("section(0, 1, " + bad + ")", ARGUMENT, x -> x.section(0, 1, bad));
        }
    }

    private static void otherValues() {
        refused("stack(-1)", ARGUMENT, x -> x.stack(-1));
        refused("stack(the least)", ARGUMENT, x -> x.stack(Integer.MIN_VALUE));
        for (int bad : outside(0, 11)) {
            refused("processor(" + bad + ")", ARGUMENT, x -> x.processor(bad));
        }
        for (int bad : outside(0, 9)) {
            refused("account(" + bad + ")", ARGUMENT, x -> x.account(bad));
        }
    }

    private static void log() {
        refused("log(-1, 0)", ARGUMENT, x -> x.log(-1, 0));
        refused("log(the least, 0)", ARGUMENT, x -> x.log(Integer.MIN_VALUE, 0));
        for (int bad : outside(0, 2)) {
            refused("log(0, " + bad + ")", ARGUMENT, x -> x.log(0, bad));
            refused("log(20, " + bad + ") of no event", ARGUMENT, x -> x.log(20, bad));
            CHECK.refused("log(0, " + bad + ") of an empty log", x -> { }, ARGUMENT, x -> x.log(0, bad));
        }
    }

    private static void forecasts() {
        for (int bad : NO_SOURCE) {
            refused("entersAfter(" + bad + ", 0)", INDEX, x -> x.entersAfter(bad, 0));
            refused("entersAfter(" + bad + ", 1001)", INDEX, x -> x.entersAfter(bad, 1001));
            refused("latencyIf(" + bad + ", 0)", INDEX, x -> x.latencyIf(bad, 0));
            refused("latencyIf(" + bad + ", -1)", INDEX, x -> x.latencyIf(bad, -1));
            refused("blocking(" + bad + ")", INDEX, x -> x.blocking(bad));
        }
        for (int bad : FORECAST) {
            refused("entersAfter(2, " + bad + ")", ARGUMENT, x -> x.entersAfter(2, bad));
            refused("entersAfter(4, " + bad + "), where NONE were near", ARGUMENT, x -> x.entersAfter(4, bad));
            refused("latencyIf(2, " + bad + ")", ARGUMENT, x -> x.latencyIf(2, bad));
            refused("idleAfter(" + bad + ")", ARGUMENT, x -> x.idleAfter(bad));
            CHECK.refused("idleAfter(" + bad + ") where it is so", x -> { }, ARGUMENT, x -> x.idleAfter(bad));
        }
    }

    private static void type() {
        for (int bad : outside(0, 127)) {
            refused("type(" + bad + ")", ARGUMENT, x -> x.type(bad));
        }
        Check.Calls full = x -> {
            Made.busyInAnEntry(x);
            x.clearCommands();
            Made.type(x, "run 1;".repeat(25));
        };
        CHECK.refused("type(32) into a full text", full, STATE, x -> x.type(32));
        for (int bad : outside(0, 127)) {
            CHECK.refused("type(" + bad + ") into a full text", full, ARGUMENT, x -> x.type(bad));
        }
    }

    private static void undo() {
        CHECK.refused("undo() of a new object", x -> { }, STATE, x -> x.undo());
        CHECK.refused("undo() behind the last state", RefusalsTest::takeAllBack, STATE, x -> x.undo());
    }

    private static void takeAllBack(NestedBells x) {
        Made.busyInATail(x);
        for (int i = 0; i < 4; i++) {
            x.undo();
        }
    }

    private static void withoutSavedStates() {
        Check.Calls before = RefusalsTest::takeAllBack;
        CHECK.refused("addSource, nothing saved", before, ARGUMENT, x -> x.addSource(0, 0, 1));
        CHECK.refused("setSource, nothing saved", before, STATE, x -> x.setSource(0, 0, 1));
        CHECK.refused("addSection, nothing saved", before, STATE, x -> x.addSection(0, 0, 1, 1));
        CHECK.refused("clearSections, nothing saved", before, STATE, x -> x.clearSections(0));
        CHECK.refused("setTimer, nothing saved", before, STATE, x -> x.setTimer(1, 0, 1));
        CHECK.refused("raise, nothing saved", before, STATE, x -> x.raise(1));
        CHECK.refused("setLine, nothing saved", before, STATE, x -> x.setLine(0, true));
        CHECK.refused("set, nothing saved", before, ARGUMENT, x -> x.set(4, 0));
        CHECK.refused("run, nothing saved", before, ARGUMENT, x -> x.run(501));
    }
}
