import java.util.ArrayList;
import java.util.List;

/** The document's limits of undo, the checksum and the life of an object: a test for each sentence. */
public final class EdgesOfUndoTest {
    private static final Class<?> STATE = IllegalStateException.class;

    private static final Check CHECK = new Check();

    public static void main(String[] arguments) {
        emptyStack();
        fourStatesAndNoMore();
        theOldestStatesAreDropped();
        statesBehindUndo();
        callsThatChangeNothing();
        callsThatSaveNothing();
        refusedCallsSaveNothing();
        allButTextAndStop();
        aSourceThatIsTakenBack();
        sectionsAreRestored();
        eventsAreRestored();
        anEntryIsRestored();
        digestOfANewObject();
        digestOfAFullObject();
        digestInAChange();
        fiveHundredAndTwelveCalls();
        theDearestCalls();
        CHECK.end();
    }

    /** "IllegalStateException if the stack is empty" */
    private static void emptyStack() {
        NestedBells x = new NestedBells();
        CHECK.refused("undo() of a new object", x, STATE, () -> x.undo());
        x.run(1);
        CHECK.due("undo() of one state", x.undo(), 0);
        CHECK.refused("undo() again", x, STATE, () -> x.undo());
        CHECK.refused("undo() once more", x, STATE, () -> x.undo());
        CHECK.due("time", x.processor(0), 0);
    }

    /** "The stack keeps the latest 4 saved states": as many undo() as there were calls, up to 4. */
    private static void fourStatesAndNoMore() {
        for (int calls = 0; calls <= 12; calls++) {
            NestedBells x = new NestedBells();
            for (int i = 0; i < calls; i++) {
                x.run(1);
            }
            int kept = Math.min(calls, 4);
            for (int left = kept - 1; left >= 0; left--) {
                CHECK.due("states that are left", x.undo(), left);
                CHECK.due("time", x.processor(0), calls - kept + left);
            }
            CHECK.refused("undo() behind " + calls + " calls", x, STATE, () -> x.undo());
        }
    }

    /** "and drops older ones" */
    private static void theOldestStatesAreDropped() {
        NestedBells x = new NestedBells();
        x.addSource(1, 0, 1);
        x.raise(0);
        x.set(0, 1);
        x.set(0, 2);
        CHECK.due("four states", x.set(0, 3), 2);
        for (int i = 3; i >= 0; i--) {
            CHECK.due("undo()", x.undo(), i);
        }
        CHECK.refused("undo() to the time without sources", x, STATE, () -> x.undo());
        CHECK.due("the source stays", x.processor(11), 1);
        CHECK.due("the raise is taken back", x.source(0, 4), 0);
    }

    private static void statesBehindUndo() {
        NestedBells x = new NestedBells();
        for (int round = 0; round < 9; round++) {
            x.run(1);
            x.run(2);
            x.run(3);
            CHECK.due("undo() of the third", x.undo(), round == 0 ? 2 : 3);
            CHECK.due("undo() of the second", x.undo(), round == 0 ? 1 : 2);
            CHECK.due("time", x.processor(0), round + 1);
            x.run(5);
            CHECK.due("undo() of another second", x.undo(), round == 0 ? 1 : 2);
            CHECK.due("time", x.processor(0), round + 1);
        }
        CHECK.due("undo() of a first", x.undo(), 1);
        CHECK.due("time", x.processor(0), 8);
        CHECK.due("undo() of the one before", x.undo(), 0);
        CHECK.due("time", x.processor(0), 7);
        CHECK.refused("undo() of one that was dropped", x, STATE, () -> x.undo());
    }

    private static void saves(String call, Check.Calls made) {
        NestedBells x = Made.with(new int[] {3, 0, 4}, new int[] {5, 1, 6});
        x.undo();
        x.addSource(5, 1, 6);
        x.undo();
        x.undo();
        x.addSource(3, 0, 4);
        x.addSource(5, 1, 6);
        long before = x.digest();
        made.make(x);
        CHECK.due("digest() behind " + call + ", but for the states", x.digest() - before, firstValue(1));
        CHECK.due("undo() of " + call, x.undo(), 2);
        CHECK.due("digest() behind undo() of " + call, x.digest(), before);
    }

    /** What one more in the first value of a digest makes, with two sources and an empty log. */
    private static long firstValue(long more) {
        long h = more;
        for (int i = 0; i < 2 + 12 + 10 + 2 * 17; i++) {
            h *= 31;
        }
        return h;
    }

    /** "when it ends normally, also if it changes nothing" */
    private static void callsThatChangeNothing() {
        saves("setSource of the priority it has", x -> x.setSource(0, 0, 3));
        saves("setSource of the length it has", x -> x.setSource(0, 1, 4));
        saves("setSource of enabled", x -> x.setSource(1, 2, 1));
        saves("clearSections of none", x -> x.clearSections(0));
        saves("setTimer to take none away", x -> x.setTimer(0, 0, 0));
        saves("setLine of a line that is down", x -> x.setLine(1, false));
        saves("set of the mask it has", x -> x.set(0, 0));
        saves("set of the cost it has", x -> x.set(1, 12));
        saves("runCommands without a command", x -> x.runCommands());
    }

    /** Calls that are not marked "undoable". */
    private static void callsThatSaveNothing() {
        NestedBells x = Made.with(new int[] {3, 0, 4}, new int[] {5, 1, 6});
        x.addSection(0, 1, 1, 1);
        x.type('x');
        x.runCommands();
        x.clearCommands();
        x.stop();
        x.digest();
        for (int source = 0; source < 2; source++) {
            x.source(source, 16);
            x.entersAfter(source, 1000);
            x.latencyIf(source, 1000);
            x.blocking(source);
        }
        x.section(0, 0, 3);
        x.stack(0);
        x.processor(5);
        x.account(0);
        x.log(0, 0);
        x.idleAfter(1000);
        CHECK.due("undo() of the section", x.undo(), 2);
        CHECK.due("sections", x.clearSections(0), 0);
    }

    private static void refusedCallsSaveNothing() {
        NestedBells x = Made.with(new int[] {3, 0, 4}, new int[] {5, 1, 6});
        Class<?> argument = IllegalArgumentException.class;
        Class<?> index = IndexOutOfBoundsException.class;
        CHECK.refused("addSource", x, argument, () -> x.addSource(0, 0, 1));
        CHECK.refused("setSource", x, index, () -> x.setSource(2, 0, 1));
        CHECK.refused("addSection", x, argument, () -> x.addSection(0, 500, 1, 1));
        CHECK.refused("clearSections", x, index, () -> x.clearSections(-1));
        CHECK.refused("setTimer", x, STATE, () -> x.setTimer(1, 0, 1));
        CHECK.refused("raise", x, STATE, () -> x.raise(1));
        CHECK.refused("setLine", x, STATE, () -> x.setLine(0, true));
        CHECK.refused("set", x, argument, () -> x.set(4, 0));
        CHECK.refused("run", x, argument, () -> x.run(0));
        CHECK.due("undo() of the second source", x.undo(), 1);
        CHECK.due("undo() of the first source", x.undo(), 0);
    }

    /** "saves the whole state but the command text and the stop" */
    private static void allButTextAndStop() {
        NestedBells x = new NestedBells();
        Made.busyInAnEntry(x);
        x.run(1);
        CHECK.due("undo() of a tick", x.undo(), 3);
        String before = Trail.ofTicks(x);
        NestedBells y = new NestedBells();
        Made.busyInAnEntry(y);
        Made.runText(y, "run 90;edge 1 1;set 0 9;raise 6;");
        CHECK.due("the stop of the run", y.stop(), 1);
        CHECK.due("undo()", y.undo(), 3);
        CHECK.due("the stop stays", y.stop(), 1);
        CHECK.due("the text stays", y.clearCommands(), 32);
        Made.runText(y, "run 2;raise 1;set 0 2;");
        CHECK.due("undo()", y.undo(), 3);
        CHECK.due("all else is as it was", before.equals(Trail.ofTicks(y)) ? 1 : 0, 1);
    }

    private static void aSourceThatIsTakenBack() {
        NestedBells x = new NestedBells();
        x.addSource(3, 0, 4);
        x.addSection(0, 0, 1, 9);
        x.addSection(0, 1, 1, 9);
        x.raise(0);
        x.undo();
        x.undo();
        x.undo();
        x.undo();
        CHECK.due("no source", x.processor(11), 0);
        x.addSource(3, 0, 4);
        CHECK.due("a new one has no sections", x.clearSections(0), 0);
        CHECK.due("and is not pending", x.source(0, 4), 0);
        CHECK.due("and has no blocking section", x.blocking(0), 0);
    }

    private static void sectionsAreRestored() {
        NestedBells x = Made.with(new int[] {3, 0, 500}, new int[] {9, 0, 1});
        x.addSection(0, 1, 2, 3);
        x.addSection(0, 499, 500, 15);
        x.clearSections(0);
        x.addSection(0, 4, 5, 6);
        x.addSection(0, 7, 8, 9);
        for (int i = 3; i > 0; i--) {
            x.undo();
        }
        int[] values = {1, 2, 3, 0, 499, 500, 15, 0};
        for (int i = 0; i < 8; i++) {
            CHECK.due("section(0, " + i / 4 + ", " + i % 4 + ")", x.section(0, i / 4, i % 4), values[i]);
        }
        CHECK.due("blocking(1)", x.blocking(1), 1);
        CHECK.due("undo() of the second section", x.undo(), 0);
        CHECK.due("clearSections", x.clearSections(0), 1);
    }

    private static void eventsAreRestored() {
        NestedBells x = Made.with(new int[] {3, 0, 4});
        x.raise(0);
        x.raise(0);
        CHECK.due("undo() of the first event", x.undo(), 2);
        CHECK.event(x, 0, -1, -1, -1);
        for (int i = 0; i < 20; i++) {
            x.raise(0);
        }
        x.run(1);
        x.raise(0);
        CHECK.event(x, 0, 3, 0, 1);
        CHECK.due("undo() of the event behind the twentieth", x.undo(), 3);
        CHECK.event(x, 0, 3, 0, 0);
        CHECK.event(x, 19, 3, 0, 0);
        CHECK.event(x, 20, -1, -1, -1);
        CHECK.due("undo() of a tick, and of the twentieth event", x.undo() + x.undo(), 3);
        CHECK.event(x, 18, 3, 0, 0);
        CHECK.event(x, 19, -1, -1, -1);
        CHECK.due("edges lost", x.account(7), 19);
    }

    private static void anEntryIsRestored() {
        NestedBells x = Made.with(new int[] {3, 0, 40}, new int[] {9, 0, 4});
        x.run(5);
        x.raise(0);
        x.run(20);
        x.raise(1);
        x.run(2);
        CHECK.change(x, "the entry", 1, 1, 10);
        Made.runText(x, "run 100;raise 0;raise 1;run 90;");
        CHECK.due("undo()", x.undo(), 3);
        CHECK.change(x, "the entry again", 1, 1, 10);
        CHECK.due("when it ends", x.entersAfter(1, 1000), 10);
        CHECK.due("preemptions of the handler below", x.source(0, 13), 1);
        CHECK.due("undo() of the tick in which it began, and of the raise", x.undo() + x.undo(), 3);
        CHECK.change(x, "no change", 0, -1, 0);
        CHECK.due("no preemption", x.source(0, 13), 0);
        CHECK.due("undo() of the handler", x.undo(), 0);
        x.run(12);
        CHECK.due("latency since the raise", x.source(0, 11), 12);
    }

    /** "It starts with h = 43211. For each of the following values v, in this order, h becomes 31 * h + v" */
    private static long digestOf(NestedBells x, int states, int length) {
        List<Integer> values = new ArrayList<>(List.of(states, length, x.stop()));
        for (int what = 0; what <= 11; what++) {
            values.add(x.processor(what));
        }
        for (int what = 0; what <= 9; what++) {
            values.add(x.account(what));
        }
        for (int source = 0; source < x.processor(11); source++) {
            for (int what = 0; what <= 16; what++) {
                values.add(x.source(source, what));
            }
            for (int section = 0; section < sectionsOf(x, source); section++) {
                for (int what = 0; what <= 3; what++) {
                    values.add(x.section(source, section, what));
                }
            }
        }
        for (int place = 0; place < x.processor(7); place++) {
            values.add(x.stack(place));
        }
        for (int event = 0; x.log(event, 0) != NestedBells.NONE; event++) {
            for (int what = 0; what <= 2; what++) {
                values.add(x.log(event, what));
            }
        }
        long h = 43211;
        for (int value : values) {
            h = 31 * h + value;
        }
        return h;
    }

    private static int sectionsOf(NestedBells x, int source) {
        int count = 0;
        try {
            while (count < 3) {
                x.section(source, count, 0);
                count++;
            }
        } catch (IndexOutOfBoundsException e) {
            return count;
        }
        return count;
    }

    private static void digestOfANewObject() {
        NestedBells x = new NestedBells();
        CHECK.due("digest()", x.digest(), digestOf(x, 0, 0));
        x.type(0);
        CHECK.due("digest() with a byte", x.digest(), digestOf(x, 0, 1));
        x.run(1);
        CHECK.due("digest() with a state", x.digest(), digestOf(x, 1, 1));
        x.undo();
        x.clearCommands();
        CHECK.due("digest() of a new object again", x.digest(), new NestedBells().digest());
    }

    private static void digestOfAFullObject() {
        NestedBells x = new NestedBells();
        for (int i = 0; i < 12; i++) {
            x.addSource(i + 1, 0, 20);
            x.addSection(i, 0, 20, i + 1);
            x.addSection(i, 499, 500, 15);
            x.setTimer(i, 4 * i, 900);
        }
        x.set(1, 0);
        x.run(48);
        Made.runText(x, " ".repeat(150));
        CHECK.due("handlers on the stack", x.processor(7), 12);
        CHECK.due("events", x.log(19, 0) > 0 ? 1 : 0, 1);
        CHECK.due("digest()", x.digest(), digestOf(x, 4, 150));
        Made.runText(x, "run 400;run 9;run 501;");
        CHECK.due("digest() with a stop", x.digest(), digestOf(x, 4, 22));
    }

    private static void digestInAChange() {
        NestedBells x = new NestedBells();
        Made.busyInAnEntry(x);
        CHECK.due("digest() in an entry", x.digest(), digestOf(x, 4, 22));
        NestedBells y = new NestedBells();
        Made.busyInATail(y);
        CHECK.due("digest() in a tail", y.digest(), digestOf(y, 4, 22));
        CHECK.due("undo()", y.undo(), 3);
        CHECK.due("digest() behind undo()", y.digest(), digestOf(y, 3, 22));
    }

    /** "An object is used for at most 512 calls after it has been made": the last ones answer as the first ones. */
    private static void fiveHundredAndTwelveCalls() {
        NestedBells x = Made.with(new int[] {3, 0, 1}, new int[] {5, 1, 6});
        x.setTimer(0, 0, 50);
        for (int call = 4; call <= 508; call++) {
            CHECK.due("call " + call, x.run(500), 10);
        }
        CHECK.due("time", x.processor(0), 505 * 500);
        CHECK.due("handlers that went off", x.source(0, 9), 5050);
        CHECK.due("sum of latencies", x.account(9), 5050 * 12);
        CHECK.due("undo() in the 512th call", x.undo(), 3);
    }

    private static void theDearestCalls() {
        NestedBells x = Made.with(new int[] {3, 0, 7}, new int[] {5, 1, 6}, new int[] {1, 0, 500});
        x.setTimer(0, 0, 11);
        x.setLine(1, true);
        x.raise(2);
        Made.type(x, "run 500;".repeat(18));
        int runs = 512 - 6 - 145 - 12;
        for (int i = 0; i < runs; i++) {
            CHECK.due("runCommands()", x.runCommands(), 18);
        }
        int time = runs * 9000;
        CHECK.due("time", x.processor(0), time);
        CHECK.due("ticks of all kinds", x.account(0) + x.account(1) + x.account(2), time);
        CHECK.due("a source that never comes on top", x.source(2, 8), 0);
        CHECK.due("the line alone comes on top, in a round of 12 ticks", x.source(1, 8), (time - 12) / 12 + 1);
        CHECK.due("the latency that it would have", x.latencyIf(2, 1000), -1);
        x.setLine(1, false);
        x.setTimer(0, 0, 0);
        CHECK.due("a source that waits since the beginning", x.latencyIf(2, 1000), time + x.entersAfter(2, 1000));
    }
}
