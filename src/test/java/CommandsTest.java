/** Promises 21 to 24: the command text, its faults, its runs, and why a run stopped. */
public final class CommandsTest {
    private static final Class<?> ARGUMENT = IllegalArgumentException.class;
    private static final Class<?> STATE = IllegalStateException.class;

    private static final Check CHECK = new Check();

    public static void main(String[] arguments) {
        type();
        faults();
        noFaults();
        everyCommand();
        stops();
        aRunIsUndoable();
        CHECK.end();
    }

    private static void type() {
        NestedBells x = new NestedBells();
        CHECK.refused("type(-1)", x, ARGUMENT, () -> x.type(-1));
        CHECK.refused("type(128)", x, ARGUMENT, () -> x.type(128));
        CHECK.due("type(0)", x.type(0), 1);
        CHECK.due("type(127)", x.type(127), 2);
        for (int length = 3; length <= 150; length++) {
            CHECK.due("type(32)", x.type(32), length);
        }
        CHECK.refused("a byte too many", x, STATE, () -> x.type(32));
        CHECK.refused("a byte too many, out of range", x, ARGUMENT, () -> x.type(128));
        CHECK.due("clearCommands()", x.clearCommands(), 150);
        CHECK.due("clearCommands() again", x.clearCommands(), 0);
        CHECK.due("type(65) behind it", x.type(65), 1);
        CHECK.refused("undo(), for these calls are not undoable", x, STATE, () -> x.undo());
    }

    private static void fault(String text, int index) {
        NestedBells x = new NestedBells();
        CHECK.due("runCommands() of '" + text + "'", Made.runText(x, text), -10 - index);
        CHECK.due("its length", x.clearCommands(), text.length());
        CHECK.refused("undo() behind a fault", x, STATE, () -> x.undo());
        CHECK.due("processor(11) behind a fault", x.processor(11), 0);
    }

    private static void faults() {
        fault("edg", 0);
        fault("edge", 4);
        fault("edge ", 5);
        fault("edge 1", 6);
        fault("edge 1 ", 7);
        fault("edge 1 2", 8);
        fault("edge 1 2  ", 10);
        fault("edge;", 4);
        fault("edge 1;", 6);
        fault("edge 1 ;", 7);
        fault("edge1 2;", 4);
        fault("edge 1,2;", 6);
        fault("edge 1 2 3;", 9);
        fault("edge 1234 2;", 8);
        fault("edge 1 0001;", 10);
        fault("raise 1000;", 9);
        fault("edge -1 2;", 5);
        fault("edge a 2;", 5);
        fault("edge 1a 2;", 6);
        fault("edges 1 2;", 0);
        fault("  sets 1 2;", 2);
        fault("  set 1 2;  raised 1;", 12);
        fault("edge 3 4;wait", 9);
        fault("edge 3 4;run", 12);
        fault("Edge 1 2;", 0);
        fault(";", 0);
        fault("edge 3 4;;", 9);
        fault("edge 3 4; ;", 10);
        fault("1", 0);
        fault("edgE 1 2;", 0);
        fault("raise{", 5);
        fault("raise`1;", 5);
        fault("raise 1:", 7);
        fault("raise 1/", 7);
        fault("\t", 0);
        fault("run 1;\n", 6);
        fault("section 0 1 2;", 13);
        fault("timer 0 1;", 9);
        fault("up 0 1;", 5);
        fault("\0", 0);
        fault("raisez 1;", 0);
        fault("xun 1;", 0);
        fault("rux 1;", 0);
        fault("run 1 run 2 run 3;", 6);
        fault("raise run", 6);
        fault("raise ; raise", 6);
        fault("edge 1 2;".repeat(16) + "run 12", 150);
        fault("edge 1 2;".repeat(16) + " run 1", 150);
        fault("edge 1 2;".repeat(16) + "   run", 150);
        fault("edge 1 2;".repeat(16) + "   ran", 147);
    }

    private static void noFaults() {
        NestedBells x = new NestedBells();
        CHECK.due("an empty text", Made.runText(x, ""), 0);
        CHECK.due("spaces alone", Made.runText(x, "   "), 0);
        CHECK.due("zeros in front", Made.runText(x, "edge 001 010;"), 1);
        CHECK.due("the length", x.source(0, 2), 10);
        CHECK.due("spaces everywhere", Made.runText(x, "  run   1  ;  run 2;run 3 ;  "), 3);
        CHECK.due("time", x.processor(0), 6);
        StringBuilder longest = new StringBuilder();
        while (longest.length() < 150) {
            longest.append("run 1;");
        }
        CHECK.due("150 bytes", Made.runText(x, longest.toString()), 25);
        CHECK.due("time", x.processor(0), 31);
        CHECK.due("the text stays", x.runCommands(), 25);
        CHECK.due("time", x.processor(0), 56);
        CHECK.due("clearCommands()", x.clearCommands(), 150);
        CHECK.due("the bytes of an older text do not count", Made.runText(x, "run 1"), -15);
    }

    private static void everyCommand() {
        NestedBells x = new NestedBells();
        String text = "edge 3 20;line 7 500;section 0 1 2 9;timer 0 4 30;set 1 8;up 1;down 1;up 1;raise 0;raise 0;run 7;";
        CHECK.due("every command", Made.runText(x, text), 11);
        CHECK.due("stop()", x.stop(), 0);
        int[] edge = {3, 0, 20, 1, 1, 0, -1, 0, 0, 0, 2, -1, -1, 0, 0, 27, 5};
        int[] line = {7, 1, 500, 1, 1, 1, -1, 0, 0, 0, 0, -1, -1, 0, 0, -1, 6};
        for (int what = 0; what < 17; what++) {
            CHECK.due("source(0, " + what + ")", x.source(0, what), edge[what]);
            CHECK.due("source(1, " + what + ")", x.source(1, what), line[what]);
        }
        for (int what = 0; what < 3; what++) {
            CHECK.due("section(0, 0, " + what + ")", x.section(0, 0, what), new int[] {1, 2, 9}[what]);
        }
        CHECK.due("entry cost", x.processor(2), 8);
        CHECK.due("ticks left of the entry", x.processor(10), 1);
        CHECK.due("down", Made.runText(x, "down 1;"), 1);
        CHECK.due("the line", x.source(1, 5), 0);
        CHECK.due("up", Made.runText(x, "up 1;"), 1);
        CHECK.due("the line", x.source(1, 5), 1);
    }

    private static void stops() {
        NestedBells x = new NestedBells();
        CHECK.due("without a run", x.stop(), 0);
        CHECK.due("no such source", Made.runText(x, "edge 3 4;raise 1;run 5;"), 1);
        CHECK.due("stop()", x.stop(), 1);
        CHECK.due("nothing behind the stop", x.processor(0), 0);
        CHECK.due("those before it stay done", x.processor(11), 1);
        CHECK.due("out of range", Made.runText(x, "run 1;run 1;set 4 1;"), 2);
        CHECK.due("stop()", x.stop(), 2);
        CHECK.due("wrong state", Made.runText(x, "up 0;"), 0);
        CHECK.due("stop()", x.stop(), 3);
        CHECK.due("a fault", Made.runText(x, "run 1;up"), -18);
        CHECK.due("the stop stays", x.stop(), 3);
        CHECK.due("no commands", Made.runText(x, " "), 0);
        CHECK.due("no stop", x.stop(), 0);
        int[] stops = {2, 2, 1, 2, 1, 3, 1, 3, 2, 3};
        String[] texts = {"edge 0 1;", "line 1 501;", "section 1 0 1 1;", "section 0 500 1 1;", "timer 1 0 1;",
            "down 0;", "up 12;", "line 1 1;timer 1 0 0;", "run 0;", "raise 1;"};
        for (int i = 0; i < texts.length; i++) {
            Made.runText(x, texts[i]);
            CHECK.due("stop() of " + texts[i], x.stop(), stops[i]);
        }
        CHECK.due("set a stop", Made.runText(x, "run 501;"), 0);
        CHECK.due("a run that ends well", Made.runText(x, "run 1;"), 1);
        CHECK.due("no stop", x.stop(), 0);
    }

    private static void aRunIsUndoable() {
        NestedBells x = new NestedBells();
        CHECK.due("a run with a stop", Made.runText(x, "edge 3 4;edge 5 6;raise 0;run 9;raise 7;"), 4);
        CHECK.due("undo()", x.undo(), 0);
        CHECK.due("one state, from before the run", x.processor(11), 0);
        CHECK.due("time", x.processor(0), 0);
        CHECK.due("the stop is not undone", x.stop(), 1);
        CHECK.due("nor is the text", x.clearCommands(), 40);
        CHECK.due("an empty run", x.runCommands(), 0);
        CHECK.due("undo() of it", x.undo(), 0);
        CHECK.due("a run that stops at once", Made.runText(x, "raise 0;"), 0);
        CHECK.due("undo() of it", x.undo(), 0);
    }
}
