/** Objects brought to where a test begins, by calls of the face alone. */
final class Made {
    private Made() {
    }

    /** A new object with these sources, each told as priority, kind and length. */
    static NestedBells with(int[]... sources) {
        NestedBells x = new NestedBells();
        for (int[] source : sources) {
            x.addSource(source[0], source[1], source[2]);
        }
        return x;
    }

    static void costs(NestedBells x, int entry, int exit, int tail) {
        x.set(1, entry);
        x.set(2, exit);
        x.set(3, tail);
    }

    static void type(NestedBells x, String text) {
        for (int i = 0; i < text.length(); i++) {
            x.type(text.charAt(i));
        }
    }

    /** Runs this text, in place of the one that is there. */
    static int runText(NestedBells x, String text) {
        x.clearCommands();
        type(x, text);
        return x.runCommands();
    }

    /**
     * Brings a new object to where much can be spoilt: 2 handlers on the stack, a third source (2) is being
     * entered, 3 has a timer, the log is full, 4 states are saved, there is a text, and the stop is 3.
     */
    static void busyInAnEntry(NestedBells x) {
        x.addSource(3, 0, 200);
        x.addSource(8, 1, 60);
        x.addSource(12, 0, 30);
        x.addSource(5, 0, 20);
        x.addSource(14, 1, 10);
        x.addSection(0, 4, 100, 6);
        x.addSection(0, 10, 20, 7);
        x.addSection(2, 0, 30, 12);
        x.raise(0);
        x.run(20);
        x.setTimer(3, 2, 1);
        x.run(25);
        x.setTimer(3, 2, 9);
        x.setLine(1, true);
        x.run(14);
        runText(x, "run 2;raise 1;set 0 2;");
        x.raise(2);
        x.run(3);
    }

    /** The same one later: 2 has gone off the stack, and is being entered by a tail. */
    static void busyInATail(NestedBells x) {
        busyInAnEntry(x);
        x.run(39);
        x.run(2);
        x.raise(2);
        x.run(3);
    }
}
