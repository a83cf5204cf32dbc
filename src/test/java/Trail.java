/** What calls tell of an object: two objects with the same trails are alike in all that the face can show. */
final class Trail {
    private static final int FAR = 200;
    private static final int TICKS = 80;

    private final StringBuilder told = new StringBuilder();

    private Trail() {
    }

    /** What is so now, and behind each of the next ticks. */
    static String ofTicks(NestedBells x) {
        Trail trail = new Trail();
        trail.addAll(x);
        for (int i = 0; i < TICKS; i++) {
            trail.add(x.run(1));
            trail.add(x.digest());
        }
        return trail.told.toString();
    }

    /** What was so in each of the saved states, the latest one first. */
    static String ofSavedStates(NestedBells x) {
        Trail trail = new Trail();
        trail.addAll(x);
        while (trail.addUndo(x)) {
            trail.addAll(x);
        }
        return trail.told.toString();
    }

    /** What the command text does, and how long it is. */
    static String ofText(NestedBells x) {
        Trail trail = new Trail();
        trail.add(x.stop());
        trail.add(x.runCommands());
        trail.add(x.stop());
        trail.addAll(x);
        trail.add(x.clearCommands());
        return trail.told.toString();
    }

    private boolean addUndo(NestedBells x) {
        try {
            add(x.undo());
            return true;
        } catch (IllegalStateException e) {
            return false;
        }
    }

    private void addAll(NestedBells x) {
        add(x.digest());
        for (int source = 0; source < x.processor(11); source++) {
            add(x.entersAfter(source, FAR));
            add(x.latencyIf(source, FAR));
            add(x.blocking(source));
        }
        add(x.idleAfter(FAR));
    }

    private void add(long value) {
        told.append(value).append(' ');
    }
}
