/** Counts the answers that are not as due, and tells of each. */
final class Check {
    /** A call that may be refused. */
    interface Call {
        void make();
    }

    /** Calls on an object that is given. */
    interface Calls {
        void make(NestedBells bells);
    }

    private int wrong = 0;

    void due(String call, long got, long want) {
        if (got != want) {
            tell(call + " answered " + got + ", due is " + want);
        }
    }

    /** The call must throw exactly this, and leave the digest of the object as it was. */
    void refused(String call, NestedBells bells, Class<?> want, Call made) {
        long before = bells.digest();
        throwing(call, want, made);
        due("digest() behind a refused " + call, bells.digest(), before);
    }

    /** The call must throw exactly this, and no trail may differ from that of an object without the call. */
    void refused(String call, Calls before, Class<?> want, Calls made) {
        alike(call + ", the ticks", Trail.ofTicks(after(before)), Trail.ofTicks(spoilt(call, before, want, made)));
        alike(call + ", the saved states", Trail.ofSavedStates(after(before)),
                Trail.ofSavedStates(spoilt(call, before, want, made)));
        alike(call + ", the text", Trail.ofText(after(before)), Trail.ofText(spoilt(call, before, want, made)));
    }

    private static NestedBells after(Calls calls) {
        NestedBells bells = new NestedBells();
        calls.make(bells);
        return bells;
    }

    private NestedBells spoilt(String call, Calls before, Class<?> want, Calls made) {
        NestedBells bells = after(before);
        throwing(call, want, () -> made.make(bells));
        return bells;
    }

    private void throwing(String call, Class<?> want, Call made) {
        Class<?> got = null;
        try {
            made.make();
        } catch (RuntimeException e) {
            got = e.getClass();
        }
        if (got != want) {
            tell(call + " threw " + got + ", due is " + want);
        }
    }

    private void alike(String call, String without, String with) {
        if (!with.equals(without)) {
            tell("behind a refused " + call + " are not what they were");
        }
    }

    /** The kind of the change, the source that is entered, and the ticks that are left. */
    void change(NestedBells bells, String when, int kind, int source, int left) {
        due(when + ": kind of the change", bells.processor(8), kind);
        due(when + ": source that is entered", bells.processor(9), source);
        due(when + ": ticks that are left", bells.processor(10), left);
    }

    void event(NestedBells bells, int event, int kind, int source, int time) {
        due("kind of event " + event, bells.log(event, 0), kind);
        due("source of event " + event, bells.log(event, 1), source);
        due("time of event " + event, bells.log(event, 2), time);
    }

    void tell(String text) {
        wrong++;
        System.out.println(text);
    }

    boolean isFine() {
        return wrong == 0;
    }

    void end() {
        System.out.println(wrong == 0 ? "all answers are as due" : wrong + " answers are not as due");
        if (wrong != 0) {
            System.exit(1);
        }
    }
}
