/** Counts the answers that are not as due, and tells of each. */
final class Check {
    /** A call that may be refused. */
    interface Call {
        void make();
    }

    private int wrong = 0;

    void due(String call, long got, long want) {
        if (got != want) {
            tell(call + " answered " + got + ", due is " + want);
        }
    }

    /** The call must throw exactly this, and leave the digest of the object as it was. */
    void refused(String call, NestedBells bells, Class<?> want, Call made) {
        long before = bells.digest();
        Class<?> got = null;
        try {
            made.make();
        } catch (RuntimeException e) {
            got = e.getClass();
        }
        if (got != want) {
            tell(call + " threw " + got + ", due is " + want);
        }
        due("digest() behind a refused " + call, bells.digest(), before);
    }

    void tell(String text) {
        wrong++;
        System.out.println(text);
    }

    boolean isFine() {
        return wrong == 0;
    }

    void end() {
        System.out.println(wrong == 0 ? "all answers are as due" : wrong + " answers are not as due");
        if (wrong != 0) {
            System.exit(1);
        }
    }
}
