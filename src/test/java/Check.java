/** What the tests share: it counts the answers that are not due, and ends the test with exit code 1 if there was one. */
final class Check {
    interface Call {
        void run();
    }

    private int asked;
    private int wrong;

    void same(String what, long due, long got) {
        asked++;
        if (due != got) {
            wrong++;
            System.out.println(what + " answered " + got + ", due is " + due);
        }
    }

    void same(String what, double due, double got) {
        asked++;
        if (due != got) {
            wrong++;
            System.out.println(what + " answered " + got + ", due is " + due);
        }
    }

    void holds(String what, boolean got) {
        asked++;
        if (!got) {
            wrong++;
            System.out.println(what + " does not hold");
        }
    }

    /** The call must throw just this class, from a throw statement of the program, and change nothing. */
    void refused(String what, Class<? extends RuntimeException> due, BandDay day, Call call) {
        long before = day.digest();
        RuntimeException thrown = null;
        try {
            call.run();
        } catch (RuntimeException e) {
            thrown = e;
        }
        holds(what + " throws " + due.getSimpleName() + " (it threw " + thrown + ")",
                thrown != null && thrown.getClass() == due
                        && thrown.getStackTrace()[0].getClassName().startsWith("BandDay"));
        same(what + " changes nothing, the digest", before, day.digest());
    }

    void noIndex(String what, BandDay day, Call call) {
        refused(what, IndexOutOfBoundsException.class, day, call);
    }

    void noArgument(String what, BandDay day, Call call) {
        refused(what, IllegalArgumentException.class, day, call);
    }

    void noState(String what, BandDay day, Call call) {
        refused(what, IllegalStateException.class, day, call);
    }

    void end() {
        System.out.println(asked + " answers, " + wrong + " of them wrong");
        if (wrong != 0 || asked == 0) {
            System.exit(1);
        }
    }
}
