/** Compares answers with what is due, prints those that differ, and ends the test with exit code 1 if there was one. */
class Due {
    interface Call {
        long answer();
    }

    private int wrong;
    private int asked;

    final void is(String what, long want, long got) {
        asked++;
        if (got != want) {
            tell(what + " answered " + got + ", due is " + want);
        }
    }

    final void is(String what, boolean want, boolean got) {
        is(what, want ? 1 : 0, got ? 1 : 0);
    }

    /** The very class of exception, not one below it. */
    final void throwing(String what, Class<? extends RuntimeException> want, Call call) {
        asked++;
        String got;
        try {
            got = "answered " + call.answer();
        } catch (RuntimeException e) {
            if (e.getClass() == want) {
                return;
            }
            got = "threw " + e;
        }
        tell(what + " " + got + ", due is " + want.getSimpleName());
    }

    void tell(String fault) {
        wrong++;
        if (wrong <= 20) {
            System.out.println(fault);
        }
    }

    final boolean hasFault() {
        return wrong > 0;
    }

    final int asked() {
        return asked;
    }

    void end() {
        System.out.println(asked + " answers looked at, " + wrong + " wrong");
        if (wrong > 0 || asked == 0) {
            System.exit(1);
        }
    }
}
