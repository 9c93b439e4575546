/** Counts the answers of a test that are not as due, and ends the test by that. */
final class Check {
    private final String test;
    private int asked;
    private int wrong;

    Check(String test) {
        this.test = test;
    }

    interface Call {
        long answer();
    }

    void due(String call, long got, long want) {
        asked++;
        if (got != want) {
            tell(call + " answered " + got + ", due is " + want);
        }
    }

    /** The call must throw just this class. */
    void refused(String call, Class<? extends RuntimeException> due, Call body) {
        asked++;
        try {
            long got = body.answer();
            tell(call + " answered " + got + ", due is " + due.getSimpleName());
        } catch (RuntimeException thrown) {
            if (thrown.getClass() != due) {
                tell(call + " threw " + thrown + ", due is " + due.getSimpleName());
            }
        }
    }

    /** As refused, of a call that answers nothing. */
    void refusedTelling(String call, Class<? extends RuntimeException> due, Runnable body) {
        refused(call, due, () -> {
            body.run();
            return 0;
        });
    }

    /** All that place answers of one glyph of the run set last. */
    void placed(String run, GlyphPositions x, int i, int... due) {
        for (int what = 0; what < due.length; what++) {
            due(run + ": place(" + i + ", " + what + ")", x.place(i, what), due[what]);
        }
    }

    void tell(String text) {
        wrong++;
        if (wrong <= 50) {
            System.out.println(test + ": " + text);
        }
    }

    boolean allRight() {
        return wrong == 0;
    }

    int asked() {
        return asked;
    }

    int wrong() {
        return wrong;
    }

    void end() {
        System.out.println(test + ": " + asked + " answers, " + wrong + " wrong");
        if (wrong != 0 || asked == 0) {
            System.exit(1);
        }
    }
}
