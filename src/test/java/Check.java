/** Counts what was checked, prints what was wrong, and ends the test with the exit code that is due. */
final class Check {
    private int done;
    private int wrong;
    private String about = "";

    interface Call {
        void make();
    }

    void about(String promise) {
        about = promise;
    }

    /** One sentence of the document; a call in it that throws unasked does not keep the others back. */
    void sentence(String words, Call test) {
        about(words);
        try {
            test.make();
        } catch (RuntimeException e) {
            fail("threw " + e + " at " + e.getStackTrace()[0]);
        }
    }

    void same(String what, long got, long due) {
        done++;
        if (got != due) {
            fail(what + " answered " + got + ", due is " + due);
        }
    }

    void same(String what, String got, String due) {
        done++;
        if (!got.equals(due)) {
            fail(what + " answered " + got + ", due is " + due);
        }
    }

    void isMessage(String what, PlaceNet x, int k, int... due) {
        for (int i = 0; i < 8; i++) {
            same(what + ": message(" + k + ", " + i + ")", x.message(k, i), due[i]);
        }
    }

    void fine(String what, Call call) {
        raises(what, null, call);
    }

    void bad(String what, Call call) {
        raises(what, IllegalArgumentException.class, call);
    }

    void out(String what, Call call) {
        raises(what, IndexOutOfBoundsException.class, call);
    }

    /** The very class is compared: what the machine throws is often a class below the due one. */
    void raises(String what, Class<? extends RuntimeException> due, Call call) {
        done++;
        Class<?> got = null;
        try {
            call.make();
        } catch (RuntimeException e) {
            got = e.getClass();
        }
        if (got != due) {
            fail(what + " threw " + got + ", due is " + due);
        }
    }

    void fail(String text) {
        wrong++;
        if (wrong <= 40) {
            System.out.println(about + ": " + text);
        }
    }

    boolean isClean() {
        return wrong == 0;
    }

    void end() {
        System.out.println(done + " checks, " + wrong + " wrong");
        System.exit(wrong == 0 && done > 0 ? 0 : 1);
    }
}
