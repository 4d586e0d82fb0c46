/** What the tests share: they tell each answer that is not the one that is due, and end with 1 if there was one. */
final class Due {
    interface Call {
        void run();
    }

    interface CallWith {
        void run(int number);
    }

    /** Far from every range; times 3 or 120 some of them come back among the small numbers, as do 32 and 33 as shifts. */
    private static final int[] FAR = {Integer.MIN_VALUE, -1000, 32, 33, 999, 35791395, 715827883, 1 << 30, 1431655765,
        1431655766, Integer.MAX_VALUE};

    private static int wrong;
    private static int looked;
    private static String within = "";

    private Due() {
    }

    /** One sentence of the document with its own test; a test that is broken off, or looks at nothing, is told. */
    static void sentence(String promise, String words, Call test) {
        within = promise + ", \"" + words + "\": ";
        int before = looked;
        try {
            test.run();
        } catch (RuntimeException e) {
            tell("broken off by " + e);
        }
        if (looked == before) {
            tell("nothing was looked at");
        }
        within = "";
    }

    static void is(String what, long got, long due) {
        looked++;
        if (got != due) {
            tell(what + " answered " + got + ", due is " + due);
        }
    }

    static void isShare(String what, double got, double due) {
        looked++;
        if (got != due) {
            tell(what + " answered " + got + ", due is " + due);
        }
    }

    static void isText(String what, String got, String due) {
        looked++;
        if (!got.equals(due)) {
            tell(what + " is " + got + ", due is " + due);
        }
    }

    /** The call throws exactly this exception (none of its subclasses, as the machine throws them) and changes nothing. */
    static void fails(PinnedLeaves x, Class<? extends RuntimeException> due, String what, Call call) {
        looked++;
        long before = x.digest();
        String got = "nothing";
        try {
            call.run();
        } catch (RuntimeException e) {
            got = e.getClass().getName();
        }
        if (!got.equals(due.getName())) {
            tell(what + " throws " + got + ", due is " + due.getName());
        }
        if (x.digest() != before) {
            tell(what + " throws, and changes something");
        }
    }

    static void index(PinnedLeaves x, String what, Call call) {
        fails(x, IndexOutOfBoundsException.class, what, call);
    }

    static void argument(PinnedLeaves x, String what, Call call) {
        fails(x, IllegalArgumentException.class, what, call);
    }

    static void state(PinnedLeaves x, String what, Call call) {
        fails(x, IllegalStateException.class, what, call);
    }

    /** The call throws IndexOutOfBoundsException for each number that is not from least to most. */
    static void indexOutside(PinnedLeaves x, String what, int least, int most, CallWith call) {
        failsOutside(x, IndexOutOfBoundsException.class, what, least, most, call);
    }

    static void argumentOutside(PinnedLeaves x, String what, int least, int most, CallWith call) {
        failsOutside(x, IllegalArgumentException.class, what, least, most, call);
    }

    private static void failsOutside(PinnedLeaves x, Class<? extends RuntimeException> due, String what, int least,
            int most, CallWith call) {
        for (int number : new int[] {least - 2, least - 1, most + 1, most + 2}) {
            fails(x, due, what + " with " + number, () -> call.run(number));
        }
        for (int number : FAR) {
            if (number < least || number > most) {
                fails(x, due, what + " with " + number, () -> call.run(number));
            }
        }
    }

    /** The call saves one state, and undo restores all that was before it. */
    static void undoable(PinnedLeaves x, String what, Call call) {
        long before = x.digest();
        int saved = x.count(15);
        call.run();
        is("states saved by " + what, x.count(15), saved + 1);
        is("undo after " + what, x.undo(), saved);
        is("digest after undo of " + what, x.digest(), before);
    }

    static void write(PinnedLeaves x, String text) {
        x.clearBuffer();
        for (int at = 0; at < text.length(); at++) {
            x.append(text.charAt(at));
        }
    }

    /** Writes orders and has all of them done. */
    static void orders(PinnedLeaves x, String text) {
        write(x, text);
        is("obey() of " + text, x.obey(), text.split(";").length);
    }

    static void tell(String what) {
        wrong++;
        if (wrong <= 40) {
            System.out.println(within + what);
        }
    }

    static void end(String test) {
        System.out.println(test + ": " + looked + " looks, " + wrong + " wrong");
        if (wrong != 0) {
            System.exit(1);
        }
    }
}
