/** What the tests share: they tell each answer that is not the one that is due, and end with 1 if there was one. */
final class Due {
    interface Call {
        void run();
    }

    private static int wrong;
    private static int looked;

    private Due() {
    }

    static void is(String what, long got, long due) {
        looked++;
        if (got != due) {
            tell(what + " answered " + got + ", due is " + due);
        }
    }

    static void isShare(String what, double got, double due) {
        looked++;
        if (got != due) {
            tell(what + " answered " + got + ", due is " + due);
        }
    }

    static void isText(String what, String got, String due) {
        looked++;
        if (!got.equals(due)) {
            tell(what + " is " + got + ", due is " + due);
        }
    }

    /** The call throws exactly this exception (none of its subclasses, as the machine throws them) and changes nothing. */
    static void fails(PinnedLeaves x, Class<? extends RuntimeException> due, String what, Call call) {
        looked++;
        long before = x.digest();
        String got = "nothing";
        try {
            call.run();
        } catch (RuntimeException e) {
            got = e.getClass().getName();
        }
        if (!got.equals(due.getName())) {
            tell(what + " throws " + got + ", due is " + due.getName());
        }
        if (x.digest() != before) {
            tell(what + " throws, and changes something");
        }
    }

    static void index(PinnedLeaves x, String what, Call call) {
        fails(x, IndexOutOfBoundsException.class, what, call);
    }

    static void argument(PinnedLeaves x, String what, Call call) {
        fails(x, IllegalArgumentException.class, what, call);
    }

    static void state(PinnedLeaves x, String what, Call call) {
        fails(x, IllegalStateException.class, what, call);
    }

    static void write(PinnedLeaves x, String text) {
        x.clearBuffer();
        for (int at = 0; at < text.length(); at++) {
            x.append(text.charAt(at));
        }
    }

    /** Writes orders and has all of them done. */
    static void orders(PinnedLeaves x, String text) {
        write(x, text);
        is("obey() of " + text, x.obey(), text.split(";").length);
    }

    static void tell(String what) {
        wrong++;
        if (wrong <= 40) {
            System.out.println(what);
        }
    }

    static void end(String test) {
        System.out.println(test + ": " + looked + " looks, " + wrong + " wrong");
        if (wrong != 0) {
            System.exit(1);
        }
    }
}
