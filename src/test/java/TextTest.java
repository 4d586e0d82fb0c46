/** Promises 16 to 19: the buffer and orders as texts. */
public final class TextTest {
    public static void main(String[] args) {
        append();
        clearBuffer();
        firstErrors();
        everySign();
        obeyNeedsCompleteOrders();
        obey();
        obeyStops();
        Due.end("TextTest");
    }

    private static void append() {
        PinnedLeaves x = new PinnedLeaves();
        Due.argument(x, "promise 16: 32", () -> x.append(32));
        Due.argument(x, "promise 16: 127", () -> x.append(127));
        Due.argument(x, "promise 16: -1", () -> x.append(-1));
        Due.is("promise 16: 33", x.append(33), 1);
        Due.is("promise 16: 126", x.append(126), 2);
        for (int length = 3; length <= 60; length++) {
            Due.is("promise 16: length", x.append('b'), length);
        }
        Due.state(x, "promise 16: full", () -> x.append('b'));
        Due.argument(x, "promise 16: the argument goes first", () -> x.append(0));
        Due.is("promise 16: not undoable", x.count(15), 0);
    }

    private static void clearBuffer() {
        PinnedLeaves x = new PinnedLeaves();
        Due.is("promise 17: empty", x.clearBuffer(), 0);
        Due.write(x, "e0;?");
        Due.is("promise 17: its length", x.clearBuffer(), 4);
        Due.is("promise 17: cleared", x.clearBuffer(), 0);
        Due.is("promise 17: not undoable", x.count(15), 0);
        Due.write(x, "b");
        x.ring();
        x.undo();
        Due.is("promise 17: undo leaves the buffer", x.clearBuffer(), 1);
    }

    private static void firstError(String text, int due) {
        PinnedLeaves x = new PinnedLeaves();
        Due.write(x, text);
        Due.is("promise 18: firstError of " + text, x.firstError(), due);
        Due.is("promise 18: the buffer stays", x.clearBuffer(), text.length());
    }

    private static void firstErrors() {
        String[] right = {"", "b", "b;", "b;b", "e0", "e4", "z3", "n", "n4", "n42", "n42l", "p02", "x40", "t1a",
            "w0a", "w0a9", "g", "gl", "gl9", "k4;", "n00a;p00;x00;t0a;w0b1;gc2;k0;b;e1;z1"};
        for (String text : right) {
            firstError(text, text.length());
        }
        firstError(";", 0);
        firstError("b;;", 2);
        firstError("bb", 1);
        firstError("e5", 1);
        firstError("e00", 2);
        firstError("e;", 1);
        firstError("n03", 2);
        firstError("n00m", 3);
        firstError("n00ab", 4);
        firstError("p003", 3);
        firstError("gaa", 2);
        firstError("g0", 1);
        firstError("w0a9;a", 5);
        firstError("w0A", 2);
        firstError("E0", 0);
        firstError("e0;h", 3);
        firstError("b;l", 2);
        firstError("z0!", 2);
    }

    /** Each sign behind each beginning: wrong where it is not among the signs that may follow. */
    private static void everySign() {
        String[][] beginnings = {
            {"", "eznpxtwgkb"}, {"b;", "eznpxtwgkb"}, {"b", ";"}, {"e", "01234"}, {"e0", ";"}, {"z", "01234"},
            {"z0", ";"}, {"k", "01234"}, {"k0", ";"}, {"n", "01234"}, {"n0", "012"}, {"n00", "abcdefghijkl"},
            {"n00a", ";"}, {"p", "01234"}, {"p0", "012"}, {"p00", ";"}, {"x", "01234"}, {"x0", "012"},
            {"x00", ";"}, {"t", "01234"}, {"t0", "abcdefghijkl"}, {"t0a", ";"}, {"w", "01234"},
            {"w0", "abcdefghijkl"}, {"w0a", "0123456789"}, {"w0a0", ";"}, {"g", "abcdefghijkl"},
            {"ga", "0123456789"}, {"ga0", ";"}};
        for (String[] beginning : beginnings) {
            for (char sign = 33; sign <= 126; sign++) {
                boolean isRight = beginning[1].indexOf(sign) >= 0;
                firstError(beginning[0] + sign, beginning[0].length() + (isRight ? 1 : 0));
            }
        }
    }

    private static void obeyNeedsCompleteOrders() {
        String[] wrong = {"", ";", "b;", "b;;b", "e", "n00", "n0", "n", "g", "ga", "w0a", "t0", "x0", "e0;e", "bb", "e0?", "k5"};
        for (String text : wrong) {
            PinnedLeaves x = new PinnedLeaves();
            Due.write(x, text);
            Due.argument(x, "promise 19: " + text, () -> x.obey());
            Due.is("promise 19: the buffer stays", x.clearBuffer(), text.length());
            Due.is("promise 19: nothing is saved", x.count(15), 0);
        }
    }

    private static void obey() {
        PinnedLeaves x = new PinnedLeaves();
        Due.orders(x, "ga7;gb8;gl9;e0;e1;n02l;p02;n12b;x12;w1l3;t0a;k0");
        Due.is("promise 19: cleared", x.clearBuffer(), 0);
        Due.is("promise 19: saved once", x.count(15), 1);
        Due.is("promise 19: g", x.leaf(1, 0), 8);
        Due.is("promise 19: p", x.hook(0, 2, 0), 2);
        Due.is("promise 19: x", x.hook(1, 2, 0), 0);
        Due.is("promise 19: w", x.branch(11), 3);
        Due.is("promise 19: w", x.leaf(3, 0), 3);
        Due.is("promise 19: w", x.heap(1, 0), 2);
        Due.is("promise 19: k", x.leaf(0, 1), 2);
        Due.is("promise 19: most aside behind an order", x.count(14), 2);
        Due.orders(x, "z0;z1;b;b;e0");
        Due.is("promise 19: b", x.child(0, 1), 2);
        Due.is("promise 19: undo as one call", x.undo(), 1);
        Due.is("promise 19: undo as one call", x.child(0, 1), 0);
        Due.is("promise 19: undo as one call", x.undo(), 0);
        Due.is("promise 19: undo as one call", x.count(4), 0);
        x.set(0, 1);
        Due.orders(x, "ga1;gb2;e0;n00a;w0a1;n01b;t0b;p00");
        Due.is("promise 19: a failed pin is done, and counted", x.count(12), 1);
        Due.is("promise 19: most aside behind an order", x.count(14), 0);
    }

    private static void stops(String before, String text, int due) {
        PinnedLeaves x = new PinnedLeaves();
        if (!before.isEmpty()) {
            Due.orders(x, before);
        }
        int saved = x.count(15);
        Due.write(x, text);
        Due.is("promise 19: done of " + text, x.obey(), due);
        Due.is("promise 19: cleared", x.clearBuffer(), 0);
        Due.is("promise 19: saved, also if none is done", x.count(15), saved + 1);
        PinnedLeaves y = new PinnedLeaves();
        if (!before.isEmpty()) {
            Due.orders(y, before);
        }
        String[] parts = text.split(";");
        StringBuilder done = new StringBuilder();
        for (int part = 0; part < due; part++) {
            done.append(part == 0 ? "" : ";").append(parts[part]);
        }
        if (due > 0) {
            Due.orders(y, done.toString());
        } else {
            y.set(1, 0);
        }
        Due.is("promise 19: only what is told is done of " + text, x.digest(), y.digest());
    }

    private static void obeyStops() {
        stops("e0", "e0;b", 0);
        stops("", "e2;b", 0);
        stops("", "z0;b", 0);
        stops("e0;z0", "z0;b", 0);
        stops("", "z4;b", 0);
        stops("e0", "ga1;b;b;gb2", 2);
        stops("ga1", "ga2;b", 0);
        stops("ga1", "n00a;b", 0);
        stops("ga1;e0", "n00b;b", 0);
        stops("ga1;e0", "n00a;n00a;b", 1);
        stops("ga1;e0", "n20a;b", 0);
        stops("e0", "p00;b", 0);
        stops("ga1;e0;n00a;p00", "p00;b", 0);
        stops("ga1;e0;n00a;p00", "x00;x00;b", 1);
        stops("", "x20;b", 0);
        stops("", "p40;b", 0);
        stops("ga1", "t0a;b", 0);
        stops("ga1;e0", "t0b;b", 0);
        stops("ga1;e0", "t0a;t0a;b", 1);
        stops("ga1", "t2a;b", 0);
        stops("ga1", "w0a1;b", 0);
        stops("ga1;e0", "w0b1;b", 0);
        stops("ga1;e0", "w3a1;b", 0);
        stops("", "k0;b", 0);
        stops("", "k3;b", 0);
        stops("ga1;e0;t0a", "k0;k0;b", 1);
        stops("ga1;gb2;e0;n00a;p00;t0a", "b;x00;k0;b;z0", 3);
    }
}
