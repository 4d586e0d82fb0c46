/** Promises 23 to 30: looks. */
public final class LooksTest {
    private static final int NONE = PinnedLeaves.NONE;

    public static void main(String[] args) {
        branch();
        leaf();
        child();
        hook();
        heap();
        count();
        setting();
        why();
        Due.end("LooksTest");
    }

    private static void branch() {
        PinnedLeaves x = new PinnedLeaves();
        Due.orders(x, "gl1;ga2");
        Due.is("promise 23", x.branch(11), 0);
        Due.is("promise 23", x.branch(0), 1);
        Due.is("promise 23", x.branch(1), NONE);
        Due.index(x, "promise 23: no branch 12", () -> x.branch(12));
        Due.index(x, "promise 23: no branch -1", () -> x.branch(-1));
    }

    private static void leafIs(String when, PinnedLeaves x, int leaf, int... due) {
        for (int what = 0; what < due.length; what++) {
            Due.is("promise 24: " + when + ", number " + what, x.leaf(leaf, what), due[what]);
        }
    }

    private static void leaf() {
        PinnedLeaves x = new PinnedLeaves();
        x.come();
        x.ring();
        x.grow(3, 6);
        leafIs("on a branch", x, 0, 6, 0, 3, NONE, NONE, 0, 0, 0);
        Due.orders(x, "e0;e2;n00d");
        leafIs("noted", x, 0, 6, 0, 3, NONE, NONE, 0, 0, 1);
        Due.orders(x, "n01d;n20d;n21d;n22d;p00;p20;p21");
        leafIs("noted and pinned", x, 0, 6, 0, 3, NONE, NONE, 5, 3, 2);
        x.take(2, 3);
        leafIs("aside", x, 0, 6, 1, 3, 1, 2, 5, 3, 2);
        x.leave(2);
        leafIs("aside, on another heap", x, 0, 6, 1, 3, 1, 0, 1, 1, 1);
        x.loosen(0, 0);
        x.rake(0);
        leafIs("burnt", x, 0, 6, 2, 3, 1, NONE, 0, 0, 1);
        Due.index(x, "promise 24: no leaf 1", () -> x.leaf(1, 0));
        Due.index(x, "promise 24: no leaf -1, before what", () -> x.leaf(-1, 8));
        Due.argument(x, "promise 24: what 8", () -> x.leaf(0, 8));
        Due.argument(x, "promise 24: what -1", () -> x.leaf(0, -1));
    }

    private static void childIs(String when, PinnedLeaves x, int child, int... due) {
        for (int what = 0; what < due.length; what++) {
            Due.is("promise 25: " + when + ", number " + what, x.child(child, what), due[what]);
        }
    }

    private static void child() {
        PinnedLeaves x = new PinnedLeaves();
        x.ring();
        Due.orders(x, "ga1;gb2;gc3;gd4;e0;e1;n00a;n01b;n02b;p00;n10c");
        childIs("with a pin", x, 0, 1, 1, 1, 2, 0, 0, 0, 0);
        childIs("with a note", x, 1, 1, 1, 0, 1, 0, 0, 0, 0);
        Due.orders(x, "t0a;w0b5;t1c;k0");
        childIs("with a heap", x, 0, 1, 1, 1, 2, 1, 2, 1, 1);
        childIs("with a heap", x, 1, 1, 1, 0, 1, 1, 1, 0, 0);
        x.rest(0);
        childIs("who rests", x, 0, 0, NONE, 0, 0, 1, 2, 1, 1);
        Due.index(x, "promise 25: no child 2, before what", () -> x.child(2, 8));
        Due.index(x, "promise 25: no child -1", () -> x.child(-1, 0));
        Due.index(x, "promise 25: no child 5", () -> x.child(5, 0));
        Due.argument(x, "promise 25: what 8", () -> x.child(0, 8));
        Due.argument(x, "promise 25: what -1", () -> x.child(0, -1));
        x.leave(0);
        Due.index(x, "promise 25: who left", () -> x.child(0, 0));
    }

    private static void hook() {
        PinnedLeaves x = new PinnedLeaves();
        Due.orders(x, "ga1;gh2;e1;n10h;n12h;p12");
        int[][] due = {{1, 1, 7}, {0, NONE, NONE}, {2, 1, NONE}};
        for (int hook = 0; hook < 3; hook++) {
            for (int what = 0; what < 3; what++) {
                Due.is("promise 26: hook " + hook + ", number " + what, x.hook(1, hook, what), due[hook][what]);
            }
        }
        Due.index(x, "promise 26: no child 2", () -> x.hook(2, 0, 0));
        Due.index(x, "promise 26: no hook 3, before what", () -> x.hook(0, 3, 3));
        Due.index(x, "promise 26: no hook -1", () -> x.hook(1, -1, 0));
        Due.argument(x, "promise 26: what 3", () -> x.hook(0, 0, 3));
        Due.argument(x, "promise 26: what -1", () -> x.hook(0, 0, -1));
    }

    private static void heap() {
        PinnedLeaves x = new PinnedLeaves();
        Due.orders(x, "ga1;gb2;gc3;e0;e1;t0c;t1b;t0a");
        Due.is("promise 27", x.heap(0, 0), 2);
        Due.is("promise 27", x.heap(0, 1), 0);
        Due.is("promise 27: not so many", x.heap(0, 2), NONE);
        Due.is("promise 27: not so many", x.heap(0, 120), NONE);
        Due.is("promise 27: not so many", x.heap(0, Integer.MAX_VALUE), NONE);
        Due.is("promise 27", x.heap(1, 0), 1);
        Due.argument(x, "promise 27: -1", () -> x.heap(0, -1));
        Due.index(x, "promise 27: no child 2, before the place", () -> x.heap(2, -1));
        x.rake(0);
        Due.is("promise 27: raked", x.heap(0, 0), NONE);
    }

    private static void count() {
        PinnedLeaves x = new PinnedLeaves();
        x.come();
        x.leave(1);
        Due.orders(x, "ga1;gb2;gc3;gd4;e2;e0;n00a;p00;n01b;n20c;n21c;b");
        Due.orders(x, "t2a;t2b;t2c;k2;p20;gl9");
        x.look(0, 1);
        int[] due = {5, 2, 2, 1, 5, 2, 1, 2, 1, 2, 1, 6, 1, 1, 3, 5};
        for (int what = 0; what < due.length; what++) {
            Due.is("promise 28: count(" + what + ")", x.count(what), due[what]);
        }
        Due.argument(x, "promise 28: 16", () -> x.count(16));
        Due.argument(x, "promise 28: -1", () -> x.count(-1));
        x.set(1, 1);
        x.rake(2);
        Due.is("promise 28: rakings by the bell count", x.count(10), 2);
        Due.is("promise 28: but look through no hooks", x.count(11), 6);
        x.rest(0);
        Due.is("promise 28: in the yard", x.count(2), 1);
        Due.is("promise 28: pins", x.count(8), 0);
    }

    private static void setting() {
        PinnedLeaves x = new PinnedLeaves();
        x.set(0, 7);
        x.set(1, 1);
        Due.is("promise 29", x.setting(0), 7);
        Due.is("promise 29", x.setting(1), 1);
        Due.index(x, "promise 29: 2", () -> x.setting(2));
        Due.index(x, "promise 29: -1", () -> x.setting(-1));
    }

    private static void why() {
        PinnedLeaves x = new PinnedLeaves();
        Due.orders(x, "ga1;gb2;gc3;e0;e1;n00a;p00;n01b;p01;t1b;t1c;k1");
        Due.is("promise 30: on a branch, though pinned", x.why(0), 1);
        Due.is("promise 30: pinned", x.why(1), 2);
        Due.is("promise 30: burnt", x.why(2), 0);
        x.loosen(0, 1);
        Due.is("promise 30: not raked since", x.why(1), 3);
        x.set(1, 1);
        Due.is("promise 30: by the bell", x.why(1), 2);
        x.ring();
        Due.is("promise 30: one bell", x.why(1), 2);
        Due.orders(x, "z0;z1;b");
        Due.is("promise 30: two bells", x.why(1), 3);
        Due.index(x, "promise 30: no leaf 3", () -> x.why(3));
        Due.index(x, "promise 30: no leaf -1", () -> x.why(-1));
    }
}
