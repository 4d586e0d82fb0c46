/** Promises 20 to 22, and what is undoable. */
public final class UndoTest {
    public static void main(String[] args) {
        keepAndGoBack();
        snapshotStays();
        undo();
        regrownLeaf();
        onlyUndoableCallsSave();
        savesThoughNothingChanges();
        Due.end("UndoTest");
    }

    private static PinnedLeaves begun() {
        PinnedLeaves x = new PinnedLeaves();
        Due.orders(x, "ga1;gb2;gc3;gd4;e0;e1;n00a;p00;n01b;t1a;t1b;k1;b");
        return x;
    }

    private static void keepAndGoBack() {
        PinnedLeaves x = begun();
        Due.state(x, "promise 21: no snapshot", () -> x.goBack());
        Due.is("promise 20: the bell", x.keep(), 1);
        Due.is("promise 20: not undoable", x.count(15), 1);
        long then = x.digest();
        Due.orders(x, "z0;z1;b;e1;k1;t1c");
        x.set(0, 9);
        x.come();
        Due.is("promise 21: the bell then", x.goBack(), 1);
        Due.is("promise 21: undoable", x.count(15), 5);
        Due.is("promise 21: heap", x.heap(1, 0), 0);
        Due.is("promise 21: the setting", x.setting(0), 4);
        Due.is("promise 21: rakings", x.count(10), 1);
        Due.is("promise 22: behind goBack", x.undo(), 4);
        Due.is("promise 22: behind goBack", x.setting(0), 9);
        Due.is("promise 22: behind goBack", x.count(1), 3);
        for (int left = 3; left >= 1; left--) {
            Due.is("promise 22: left", x.undo(), left);
        }
        Due.is("promise 21: all is as it was", x.digest(), then);
    }

    private static void snapshotStays() {
        PinnedLeaves x = new PinnedLeaves();
        x.keep();
        x.ring();
        x.goBack();
        Due.is("promise 21: back", x.count(3), 0);
        x.ring();
        x.ring();
        Due.is("promise 21: the snapshot stays", x.goBack(), 0);
        x.undo();
        Due.is("promise 22: undo", x.count(3), 2);
        Due.is("promise 20: in place of the one that was", x.keep(), 2);
        x.ring();
        Due.is("promise 21: to the new one", x.goBack(), 2);
        for (int left = x.count(15); left > 0; left--) {
            x.undo();
        }
        Due.is("promise 22: the snapshot is not undone", x.goBack(), 2);
        Due.write(x, "b;b");
        x.goBack();
        x.undo();
        Due.is("promises 21, 22: the buffer stays", x.clearBuffer(), 3);
    }

    private static void undo() {
        PinnedLeaves x = new PinnedLeaves();
        Due.state(x, "promise 22: none", () -> x.undo());
        long[] digests = new long[9];
        for (int bell = 0; bell < 9; bell++) {
            digests[bell] = stateOf(x);
            x.ring();
        }
        Due.is("promise 22: at most 6", x.count(15), 6);
        for (int left = 5; left >= 0; left--) {
            Due.is("promise 22: left", x.undo(), left);
            Due.is("promise 22: the state", stateOf(x), digests[left + 3]);
            Due.is("promise 22: the bell", x.count(3), left + 3);
        }
        Due.state(x, "promise 22: the oldest ones were dropped", () -> x.undo());
        x.ring();
        Due.is("promise 22: saved again", x.undo(), 0);
        allIsRestored();
    }

    private static long stateOf(PinnedLeaves x) {
        long hash = 0;
        for (int what = 0; what < 15; what++) {
            hash = hash * 31 + x.count(what);
        }
        return hash;
    }

    private static void allIsRestored() {
        PinnedLeaves x = begun();
        long before = x.digest();
        Due.orders(x, "x00;z0;z1;k1;b;e0;e1;gh7;n02h;w0h1;p02;n02h;p02;t0d");
        x.undo();
        x.set(0, 4);
        Due.is("promise 22: saved states", x.count(15), 2);
        x.undo();
        Due.is("promise 22: all is as it was", x.digest(), before);
    }

    /** The number of a leaf is given again behind undo; the snapshot knows the leaf that had it first. */
    private static void regrownLeaf() {
        PinnedLeaves x = new PinnedLeaves();
        x.grow(0, 5);
        x.keep();
        x.undo();
        x.grow(1, 7);
        x.goBack();
        Due.is("promise 21: colour", x.leaf(0, 0), 5);
        Due.is("promise 21: branch", x.leaf(0, 2), 0);
        Due.is("promise 21: branch", x.branch(1), -1);
        x.undo();
        Due.is("promise 22: colour", x.leaf(0, 0), 7);
        Due.is("promise 22: branch", x.leaf(0, 2), 1);
        x.set(1, 1);
        x.goBack();
        Due.is("promise 21: setting 1", x.setting(1), 0);
        x.undo();
        Due.is("promise 22: setting 1", x.setting(1), 1);
        x.undo();
        Due.is("promise 22: setting 1", x.setting(1), 0);
    }

    private static void saves(String what, PinnedLeaves x, Due.Call call) {
        int before = x.count(15);
        call.run();
        Due.is("saved by " + what, x.count(15) - before, 1);
        x.undo();
    }

    private static void onlyUndoableCallsSave() {
        PinnedLeaves x = begun();
        x.keep();
        saves("come", x, () -> x.come());
        saves("leave", x, () -> x.leave(0));
        saves("rest", x, () -> x.rest(0));
        saves("grow", x, () -> x.grow(7, 1));
        saves("note", x, () -> x.note(0, 2, 2));
        saves("pin", x, () -> x.pin(0, 1));
        saves("loosen", x, () -> x.loosen(0, 1));
        saves("look", x, () -> x.look(0, 1));
        saves("take", x, () -> x.take(0, 2));
        saves("swap", x, () -> x.swap(0, 2, 2));
        saves("rake", x, () -> x.rake(1));
        saves("set", x, () -> x.set(0, 2));
        saves("goBack", x, () -> x.goBack());
        PinnedLeaves y = new PinnedLeaves();
        saves("enter", y, () -> y.enter(0));
        saves("ring", y, () -> y.ring());
        Due.write(y, "b");
        saves("obey", y, () -> y.obey());
        looksSaveNothing();
    }

    private static void looksSaveNothing() {
        PinnedLeaves x = begun();
        Due.write(x, "b;");
        long before = x.digest();
        x.firstError();
        x.branch(0);
        x.leaf(0, 5);
        x.child(0, 2);
        x.hook(0, 0, 0);
        x.heap(1, 0);
        x.count(6);
        x.setting(0);
        x.why(0);
        x.ifRaked(1, 0);
        x.bestRake();
        x.ifLoosened(0, 0);
        x.late();
        x.ifRested(0);
        x.ifAllRested();
        x.mostHeld();
        x.burntShare();
        x.fullness();
        Due.is("looks change nothing", x.digest(), before);
    }

    private static void savesThoughNothingChanges() {
        PinnedLeaves x = new PinnedLeaves();
        x.set(0, 4);
        Due.is("saved though nothing changes", x.count(15), 1);
        x.keep();
        x.goBack();
        Due.is("saved though nothing changes", x.count(15), 2);
        Due.orders(x, "ga1;e0;n00a");
        x.look(0, 0);
        Due.is("saved though nothing changes", x.count(15), 4);
    }
}
