/** Promises 7 to 15: leaves and hooks. */
public final class LeavesTest {
    private static final int NONE = PinnedLeaves.NONE;

    public static void main(String[] args) {
        grow();
        growAll();
        note();
        pin();
        loosen();
        look();
        take();
        takeByBell();
        swap();
        rake();
        set();
        Due.end("LeavesTest");
    }

    private static void grow() {
        PinnedLeaves x = new PinnedLeaves();
        Due.is("promise 7: the first leaf", x.grow(11, 9), 0);
        Due.is("promise 7: the second leaf", x.grow(0, 0), 1);
        Due.is("promise 7: branch 11", x.branch(11), 0);
        Due.is("promise 7: branch 0", x.branch(0), 1);
        Due.is("promise 7: colour", x.leaf(0, 0), 9);
        Due.is("promise 7: on a branch", x.leaf(0, 1), 0);
        Due.is("promise 7: its branch", x.leaf(0, 2), 11);
        Due.state(x, "promise 7: there is a leaf", () -> x.grow(11, 1));
        Due.argument(x, "promise 7: colour 10, before the state", () -> x.grow(11, 10));
        Due.argument(x, "promise 7: colour -1", () -> x.grow(5, -1));
        Due.index(x, "promise 7: branch 12, before the colour", () -> x.grow(12, 10));
        Due.index(x, "promise 7: branch -1", () -> x.grow(-1, 0));
        Due.is("promise 7: undo", x.undo(), 1);
        Due.is("promise 7: the branch is bare", x.branch(0), NONE);
        Due.is("promise 7: its number is given again", x.grow(3, 3), 1);
    }

    private static void growAll() {
        PinnedLeaves x = new PinnedLeaves();
        x.enter(0);
        x.set(0, 1);
        x.grow(2, 1);
        for (int leaf = 1; leaf < 119; leaf++) {
            Due.is("promises 7, 13: number", x.swap(0, 2, leaf % 10), leaf);
        }
        Due.is("promise 7: the last one", x.grow(0, 5), 119);
        Due.state(x, "promise 7: 120 grew", () -> x.grow(1, 5));
        Due.state(x, "promise 13: 120 grew", () -> x.swap(0, 2, 5));
        Due.is("promise 7: count", x.count(4), 120);
        Due.write(x, "ga0");
        x.take(0, 0);
        Due.is("promise 19: 120 grew", x.obey(), 0);
        Due.write(x, "w0c1");
        Due.is("promise 19: 120 grew", x.obey(), 0);
        Due.is("promise 12: taking goes on", x.take(0, 2), 1);
        Due.is("promise 23: bare", x.branch(2), NONE);
        Due.is("promise 24: all burnt", x.count(7), 120);
    }

    private static void note() {
        PinnedLeaves x = new PinnedLeaves();
        x.grow(4, 7);
        Due.state(x, "promise 8: it rests", () -> x.note(0, 0, 4));
        x.enter(0);
        Due.state(x, "promise 8: no leaf", () -> x.note(0, 0, 5));
        Due.is("promise 8: the leaf", x.note(0, 2, 4), 0);
        Due.is("promise 8: a note", x.hook(0, 2, 0), 1);
        Due.is("promise 8: of the leaf", x.hook(0, 2, 1), 0);
        Due.is("promise 8: of the branch", x.hook(0, 2, 2), 4);
        Due.state(x, "promise 8: there is a note", () -> x.note(0, 2, 4));
        x.pin(0, 2);
        Due.state(x, "promise 8: there is a pin", () -> x.note(0, 2, 4));
        Due.index(x, "promise 8: no hook 3", () -> x.note(0, 3, 4));
        Due.index(x, "promise 8: no hook -1", () -> x.note(0, -1, 4));
        Due.index(x, "promise 8: no child 2", () -> x.note(2, 0, 4));
        Due.index(x, "promise 8: no branch 12", () -> x.note(0, 0, 12));
        Due.index(x, "promise 8: no branch -1, though child 1 rests", () -> x.note(1, 0, -1));
        x.note(0, 0, 4);
        Due.is("promise 8: undo", x.undo(), 4);
        Due.is("promise 8: empty again", x.hook(0, 0, 0), 0);
    }

    private static void pin() {
        PinnedLeaves x = new PinnedLeaves();
        Due.orders(x, "ga1;gb2;e0;e1;n00a;n01b;n02a");
        Due.is("promise 9: it pins", x.pin(0, 0), 1);
        Due.is("promise 9: a pin", x.hook(0, 0, 0), 2);
        Due.is("promise 9: of the leaf", x.hook(0, 0, 1), 0);
        Due.is("promise 9: without a note", x.hook(0, 0, 2), NONE);
        Due.state(x, "promise 9: there is a pin", () -> x.pin(0, 0));
        Due.state(x, "promise 9: empty", () -> x.pin(1, 0));
        Due.index(x, "promise 9: no child 3", () -> x.pin(3, 0));
        Due.index(x, "promise 9: no hook 3", () -> x.pin(0, 3));
        Due.index(x, "promise 9: no hook -1", () -> x.pin(1, -1));
        x.take(1, 1);
        Due.is("promise 9: the leaf is aside", x.pin(0, 1), 0);
        Due.is("promise 9: the hook is empty", x.hook(0, 1, 0), 0);
        Due.is("promise 9: counted", x.count(12), 1);
        x.swap(1, 0, 3);
        Due.is("promise 9: another leaf is there", x.pin(0, 2), 0);
        Due.is("promise 9: counted", x.count(12), 2);
        Due.is("promise 9: undo", x.undo(), 5);
        Due.is("promise 9: the note is back", x.hook(0, 2, 2), 0);
        Due.is("promise 9: the count is back", x.count(12), 1);
    }

    private static void loosen() {
        PinnedLeaves x = new PinnedLeaves();
        Due.orders(x, "ga1;gb2;e0;n00b;n01a;p01");
        Due.is("promise 10: a note", x.loosen(0, 0), 1);
        Due.is("promise 10: a pin", x.loosen(0, 1), 0);
        for (int hook = 0; hook < 2; hook++) {
            for (int what = 0; what < 3; what++) {
                Due.is("promise 10: empty", x.hook(0, hook, what), what == 0 ? 0 : NONE);
            }
        }
        Due.state(x, "promise 10: it is empty", () -> x.loosen(0, 0));
        Due.state(x, "promise 10: it is empty, the child rests", () -> x.loosen(1, 2));
        Due.index(x, "promise 10: no child 2", () -> x.loosen(2, 0));
        Due.index(x, "promise 10: no hook 3", () -> x.loosen(0, 3));
        Due.index(x, "promise 10: no hook -1", () -> x.loosen(1, -1));
        Due.is("promise 10: undo", x.undo(), 2);
        Due.is("promise 10: the pin is back", x.hook(0, 1, 0), 2);
    }

    private static void look() {
        PinnedLeaves x = new PinnedLeaves();
        Due.orders(x, "ga8;e0;e1;n00a;n01a;p01");
        Due.is("promise 11: through a note", x.look(0, 0), 8);
        Due.is("promise 11: through a pin", x.look(0, 1), 8);
        Due.state(x, "promise 11: empty", () -> x.look(0, 2));
        Due.index(x, "promise 11: no child 2", () -> x.look(2, 0));
        Due.index(x, "promise 11: no hook 3", () -> x.look(0, 3));
        Due.index(x, "promise 11: no hook -1", () -> x.look(1, -1));
        x.take(1, 0);
        Due.is("promise 11: aside, through a note", x.look(0, 0), 8);
        Due.is("promise 11: no danger yet", x.count(13), 0);
        Due.is("promise 11: undo", x.undo(), 4);
        Due.is("promise 11: the hook stays", x.hook(0, 0, 0), 1);
        lookAtBurntLeaf();
    }

    private static void lookAtBurntLeaf() {
        PinnedLeaves x = new PinnedLeaves();
        Due.orders(x, "ga8;e0;n00a;e1;t1a;k1");
        Due.is("promise 11: a danger", x.look(0, 0), NONE);
        Due.is("promise 11: counted", x.count(13), 1);
        Due.is("promise 11: the note stays", x.hook(0, 0, 0), 1);
        Due.is("promise 11: again", x.look(0, 0), NONE);
        Due.is("promise 11: counted", x.count(13), 2);
        Due.is("promise 11: undo", x.undo(), 2);
        Due.is("promise 11: the count is back", x.count(13), 1);
    }

    private static void take() {
        PinnedLeaves x = new PinnedLeaves();
        Due.orders(x, "ga1;gb2;gc3;gd4;ge5;e0;e1;n10b;p10;n11c");
        Due.index(x, "promise 12: no child 2", () -> x.take(2, 0));
        Due.index(x, "promise 12: no branch 12", () -> x.take(0, 12));
        Due.index(x, "promise 12: no branch -1", () -> x.take(0, -1));
        Due.state(x, "promise 12: no leaf", () -> x.take(0, 9));
        Due.is("promise 12", x.take(0, 2), 0);
        Due.is("promise 12: bare", x.branch(2), NONE);
        Due.is("promise 12: aside", x.leaf(2, 1), 1);
        Due.is("promise 12: on whose heap", x.leaf(2, 4), 0);
        Due.is("promise 12: its branch stays", x.leaf(2, 2), 2);
        Due.is("promise 12", x.take(0, 1), 0);
        Due.is("promise 12: three are not enough", x.take(0, 0), 0);
        Due.is("promise 12: counted", x.child(0, 5), 3);
        Due.is("promise 12: most aside", x.count(14), 3);
        Due.is("promise 12: raked with four, the pinned one stays", x.take(0, 4), 3);
        Due.is("promise 12: the pinned one", x.heap(0, 0), 1);
        Due.is("promise 12: the pinned one", x.heap(0, 1), NONE);
        Due.is("promise 12: a note does not hold", x.leaf(2, 1), 2);
        Due.is("promise 12: raked at once, so not more aside", x.count(14), 3);
        Due.is("promise 12: hooks looked through", x.count(11), 6);
        Due.is("promise 12: rakings", x.child(0, 7), 1);
        x.rest(0);
        Due.state(x, "promise 12: it rests", () -> x.take(0, 3));
        x.set(0, 1);
        Due.is("promise 12: raked with one", x.take(1, 3), 1);
        Due.is("promise 12: undo", x.undo(), 5);
        Due.is("promise 12: back on the branch", x.branch(3), 3);
        Due.is("promise 12: back on the branch", x.leaf(3, 3), NONE);
    }

    private static void takeByBell() {
        PinnedLeaves x = new PinnedLeaves();
        x.set(1, 1);
        x.set(0, 3);
        Due.orders(x, "ga1;gb2;gc3;gd4;e0;t0a;b;z0;e0;b");
        Due.is("promise 12: noted bell", x.leaf(0, 3), 0);
        Due.orders(x, "t0b;z0;e0");
        Due.is("promise 12: noted bell", x.leaf(1, 3), 2);
        Due.is("promise 12: burnt, two bells after", x.take(0, 2), 1);
        Due.is("promise 12: heap", x.heap(0, 0), 1);
        Due.is("promise 12: heap", x.heap(0, 1), 2);
        x.ring();
        Due.is("promise 12: one bell is too few", x.take(0, 3), 0);
        Due.is("promise 12: raked, though none was burnt", x.child(0, 7), 2);
        Due.is("promise 12: no hooks looked through", x.count(11), 0);
        Due.is("promise 12: heap is longer than setting 0", x.child(0, 4), 3);
    }

    private static void swap() {
        PinnedLeaves x = new PinnedLeaves();
        Due.orders(x, "ga1;e0;n00a;e1");
        Due.is("promise 13: the new leaf", x.swap(1, 0, 9), 1);
        Due.is("promise 13: on the branch", x.branch(0), 1);
        Due.is("promise 13: colour", x.leaf(1, 0), 9);
        Due.is("promise 13: the old one is aside", x.leaf(0, 1), 1);
        Due.is("promise 13: the old one keeps its colour", x.leaf(0, 0), 1);
        Due.is("promise 13: on its heap", x.heap(1, 0), 0);
        Due.is("promise 13: counted", x.child(1, 5), 1);
        Due.index(x, "promise 13: no child 2", () -> x.swap(2, 0, 10));
        Due.index(x, "promise 13: no branch 12, before the colour", () -> x.swap(1, 12, 10));
        Due.index(x, "promise 13: no branch -1", () -> x.swap(1, -1, 0));
        Due.argument(x, "promise 13: colour 10, before the state", () -> x.swap(1, 5, 10));
        Due.argument(x, "promise 13: colour -1", () -> x.swap(1, 0, -1));
        Due.state(x, "promise 13: no leaf", () -> x.swap(1, 5, 0));
        x.set(0, 2);
        x.swap(1, 0, 0);
        Due.is("promise 13: raked at once", x.count(7), 2);
        Due.is("promise 13: most aside", x.count(14), 1);
        Due.is("promise 13: undo", x.undo(), 3);
        Due.is("promise 13: back", x.branch(0), 1);
        Due.is("promise 13: back", x.count(4), 2);
        x.rest(1);
        Due.state(x, "promise 13: it rests", () -> x.swap(1, 0, 0));
    }

    private static void rake() {
        PinnedLeaves x = new PinnedLeaves();
        x.come();
        Due.orders(x, "ga1;gb2;gc3;e0;e1;n10b;p10;t0a;t0b;t0c");
        Due.index(x, "promise 14: no child 3", () -> x.rake(3));
        Due.index(x, "promise 14: no child -1", () -> x.rake(-1));
        Due.state(x, "promise 14: an empty heap", () -> x.rake(1));
        x.rest(0);
        Due.is("promise 14: of one who rests", x.rake(0), 2);
        Due.is("promise 14: the pinned one stays", x.heap(0, 0), 1);
        Due.is("promise 14: leaf 0 is burnt", x.leaf(0, 1), 2);
        Due.is("promise 14: on no heap", x.leaf(0, 4), NONE);
        Due.is("promise 14: all hooks of three children", x.count(11), 9);
        Due.is("promise 14: rakings", x.count(10), 1);
        Due.is("promise 14: burnt of the heap", x.child(0, 6), 2);
        Due.is("promise 14: rakings of the heap", x.child(0, 7), 1);
        Due.is("promise 14: again", x.rake(0), 0);
        Due.is("promise 14: rakings", x.count(10), 2);
        Due.is("promise 14: undo", x.undo(), 4);
        x.undo();
        Due.is("promise 14: undo", x.count(7), 0);
        Due.is("promise 14: undo", x.heap(0, 2), 2);
        rakeByBell();
    }

    private static void rakeByBell() {
        PinnedLeaves x = new PinnedLeaves();
        x.set(1, 1);
        Due.orders(x, "ga1;gb2;e0;e1;t0a;b;t0b");
        Due.is("promise 14: one bell is too few", x.rake(0), 0);
        Due.orders(x, "z0;z1;b");
        Due.is("promise 14: two bells for the first, one for the second", x.rake(0), 1);
        Due.is("promise 14: the second stays", x.heap(0, 0), 1);
        x.ring();
        Due.is("promise 14: two bells for the second", x.rake(0), 1);
        Due.is("promise 14: no hooks looked through", x.count(11), 0);
        Due.is("promise 14: rakings", x.count(10), 3);
    }

    private static void set() {
        PinnedLeaves x = new PinnedLeaves();
        Due.is("promise 15: previous", x.set(0, 20), 4);
        Due.is("promise 15: previous", x.set(0, 1), 20);
        Due.is("promise 15: now", x.setting(0), 1);
        Due.is("promise 15: previous", x.set(1, 1), 0);
        Due.is("promise 15: previous", x.set(1, 0), 1);
        Due.argument(x, "promise 15: 0", () -> x.set(0, 0));
        Due.argument(x, "promise 15: 21", () -> x.set(0, 21));
        Due.argument(x, "promise 15: -1", () -> x.set(1, -1));
        Due.argument(x, "promise 15: 2", () -> x.set(1, 2));
        Due.index(x, "promise 15: no setting 2", () -> x.set(2, 99));
        Due.index(x, "promise 15: no setting -1", () -> x.set(-1, 1));
        x.set(0, 4);
        Due.orders(x, "ga1;gb2;e0;t0a;t0b");
        x.set(0, 2);
        Due.is("promise 15: no heap is raked by that", x.count(6), 2);
        Due.is("promise 15: undo", x.undo(), 5);
        Due.is("promise 15: undo", x.setting(0), 4);
    }
}
