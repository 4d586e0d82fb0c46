/** Promises 1 to 6: a new object, children, the bell. */
public final class ChildrenTest {
    private static final int NONE = PinnedLeaves.NONE;

    public static void main(String[] args) {
        newObject();
        come();
        comeAgain();
        leave();
        leaveTakesHooksAlong();
        enter();
        rest();
        ring();
        Due.end("ChildrenTest");
    }

    private static void newObject() {
        PinnedLeaves x = new PinnedLeaves();
        int[] counts = {3, 2, 0, 0, 0, 0, 0, 0, 0, 0, 0, 0, 0, 0, 0, 0};
        for (int what = 0; what < counts.length; what++) {
            Due.is("promise 1: count(" + what + ")", x.count(what), counts[what]);
        }
        for (int branch = 0; branch < 12; branch++) {
            Due.is("promise 1: branch(" + branch + ")", x.branch(branch), NONE);
        }
        for (int child = 0; child < 2; child++) {
            int[] numbers = {0, NONE, 0, 0, 0, 0, 0, 0};
            for (int what = 0; what < numbers.length; what++) {
                Due.is("promise 1: child " + child + ", " + what, x.child(child, what), numbers[what]);
            }
            for (int hook = 0; hook < 3; hook++) {
                Due.is("promise 1: a hook is empty", x.hook(child, hook, 0), 0);
                Due.is("promise 1: a hook's leaf", x.hook(child, hook, 1), NONE);
                Due.is("promise 1: a hook's branch", x.hook(child, hook, 2), NONE);
            }
            Due.is("promise 1: the heap is empty", x.heap(child, 0), NONE);
        }
        Due.is("promise 1: setting 0", x.setting(0), 4);
        Due.is("promise 1: setting 1", x.setting(1), 0);
        Due.is("promise 1: the buffer is empty", x.clearBuffer(), 0);
        Due.state(x, "promise 1: no snapshot", () -> x.goBack());
        Due.state(x, "promise 1: nothing saved", () -> x.undo());
        Due.index(x, "promise 1: no child 2", () -> x.child(2, 0));
        Due.index(x, "promise 1: no leaf 0", () -> x.leaf(0, 0));
    }

    private static void come() {
        PinnedLeaves x = new PinnedLeaves();
        Due.is("promise 2: the first who comes", x.come(), 2);
        Due.is("promise 2: rests", x.child(2, 0), 0);
        Due.is("promise 2: has no bell", x.child(2, 1), NONE);
        Due.is("promise 2", x.come(), 3);
        Due.is("promise 2", x.come(), 4);
        Due.state(x, "promise 2: five are there", () -> x.come());
        Due.is("promise 2: saved states", x.count(15), 3);
        Due.is("promise 2: undo", x.undo(), 2);
        Due.is("promise 2: mask after undo", x.count(0), 15);
        x.leave(1);
        Due.is("promise 2: the lowest place", x.come(), 1);
        Due.is("promise 2: mask", x.count(0), 15);
        x.leave(0);
        x.leave(2);
        Due.is("promise 2: the lowest of two places", x.come(), 0);
    }

    private static void comeAgain() {
        PinnedLeaves x = new PinnedLeaves();
        Due.orders(x, "e1;ga1;t1a;k1;gb2;n11b;p11;n12b;t1b");
        Due.is("promise 2: burnt before", x.child(1, 6), 1);
        Due.is("promise 3: the heap goes over", x.leave(1), 1);
        Due.is("promise 2: the place is taken again", x.come(), 1);
        int[] numbers = {0, NONE, 0, 0, 0, 0, 0, 0};
        for (int what = 0; what < numbers.length; what++) {
            Due.is("promises 2, 25: numbers begin with 0, " + what, x.child(1, what), numbers[what]);
        }
        for (int hook = 0; hook < 3; hook++) {
            Due.is("promise 2: empty hooks", x.hook(1, hook, 0), 0);
        }
        Due.is("promise 2: an empty heap", x.heap(1, 0), NONE);
    }

    private static void leave() {
        PinnedLeaves x = new PinnedLeaves();
        x.come();
        x.come();
        Due.orders(x, "ga1;gb2;gc3;gd4;ge5;e1;e2;e3");
        Due.orders(x, "t1a;b;z1;z2;z3;b");
        x.enter(2);
        x.enter(3);
        Due.orders(x, "t3b;t2c;t3d");
        Due.index(x, "promise 3: no child 4", () -> x.leave(4));
        Due.index(x, "promise 3: no child -1", () -> x.leave(-1));
        Due.index(x, "promise 3: no child 5", () -> x.leave(5));
        x.set(0, 1);
        Due.is("promise 3: a child without a heap", x.leave(0), 0);
        Due.is("promise 3: two leaves go over", x.leave(3), 2);
        int[] heap = {0, 1, 3, NONE};
        for (int place = 0; place < heap.length; place++) {
            Due.is("promise 3: the end of the lowest child's heap", x.heap(1, place), heap[place]);
        }
        Due.is("promise 3: the bell that was noted stays", x.leaf(1, 3), 2);
        Due.is("promise 3: the bell of the first stays", x.leaf(0, 3), 0);
        Due.is("promise 3: the heap of leaf 3", x.leaf(3, 4), 1);
        Due.is("promise 3: not raked by this", x.count(10), 0);
        Due.is("promise 3: it took none off", x.child(1, 5), 1);
        Due.is("promise 3: leaves aside", x.count(6), 4);
        Due.is("promise 3: mask", x.count(0), 6);
        x.leave(1);
        Due.is("promise 3: behind what was there", x.heap(2, 0), 2);
        Due.is("promise 3: behind what was there", x.heap(2, 1), 0);
        Due.state(x, "promise 3: the only child", () -> x.leave(2));
        Due.index(x, "promise 3: the index goes first", () -> x.leave(1));
        Due.is("promise 3: undo", x.undo(), 5);
        Due.is("promise 3: back on its heap", x.leaf(0, 4), 1);
        Due.is("promise 3: back on its heap", x.heap(1, 2), 3);
    }

    private static void leaveTakesHooksAlong() {
        PinnedLeaves x = new PinnedLeaves();
        Due.orders(x, "ga1;gb2;e0;e1;n00a;p00;n01b;n10a;p10");
        Due.is("promise 3: two hold it", x.leaf(0, 5), 3);
        x.leave(0);
        Due.is("promise 3: one holds it", x.leaf(0, 5), 2);
        Due.is("promise 3: pins", x.count(8), 1);
        Due.is("promise 3: notes", x.count(9), 0);
        Due.is("promise 3: in the yard", x.count(2), 1);
        Due.orders(x, "b");
        Due.is("promise 3: who left is not late", x.late(), 2);
    }

    private static void enter() {
        PinnedLeaves x = new PinnedLeaves();
        x.ring();
        x.ring();
        Due.is("promise 4: the bell", x.enter(1), 2);
        Due.is("promise 4: in the yard", x.child(1, 0), 1);
        Due.is("promise 4: its bell", x.child(1, 1), 2);
        Due.is("promise 4: the other rests", x.child(0, 0), 0);
        Due.state(x, "promise 4: it is in the yard", () -> x.enter(1));
        Due.index(x, "promise 4: no child 2", () -> x.enter(2));
        Due.index(x, "promise 4: no child -1", () -> x.enter(-1));
        x.ring();
        Due.is("promise 4: its bell stays", x.child(1, 1), 2);
        x.rest(1);
        Due.is("promise 4: anew", x.enter(1), 3);
        Due.is("promise 4: undo", x.undo(), 5);
        Due.is("promise 4: it rests", x.child(1, 1), NONE);
    }

    private static void rest() {
        PinnedLeaves x = new PinnedLeaves();
        Due.orders(x, "ga1;e0;e1;n00a;p00;n01a;n02a;p02;n10a");
        Due.index(x, "promise 5: no child 2", () -> x.rest(2));
        Due.index(x, "promise 5: no child -7", () -> x.rest(-7));
        Due.is("promise 5: pins, not notes", x.rest(0), 2);
        for (int hook = 0; hook < 3; hook++) {
            Due.is("promise 5: empty", x.hook(0, hook, 0), 0);
            Due.is("promise 5: empty", x.hook(0, hook, 1), NONE);
            Due.is("promise 5: empty", x.hook(0, hook, 2), NONE);
        }
        Due.is("promise 5: the other's hook stays", x.hook(1, 0, 0), 1);
        Due.is("promise 5: its bell", x.child(0, 1), NONE);
        Due.state(x, "promise 5: it rests", () -> x.rest(0));
        Due.is("promise 5: undo", x.undo(), 1);
        Due.is("promise 5: the pin is back", x.hook(0, 2, 0), 2);
        Due.is("promise 5: a note alone", x.rest(1), 0);
    }

    private static void ring() {
        PinnedLeaves x = new PinnedLeaves();
        Due.is("promise 6: nobody is in the yard", x.ring(), 1);
        x.enter(0);
        Due.is("promise 6: it came in at the bell of now", x.ring(), 2);
        Due.state(x, "promise 6: child 0 is late", () -> x.ring());
        x.enter(1);
        Due.state(x, "promise 6: still late", () -> x.ring());
        x.rest(0);
        Due.is("promise 6: child 1 came in at 2", x.ring(), 3);
        Due.is("promise 6: undo", x.undo(), 5);
        Due.is("promise 6: the bell is back", x.count(3), 2);
    }
}
