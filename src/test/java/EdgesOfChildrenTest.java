/** The sentences of promises 1 to 6 that name a boundary case, each with a test of its own. */
public final class EdgesOfChildrenTest {
    private static final int NONE = PinnedLeaves.NONE;

    public static void main(String[] args) {
        newObject();
        come();
        leave();
        enter();
        rest();
        ring();
        Due.end("EdgesOfChildrenTest");
    }

    private static void newObject() {
        Due.sentence("Promise 1", "Creates a yard without leaves", EdgesOfChildrenTest::withoutLeaves);
        Due.sentence("Promise 1", "with the children 0 and 1, who rest", EdgesOfChildrenTest::twoWhoRest);
        Due.sentence("Promise 1", "with an empty buffer", EdgesOfChildrenTest::emptyBuffer);
        Due.sentence("Promise 1", "and no snapshot.", EdgesOfChildrenTest::noSnapshot);
        Due.sentence("Promise 1", "Creates a yard", EdgesOfChildrenTest::ownYard);
    }

    private static void come() {
        Due.sentence("Promise 2", "Lets a child come, at the lowest place without one",
                EdgesOfChildrenTest::lowestPlace);
        Due.sentence("Promise 2", "it rests, with empty hooks and an empty heap.", EdgesOfChildrenTest::comesEmpty);
        Due.sentence("Promise 2", "Undoable.", EdgesOfChildrenTest::comeUndone);
        Due.sentence("Promise 2", "Returns its number.", EdgesOfChildrenTest::comersNumber);
        Due.sentence("Promise 2", "Throws `IllegalStateException` if there are 5",
                EdgesOfChildrenTest::fiveAreThere);
    }

    private static void leave() {
        Due.sentence("Promise 3", "Its hooks are gone;", EdgesOfChildrenTest::hooksAreGone);
        Due.sentence("Promise 3", "the leaves of its heap come onto the end of the heap",
                EdgesOfChildrenTest::ontoTheEndInOrder);
        Due.sentence("Promise 3", "of the child with the lowest number of those who are left",
                EdgesOfChildrenTest::lowestOfThoseLeft);
        Due.sentence("Promise 3", "with the bells that were noted for them.", EdgesOfChildrenTest::bellsComeAlong);
        Due.sentence("Promise 3", "(That heap is not raked by this.)", EdgesOfChildrenTest::heapIsNotRaked);
        Due.sentence("Promise 3", "Undoable.", EdgesOfChildrenTest::leaveUndone);
        Due.sentence("Promise 3", "Returns how many leaves come onto the other heap.",
                EdgesOfChildrenTest::howManyComeOver);
        Due.sentence("Promise 3", "Throws `IndexOutOfBoundsException` if there is no such child",
                EdgesOfChildrenTest::noSuchChildLeaves);
        Due.sentence("Promise 3", "Throws `IllegalStateException` if there is only one child",
                EdgesOfChildrenTest::onlyOneChild);
    }

    private static void enter() {
        Due.sentence("Promise 4", "Lets a child go into the yard.", EdgesOfChildrenTest::goesIn);
        Due.sentence("Promise 4", "Undoable.", EdgesOfChildrenTest::enterUndone);
        Due.sentence("Promise 4", "Returns the number of the bell.", EdgesOfChildrenTest::enterTellsTheBell);
        Due.sentence("Promise 4", "Throws `IndexOutOfBoundsException` if there is no such child",
                EdgesOfChildrenTest::noSuchChildEnters);
        Due.sentence("Promise 4", "Throws `IllegalStateException` if it is in the yard",
                EdgesOfChildrenTest::isInTheYard);
    }

    private static void rest() {
        Due.sentence("Promise 5", "Lets a child rest; its hooks become empty.", EdgesOfChildrenTest::hooksBecomeEmpty);
        Due.sentence("Promise 5", "Undoable.", EdgesOfChildrenTest::restUndone);
        Due.sentence("Promise 5", "Returns how many of its hooks pinned a leaf.", EdgesOfChildrenTest::hooksThatPinned);
        Due.sentence("Promise 5", "Throws `IndexOutOfBoundsException` if there is no such child",
                EdgesOfChildrenTest::noSuchChildRests);
        Due.sentence("Promise 5", "Throws `IllegalStateException` if it rests", EdgesOfChildrenTest::restsAlready);
    }

    private static void ring() {
        Due.sentence("Promise 6", "Lets the bell ring.", EdgesOfChildrenTest::bellRings);
        Due.sentence("Promise 6", "Undoable.", EdgesOfChildrenTest::ringUndone);
        Due.sentence("Promise 6", "Returns its number then.", EdgesOfChildrenTest::numberThen);
        Due.sentence("Promise 6", "Throws `IllegalStateException` if it cannot ring",
                EdgesOfChildrenTest::cannotRing);
    }

    // ---- promise 1

    private static void withoutLeaves() {
        PinnedLeaves x = new PinnedLeaves();
        for (int what = 4; what <= 7; what++) {
            Due.is("count(" + what + ")", x.count(what), 0);
        }
        Due.indexOutside(x, "leaf", 0, -1, leaf -> x.leaf(leaf, 0));
        Due.index(x, "why(0)", () -> x.why(0));
    }

    private static void twoWhoRest() {
        PinnedLeaves x = new PinnedLeaves();
        Due.is("the places", x.count(0), 3);
        for (int child = 0; child < 2; child++) {
            int[] due = {0, NONE, 0, 0, 0, 0, 0, 0};
            for (int what = 0; what < due.length; what++) {
                Due.is("child(" + child + ", " + what + ")", x.child(child, what), due[what]);
            }
        }
    }

    private static void emptyBuffer() {
        PinnedLeaves x = new PinnedLeaves();
        Due.is("firstError", x.firstError(), 0);
        Due.argument(x, "obey", () -> x.obey());
        Due.is("clearBuffer", x.clearBuffer(), 0);
        Due.is("append", x.append('b'), 1);
    }

    private static void noSnapshot() {
        PinnedLeaves x = new PinnedLeaves();
        Due.state(x, "goBack", () -> x.goBack());
        Due.state(x, "undo", () -> x.undo());
        Due.is("saved states", x.count(15), 0);
        Due.is("keep", x.keep(), 0);
        Due.is("goBack", x.goBack(), 0);
    }

    private static void ownYard() {
        PinnedLeaves x = new PinnedLeaves();
        PinnedLeaves y = new PinnedLeaves();
        long before = y.digest();
        Due.orders(x, "ga1;e0;n00a;p00;t0a;k0;b");
        x.keep();
        x.set(0, 1);
        x.append('b');
        Due.is("another object is as it was", y.digest(), before);
        Due.is("a later one is the same", new PinnedLeaves().digest(), before);
    }

    // ---- promise 2

    private static void lowestPlace() {
        PinnedLeaves x = new PinnedLeaves();
        x.leave(0);
        Due.is("the lowest of four", x.come(), 0);
        x.come();
        x.come();
        x.come();
        x.leave(3);
        x.leave(1);
        Due.is("the lowest of two, between others", x.come(), 1);
        Due.is("the other one", x.come(), 3);
        x.leave(4);
        Due.is("the last place", x.come(), 4);
    }

    private static void comesEmpty() {
        PinnedLeaves x = new PinnedLeaves();
        Due.orders(x, "ga1;gb2;gc3;e1;t1a;k1;n10b;n11b;p11;t1b;t1c");
        x.leave(1);
        Due.is("the place of one who left", x.come(), 1);
        int[] due = {0, NONE, 0, 0, 0, 0, 0, 0};
        for (int what = 0; what < due.length; what++) {
            Due.is("child(1, " + what + ")", x.child(1, what), due[what]);
        }
        for (int hook = 0; hook < 3; hook++) {
            Due.is("its hook " + hook, x.hook(1, hook, 0), 0);
            Due.is("its hook's leaf", x.hook(1, hook, 1), NONE);
            Due.is("its hook's branch", x.hook(1, hook, 2), NONE);
        }
        Due.is("its heap", x.heap(1, 0), NONE);
        Due.state(x, "it rests", () -> x.rest(1));
        Due.is("it goes in", x.enter(1), 0);
    }

    private static void comeUndone() {
        PinnedLeaves x = new PinnedLeaves();
        Due.undoable(x, "come", () -> x.come());
        Due.index(x, "it is not there any more", () -> x.child(2, 0));
    }

    private static void comersNumber() {
        PinnedLeaves x = new PinnedLeaves();
        for (int child = 2; child < 5; child++) {
            Due.is("its number", x.come(), child);
            Due.is("how many", x.count(1), child + 1);
            Due.is("the places", x.count(0), (2 << child) - 1);
        }
    }

    private static void fiveAreThere() {
        PinnedLeaves x = new PinnedLeaves();
        x.come();
        x.come();
        Due.is("four are there", x.come(), 4);
        Due.state(x, "five are there", () -> x.come());
        x.leave(2);
        Due.is("four are there again", x.come(), 2);
        Due.state(x, "five are there again", () -> x.come());
    }

    // ---- promise 3

    private static void hooksAreGone() {
        PinnedLeaves x = new PinnedLeaves();
        x.come();
        Due.orders(x, "ga1;gb2;e0;e2;n00a;p00;n01b;n02b;n20b;n21a;p21");
        x.leave(0);
        Due.is("pins", x.count(8), 1);
        Due.is("notes", x.count(9), 1);
        Due.is("who holds leaf 0", x.leaf(0, 5), 4);
        Due.is("hooks that pin leaf 0", x.leaf(0, 6), 1);
        Due.is("hooks with a note of leaf 1", x.leaf(1, 7), 1);
        x.come();
        x.enter(0);
        Due.is("empty when one comes again", x.note(0, 0, 0), 0);
    }

    private static void ontoTheEndInOrder() {
        PinnedLeaves x = new PinnedLeaves();
        x.set(0, 20);
        Due.orders(x, "ga1;gb2;gc3;gd4;ge5;gf6;e0;e1;t0f;t0c;t1e;t1a;t1d");
        Due.is("three come", x.leave(1), 3);
        int[] heap = {5, 2, 4, 0, 3, NONE};
        for (int place = 0; place < heap.length; place++) {
            Due.is("place " + place, x.heap(0, place), heap[place]);
        }
        for (int place = 0; place < 5; place++) {
            Due.is("the child on whose heap it is", x.leaf(heap[place], 4), 0);
        }
        Due.orders(x, "t0b");
        Due.is("the next one comes behind them", x.heap(0, 5), 1);
    }

    private static void lowestOfThoseLeft() {
        PinnedLeaves x = new PinnedLeaves();
        x.come();
        x.come();
        Due.orders(x, "ga1;gb2;gc3;e0;e3;t0a;t3b");
        x.leave(0);
        Due.is("not the lowest place, but the lowest child", x.leaf(0, 4), 1);
        x.leave(3);
        Due.is("a lower one than who leaves", x.leaf(1, 4), 1);
        x.leave(1);
        Due.is("a higher one than who leaves", x.leaf(0, 4), 2);
        Due.is("both of them", x.child(2, 4), 2);
        x.come();
        Due.is("nothing comes back", x.child(0, 4), 0);
        PinnedLeaves y = new PinnedLeaves();
        y.come();
        y.come();
        y.come();
        Due.orders(y, "ga1;e2;t2a");
        y.leave(0);
        y.leave(1);
        y.leave(2);
        Due.is("of 3 and 4", y.leaf(0, 4), 3);
        y.leave(3);
        Due.is("4 alone", y.leaf(0, 4), 4);
    }

    private static void bellsComeAlong() {
        PinnedLeaves x = new PinnedLeaves();
        x.set(1, 1);
        Due.orders(x, "ga1;gb2;gc3;e1;t1a;b;t1b;z1;b;e0;t0c");
        x.leave(1);
        int[] bells = {0, 1, 2};
        for (int leaf = 0; leaf < 3; leaf++) {
            Due.is("the bell of leaf " + leaf, x.leaf(leaf, 3), bells[leaf]);
        }
        Due.is("burnt by them", x.rake(0), 1);
        Due.is("leaf 0", x.leaf(0, 1), 2);
    }

    private static void heapIsNotRaked() {
        PinnedLeaves x = new PinnedLeaves();
        Due.orders(x, "ga1;gb2;gc3;gd4;e0;e1;t0a;t0b;t1c;t1d");
        x.set(0, 2);
        x.leave(1);
        Due.is("rakings", x.count(10), 0);
        Due.is("hooks", x.count(11), 0);
        Due.is("rakings of the heap", x.child(0, 7), 0);
        Due.is("leaves on the heap", x.child(0, 4), 4);
        Due.is("leaves that it took off", x.child(0, 5), 2);
        Due.is("most aside", x.count(14), 4);
    }

    private static void leaveUndone() {
        PinnedLeaves x = new PinnedLeaves();
        Due.orders(x, "ga1;gb2;gc3;e0;e1;n10c;p10;n11a;t0a;t1b");
        Due.undoable(x, "leave", () -> x.leave(1));
        Due.undoable(x, "leave", () -> x.leave(0));
        Due.is("its heap", x.heap(1, 0), 1);
        Due.is("its pin", x.hook(1, 0, 1), 2);
    }

    private static void howManyComeOver() {
        for (int leaves = 0; leaves < 4; leaves++) {
            PinnedLeaves x = new PinnedLeaves();
            Due.orders(x, "ga1;gb2;gc3;gd4;e0;e1;t0d");
            for (int branch = 0; branch < leaves; branch++) {
                x.take(1, branch);
            }
            Due.is("leaves that come", x.leave(1), leaves);
            Due.is("leaves on the other heap", x.child(0, 4), leaves + 1);
        }
    }

    private static void noSuchChildLeaves() {
        PinnedLeaves x = new PinnedLeaves();
        Due.indexOutside(x, "leave", 0, 1, child -> x.leave(child));
        x.leave(0);
        Due.index(x, "who left already, of one child", () -> x.leave(0));
        x.come();
        x.leave(1);
        Due.index(x, "who left already", () -> x.leave(1));
    }

    private static void onlyOneChild() {
        PinnedLeaves x = new PinnedLeaves();
        Due.is("one of two", x.leave(0), 0);
        Due.state(x, "the only one", () -> x.leave(1));
        x.enter(1);
        Due.state(x, "the only one, in the yard", () -> x.leave(1));
        x.come();
        Due.is("one of two again", x.leave(1), 0);
        Due.state(x, "the only one again", () -> x.leave(0));
    }

    // ---- promise 4

    private static void goesIn() {
        PinnedLeaves x = new PinnedLeaves();
        x.enter(1);
        Due.is("it is in the yard", x.child(1, 0), 1);
        Due.is("the other one is not", x.child(0, 0), 0);
        Due.is("how many", x.count(2), 1);
        x.enter(0);
        Due.is("how many", x.count(2), 2);
        x.leave(1);
        Due.is("how many are left", x.count(2), 1);
    }

    private static void enterUndone() {
        PinnedLeaves x = new PinnedLeaves();
        x.ring();
        Due.undoable(x, "enter", () -> x.enter(0));
        Due.is("it rests again", x.child(0, 1), NONE);
    }

    private static void enterTellsTheBell() {
        PinnedLeaves x = new PinnedLeaves();
        for (int bell = 0; bell < 4; bell++) {
            Due.is("the bell", x.enter(bell % 2), bell);
            x.rest(bell % 2);
            x.ring();
        }
    }

    private static void noSuchChildEnters() {
        PinnedLeaves x = new PinnedLeaves();
        Due.indexOutside(x, "enter", 0, 1, child -> x.enter(child));
        x.leave(1);
        Due.index(x, "who left", () -> x.enter(1));
        x.come();
        Due.is("who came", x.enter(1), 0);
    }

    private static void isInTheYard() {
        PinnedLeaves x = new PinnedLeaves();
        x.enter(0);
        Due.state(x, "at the same bell", () -> x.enter(0));
        x.ring();
        Due.state(x, "at the next bell", () -> x.enter(0));
        x.rest(0);
        Due.is("when it rested", x.enter(0), 1);
    }

    // ---- promise 5

    private static void hooksBecomeEmpty() {
        PinnedLeaves x = new PinnedLeaves();
        Due.orders(x, "ga1;e0;e1;n00a;n01a;p01;n02a;n11a;p11");
        x.rest(0);
        for (int hook = 0; hook < 3; hook++) {
            Due.is("its hook " + hook, x.hook(0, hook, 0), 0);
            Due.is("its hook's leaf", x.hook(0, hook, 1), NONE);
            Due.is("its hook's branch", x.hook(0, hook, 2), NONE);
        }
        Due.is("it rests", x.child(0, 0), 0);
        Due.is("the other one's hook", x.hook(1, 1, 0), 2);
        Due.is("pins", x.count(8), 1);
        Due.is("notes", x.count(9), 0);
    }

    private static void restUndone() {
        PinnedLeaves x = new PinnedLeaves();
        Due.orders(x, "ga1;e1;b;n10a;n11a;p11");
        Due.undoable(x, "rest", () -> x.rest(1));
        Due.is("its bell", x.child(1, 1), 0);
    }

    private static void hooksThatPinned() {
        String[] orders = {"ga1;e1", "ga1;e1;n10a", "ga1;e1;n10a;n12a;p12", "ga1;e1;n10a;n11a;p10;p11",
            "ga1;e1;n10a;n11a;n12a;p10;p11;p12"};
        int[] pinned = {0, 0, 1, 2, 3};
        for (int run = 0; run < orders.length; run++) {
            PinnedLeaves x = new PinnedLeaves();
            Due.orders(x, orders[run]);
            Due.is("after " + orders[run], x.rest(1), pinned[run]);
        }
    }

    private static void noSuchChildRests() {
        PinnedLeaves x = new PinnedLeaves();
        x.enter(0);
        x.enter(1);
        Due.indexOutside(x, "rest", 0, 1, child -> x.rest(child));
        x.leave(0);
        Due.index(x, "who left", () -> x.rest(0));
    }

    private static void restsAlready() {
        PinnedLeaves x = new PinnedLeaves();
        Due.state(x, "as at first", () -> x.rest(0));
        x.enter(0);
        Due.is("it was in the yard", x.rest(0), 0);
        Due.state(x, "it rests again", () -> x.rest(0));
        x.come();
        Due.state(x, "who came", () -> x.rest(2));
    }

    // ---- promise 6

    private static void bellRings() {
        PinnedLeaves x = new PinnedLeaves();
        x.enter(0);
        x.ring();
        Due.is("the bell", x.count(3), 1);
        Due.is("who is late now", x.late(), 1);
        Due.is("the bell of its coming in", x.child(0, 1), 0);
    }

    private static void ringUndone() {
        PinnedLeaves x = new PinnedLeaves();
        x.enter(0);
        Due.undoable(x, "ring", () -> x.ring());
        Due.is("it can ring again", x.ring(), 1);
    }

    private static void numberThen() {
        PinnedLeaves x = new PinnedLeaves();
        for (int bell = 1; bell < 10; bell++) {
            Due.is("not the number before it", x.ring(), bell);
        }
    }

    private static void cannotRing() {
        PinnedLeaves x = new PinnedLeaves();
        x.come();
        x.enter(2);
        x.ring();
        Due.state(x, "child 2 is late", () -> x.ring());
        x.enter(0);
        x.enter(1);
        Due.state(x, "one of three is late", () -> x.ring());
        x.rest(2);
        x.enter(2);
        Due.is("none is late", x.ring(), 2);
        Due.state(x, "all are late", () -> x.ring());
    }
}
