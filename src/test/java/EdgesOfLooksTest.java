/** The sentences of promises 23 to 30 that name a boundary case, each with a test of its own. */
public final class EdgesOfLooksTest {
    private static final int NONE = PinnedLeaves.NONE;

    public static void main(String[] args) {
        branch();
        leaf();
        child();
        hook();
        heap();
        count();
        countMore();
        settingAndWhy();
        Due.end("EdgesOfLooksTest");
    }

    private static void branch() {
        Due.sentence("Promise 23", "- `branch`: 0 to 11", EdgesOfLooksTest::eachBranch);
        Due.sentence("Promise 23", "Returns its number, NONE without one.", EdgesOfLooksTest::numberOrNone);
        Due.sentence("Promise 23", "Throws `IndexOutOfBoundsException` if there is no such branch",
                EdgesOfLooksTest::noSuchBranch);
    }

    private static void leaf() {
        Due.sentence("Promise 24", "0: its colour;", EdgesOfLooksTest::colourOfALeaf);
        Due.sentence("Promise 24", "1: 0 if it is on a branch, 1 if it is aside, 2 if it is burnt;",
                EdgesOfLooksTest::whereALeafIs);
        Due.sentence("Promise 24", "2: the branch on which it is, or on which it was last;",
                EdgesOfLooksTest::lastBranch);
        Due.sentence("Promise 24", "3: the bell that was noted for it when it was put aside, NONE if it never was;",
                EdgesOfLooksTest::notedBell);
        Due.sentence("Promise 24", "4: the child on whose heap it is, NONE if it is not aside;",
                EdgesOfLooksTest::whoseHeap);
        Due.sentence("Promise 24", "5: the children who hold it, as a mask, with the bit c for the child c;",
                EdgesOfLooksTest::maskOfHolders);
        Due.sentence("Promise 24", "6: hooks that pin it;", EdgesOfLooksTest::hooksThatPinIt);
        Due.sentence("Promise 24", "7: hooks with a note of it", EdgesOfLooksTest::hooksWithANoteOfIt);
        Due.sentence("Promise 24", "Throws `IndexOutOfBoundsException` if no such leaf grew so far",
                EdgesOfLooksTest::noSuchLeaf);
        Due.sentence("Promise 24", "Throws `IllegalArgumentException` if what is not 0 to 7",
                EdgesOfLooksTest::nothingOfALeaf);
    }

    private static void child() {
        Due.sentence("Promise 25", "0: 1 if it is in the yard, otherwise 0;", EdgesOfLooksTest::inTheYard);
        Due.sentence("Promise 25", "1: the bell of its coming in, NONE if it rests;", EdgesOfLooksTest::bellOfComingIn);
        Due.sentence("Promise 25", "2: its hooks that pin a leaf; 3: its hooks with a note;",
                EdgesOfLooksTest::hooksOfAChild);
        Due.sentence("Promise 25", "4: leaves on its heap;", EdgesOfLooksTest::leavesOnItsHeap);
        Due.sentence("Promise 25", "5: leaves that it took off so far (swapped ones, too);",
                EdgesOfLooksTest::leavesItTookOff);
        Due.sentence("Promise 25", "6: leaves that were burnt by rakings of its heap so far;",
                EdgesOfLooksTest::leavesBurntOfItsHeap);
        Due.sentence("Promise 25", "7: rakings of its heap so far", EdgesOfLooksTest::rakingsOfItsHeap);
        Due.sentence("Promise 25", "(5 to 7 begin with 0 for each child who comes)", EdgesOfLooksTest::beginWithNought);
        Due.sentence("Promise 25", "Throws `IndexOutOfBoundsException` if there is no such child",
                EdgesOfLooksTest::noSuchChild);
        Due.sentence("Promise 25", "Throws `IllegalArgumentException` if what is not 0 to 7",
                EdgesOfLooksTest::nothingOfAChild);
    }

    private static void hook() {
        Due.sentence("Promise 26", "0: 0 if it is empty, 1 if it has a note, 2 if it pins a leaf;",
                EdgesOfLooksTest::kindOfHook);
        Due.sentence("Promise 26", "1: the number of the leaf, NONE if it is empty;", EdgesOfLooksTest::leafOfHook);
        Due.sentence("Promise 26", "2: the branch of the note, NONE if it has none", EdgesOfLooksTest::branchOfNote);
        Due.sentence("Promise 26", "- `hook`: 0 to 2", EdgesOfLooksTest::eachHook);
        Due.sentence("Promise 26", "Throws `IndexOutOfBoundsException` if there is no such child or hook",
                EdgesOfLooksTest::noSuchHook);
        Due.sentence("Promise 26", "Throws `IllegalArgumentException` if what is not 0 to 2",
                EdgesOfLooksTest::nothingOfAHook);
    }

    private static void heap() {
        Due.sentence("Promise 27", "- `place`: the place on its heap, from 0", EdgesOfLooksTest::placesFromNought);
        Due.sentence("Promise 27", "Returns the number of the leaf, NONE if there are not so many.",
                EdgesOfLooksTest::notSoMany);
        Due.sentence("Promise 27", "Throws `IndexOutOfBoundsException` if there is no such child",
                EdgesOfLooksTest::heapOfNoChild);
        Due.sentence("Promise 27", "Throws `IllegalArgumentException` if place is below 0",
                EdgesOfLooksTest::placeBelowNought);
    }

    private static void count() {
        Due.sentence("Promise 28", "0: children that there are, as a mask; 1: how many they are;",
                EdgesOfLooksTest::childrenThere);
        Due.sentence("Promise 28", "2: how many are in the yard;", EdgesOfLooksTest::howManyInTheYard);
        Due.sentence("Promise 28", "3: the number of the bell;", EdgesOfLooksTest::numberOfTheBell);
        Due.sentence("Promise 28", "4: leaves that grew so far;", EdgesOfLooksTest::leavesThatGrew);
        Due.sentence("Promise 28", "5: leaves on branches; 6: leaves aside; 7: burnt leaves;",
                EdgesOfLooksTest::leavesInEachState);
        Due.sentence("Promise 28", "8: hooks that pin a leaf; 9: hooks with a note;", EdgesOfLooksTest::hooksOfAll);
        Due.sentence("Promise 28", "10: rakings so far;", EdgesOfLooksTest::rakingsSoFar);
        Due.sentence("Promise 28", "11: hooks looked through in rakings so far;", EdgesOfLooksTest::hooksLookedThrough);
        Due.sentence("Promise 28", "Throws `IllegalArgumentException` if what is not 0 to 15",
                EdgesOfLooksTest::nothingToCount);
    }

    private static void countMore() {
        Due.sentence("Promise 28", "12: pins that failed so far (pin() returned 0, or likewise in a text);",
                EdgesOfLooksTest::pinsThatFailed);
        Due.sentence("Promise 28", "13: dangers so far;", EdgesOfLooksTest::dangersSoFar);
        Due.sentence("Promise 28", "14: the most leaves that were aside at once so far (behind a call, or behind an "
                + "order of a text);", EdgesOfLooksTest::mostAside);
        Due.sentence("Promise 28", "15: saved states", EdgesOfLooksTest::savedStates);
    }

    private static void settingAndWhy() {
        Due.sentence("Promise 29", "Returns its value.", EdgesOfLooksTest::valueOfASetting);
        Due.sentence("Promise 29", "Throws `IndexOutOfBoundsException` if there is no such setting",
                EdgesOfLooksTest::noSuchSetting);
        Due.sentence("Promise 30", "Returns 0 if it is burnt;", EdgesOfLooksTest::whyBurnt);
        Due.sentence("Promise 30", "otherwise the first of these that is so: 1: it is on a branch;",
                EdgesOfLooksTest::whyOnABranch);
        Due.sentence("Promise 30", "2: it may not be burnt by setting 1;", EdgesOfLooksTest::whyItMayNot);
        Due.sentence("Promise 30", "3: its heap was not raked since it may be.", EdgesOfLooksTest::whyNotRaked);
        Due.sentence("Promise 30", "Throws `IndexOutOfBoundsException` if no such leaf grew so far",
                EdgesOfLooksTest::whyNoSuchLeaf);
    }

    // ---- promise 23

    private static void eachBranch() {
        PinnedLeaves x = new PinnedLeaves();
        for (int branch = 11; branch >= 0; branch--) {
            x.grow(branch, 0);
        }
        for (int branch = 0; branch <= 11; branch++) {
            Due.is("branch(" + branch + ")", x.branch(branch), 11 - branch);
        }
    }

    private static void numberOrNone() {
        PinnedLeaves x = new PinnedLeaves();
        Due.is("as at first", x.branch(0), NONE);
        Due.orders(x, "ga1;e0");
        Due.is("leaf 0", x.branch(0), 0);
        x.take(0, 0);
        Due.is("taken off", x.branch(0), NONE);
        x.grow(0, 1);
        Due.is("another one", x.branch(0), 1);
        x.swap(0, 0, 1);
        Due.is("swapped", x.branch(0), 2);
        x.undo();
        Due.is("undone", x.branch(0), 1);
    }

    private static void noSuchBranch() {
        PinnedLeaves x = new PinnedLeaves();
        Due.indexOutside(x, "branch", 0, 11, branch -> x.branch(branch));
    }

    // ---- promise 24

    private static void colourOfALeaf() {
        PinnedLeaves x = new PinnedLeaves();
        Due.orders(x, "ga0;gb9;e0;w0a5;t0b;k0");
        int[] colours = {0, 9, 5};
        for (int leaf = 0; leaf < 3; leaf++) {
            Due.is("on a branch, aside or burnt, leaf " + leaf, x.leaf(leaf, 0), colours[leaf]);
        }
    }

    private static void whereALeafIs() {
        PinnedLeaves x = new PinnedLeaves();
        Due.orders(x, "ga0;e0;e1");
        Due.is("on a branch", x.leaf(0, 1), 0);
        Due.orders(x, "n10a;p10");
        Due.is("pinned", x.leaf(0, 1), 0);
        x.take(0, 0);
        Due.is("aside", x.leaf(0, 1), 1);
        x.rake(0);
        Due.is("raked, it stays aside", x.leaf(0, 1), 1);
        x.leave(0);
        Due.is("aside on another heap", x.leaf(0, 1), 1);
        x.loosen(1, 0);
        Due.is("not held, it is still aside", x.leaf(0, 1), 1);
        x.rake(1);
        Due.is("burnt", x.leaf(0, 1), 2);
    }

    private static void lastBranch() {
        PinnedLeaves x = new PinnedLeaves();
        Due.orders(x, "gl1;ga2;e0;t0l;gl3");
        Due.is("aside", x.leaf(0, 2), 11);
        Due.is("on branch 0", x.leaf(1, 2), 0);
        Due.is("on the same branch", x.leaf(2, 2), 11);
        x.swap(0, 0, 5);
        x.rake(0);
        Due.is("burnt", x.leaf(1, 2), 0);
        Due.is("burnt", x.leaf(0, 2), 11);
    }

    private static void notedBell() {
        PinnedLeaves x = new PinnedLeaves();
        Due.orders(x, "ga1;gb2;gc3;e0;t0a;b;t0b");
        Due.is("at the bell 0", x.leaf(0, 3), 0);
        Due.is("at the bell 1", x.leaf(1, 3), 1);
        Due.is("never", x.leaf(2, 3), NONE);
        Due.orders(x, "k0;z0;b");
        Due.is("burnt, it stays", x.leaf(0, 3), 0);
        Due.is("burnt, it stays", x.leaf(1, 3), 1);
    }

    private static void whoseHeap() {
        PinnedLeaves x = new PinnedLeaves();
        Due.orders(x, "ga1;gb2;e0;e1;n00a;p00;t1a");
        Due.is("who took it off, not who holds it", x.leaf(0, 4), 1);
        Due.is("on a branch", x.leaf(1, 4), NONE);
        x.rest(1);
        Due.is("who rests", x.leaf(0, 4), 1);
        x.leave(1);
        Due.is("who took it over", x.leaf(0, 4), 0);
        Due.orders(x, "x00;k0");
        Due.is("burnt", x.leaf(0, 4), NONE);
    }

    private static void maskOfHolders() {
        PinnedLeaves x = new PinnedLeaves();
        x.come();
        x.come();
        x.come();
        Due.orders(x, "ga1;e0;e1;e2;e3;e4");
        int mask = 0;
        for (int child = 4; child >= 0; child--) {
            x.note(child, 1, 0);
            Due.is("a note does not hold", x.leaf(0, 5), mask);
            x.pin(child, 1);
            mask |= 1 << child;
            Due.is("child " + child + " holds", x.leaf(0, 5), mask);
        }
        Due.orders(x, "n22a;p22;x21");
        Due.is("one of two hooks is emptied", x.leaf(0, 5), 31);
        x.loosen(2, 2);
        Due.is("both are", x.leaf(0, 5), 27);
        x.take(0, 0);
        Due.is("aside", x.leaf(0, 5), 27);
    }

    private static void hooksThatPinIt() {
        PinnedLeaves x = new PinnedLeaves();
        Due.orders(x, "ga1;gb1;e0;e1;n00a;n01a;n02a;n10a;n11b;n12a");
        Due.is("notes alone", x.leaf(0, 6), 0);
        Due.orders(x, "p00;p01;p02;p10;p11;p12");
        Due.is("of both children", x.leaf(0, 6), 5);
        Due.is("of the other leaf", x.leaf(1, 6), 1);
        x.rest(0);
        Due.is("of one", x.leaf(0, 6), 2);
    }

    private static void hooksWithANoteOfIt() {
        PinnedLeaves x = new PinnedLeaves();
        Due.orders(x, "ga1;gb1;e0;e1;n00a;n01a;n02a;n10a;n11b;n12a");
        Due.is("of both children", x.leaf(0, 7), 5);
        Due.is("of the other leaf", x.leaf(1, 7), 1);
        Due.orders(x, "p00;x01;t1a");
        Due.is("one pins, one is empty", x.leaf(0, 7), 3);
        x.pin(0, 2);
        Due.is("a pin failed", x.leaf(0, 7), 2);
        Due.orders(x, "x00;k1");
        Due.is("burnt", x.leaf(0, 7), 2);
    }

    private static void noSuchLeaf() {
        PinnedLeaves x = new PinnedLeaves();
        Due.indexOutside(x, "none grew", 0, -1, leaf -> x.leaf(leaf, 0));
        x.grow(0, 1);
        x.grow(1, 1);
        Due.indexOutside(x, "two grew", 0, 1, leaf -> x.leaf(leaf, 0));
        Due.indexOutside(x, "no what either", 0, 1, leaf -> x.leaf(leaf, 8));
        x.undo();
        Due.index(x, "its growing is undone", () -> x.leaf(1, 0));
        Due.is("the other one", x.leaf(0, 0), 1);
    }

    private static void nothingOfALeaf() {
        PinnedLeaves x = new PinnedLeaves();
        x.grow(0, 1);
        Due.argumentOutside(x, "leaf", 0, 7, what -> x.leaf(0, what));
    }

    // ---- promise 25

    private static void inTheYard() {
        PinnedLeaves x = new PinnedLeaves();
        Due.is("it rests", x.child(1, 0), 0);
        x.enter(1);
        Due.is("in the yard", x.child(1, 0), 1);
        x.ring();
        Due.is("late, but in the yard", x.child(1, 0), 1);
        x.rest(1);
        Due.is("it rests again", x.child(1, 0), 0);
    }

    private static void bellOfComingIn() {
        PinnedLeaves x = new PinnedLeaves();
        Due.is("it rests", x.child(0, 1), NONE);
        x.enter(0);
        Due.is("bell 0, not NONE", x.child(0, 1), 0);
        x.ring();
        Due.is("it stays", x.child(0, 1), 0);
        x.rest(0);
        Due.is("it rests again", x.child(0, 1), NONE);
        x.enter(0);
        Due.is("bell 1", x.child(0, 1), 1);
    }

    private static void hooksAre(PinnedLeaves x, int child, int pins, int notes) {
        Due.is("pins of " + child, x.child(child, 2), pins);
        Due.is("notes of " + child, x.child(child, 3), notes);
    }

    private static void hooksOfAChild() {
        PinnedLeaves x = new PinnedLeaves();
        hooksAre(x, 0, 0, 0);
        Due.orders(x, "ga1;e0;e1;n00a;n01a;n02a;n11a");
        hooksAre(x, 0, 0, 3);
        hooksAre(x, 1, 0, 1);
        Due.orders(x, "p00;p01;p02");
        hooksAre(x, 0, 3, 0);
        Due.orders(x, "x01;p11");
        hooksAre(x, 0, 2, 0);
        hooksAre(x, 1, 1, 0);
        x.rest(0);
        hooksAre(x, 0, 0, 0);
    }

    private static void leavesOnItsHeap() {
        PinnedLeaves x = new PinnedLeaves();
        Due.is("none", x.child(1, 4), 0);
        Due.orders(x, "ga1;gb2;gc3;e0;e1;n00a;p00;t1a;t1b;t0c");
        Due.is("two", x.child(1, 4), 2);
        x.rake(1);
        Due.is("one stays", x.child(1, 4), 1);
        x.leave(0);
        Due.is("one comes over", x.child(1, 4), 2);
        x.rake(1);
        Due.is("none", x.child(1, 4), 0);
    }

    private static void leavesItTookOff() {
        PinnedLeaves x = new PinnedLeaves();
        Due.orders(x, "ga1;gb2;gc3;e0;e1;t1a");
        Due.is("one", x.child(1, 5), 1);
        x.swap(1, 1, 0);
        Due.is("a swapped one, too", x.child(1, 5), 2);
        x.rake(1);
        Due.is("burnt ones, too", x.child(1, 5), 2);
        x.take(0, 1);
        Due.is("not those of others", x.child(1, 5), 2);
        x.leave(0);
        Due.is("not those that come over", x.child(1, 5), 2);
        x.set(0, 1);
        x.take(1, 2);
        Due.is("one that is burnt at once, too", x.child(1, 5), 3);
    }

    private static void leavesBurntOfItsHeap() {
        PinnedLeaves x = new PinnedLeaves();
        Due.orders(x, "ga1;gb2;gc3;gd4;e0;e1;n00a;p00;t1a;t1b;k1");
        Due.is("those that are burnt, not those that stay", x.child(1, 6), 1);
        Due.is("those of this heap alone", x.child(0, 6), 0);
        Due.orders(x, "t0c");
        x.leave(0);
        Due.is("two of its heap now", x.rake(1), 2);
        Due.is("also those that came over", x.child(1, 6), 3);
        x.set(0, 1);
        x.swap(1, 3, 0);
        Due.is("also those that are burnt at once", x.child(1, 6), 4);
    }

    private static void rakingsOfItsHeap() {
        PinnedLeaves x = new PinnedLeaves();
        Due.orders(x, "ga1;gb2;gc3;e0;e1;n00a;p00;t1a;k1;k1");
        Due.is("also those that burn none", x.child(1, 7), 2);
        Due.is("those of this heap alone", x.child(0, 7), 0);
        x.set(0, 1);
        x.take(1, 1);
        Due.is("also those at once", x.child(1, 7), 3);
        x.set(1, 1);
        x.rake(1);
        Due.is("also those by the bell", x.child(1, 7), 4);
        Due.state(x, "an empty heap", () -> x.rake(0));
        Due.is("an empty heap is not raked", x.child(0, 7), 0);
    }

    private static void beginWithNought() {
        PinnedLeaves x = new PinnedLeaves();
        Due.orders(x, "ga1;e1;t1a;k1");
        for (int what = 5; what <= 7; what++) {
            Due.is("before, number " + what, x.child(1, what), 1);
        }
        x.leave(1);
        x.come();
        x.come();
        for (int what = 5; what <= 7; what++) {
            Due.is("at a place that was left, number " + what, x.child(1, what), 0);
            Due.is("at a new place, number " + what, x.child(2, what), 0);
        }
        x.come();
        x.come();
        Due.orders(x, "e4;e3;ga1;t4a;k4;ga1;t3a;k3;ga1;t3a;k3");
        for (int what = 5; what <= 7; what++) {
            Due.is("of child 3, number " + what, x.child(3, what), 2);
            Due.is("of child 4, number " + what, x.child(4, what), 1);
        }
    }

    private static void noSuchChild() {
        PinnedLeaves x = new PinnedLeaves();
        Due.indexOutside(x, "child", 0, 1, child -> x.child(child, 0));
        Due.indexOutside(x, "child, no what either", 0, 1, child -> x.child(child, -1));
        x.leave(0);
        Due.index(x, "who left", () -> x.child(0, 0));
    }

    private static void nothingOfAChild() {
        PinnedLeaves x = new PinnedLeaves();
        Due.argumentOutside(x, "child", 0, 7, what -> x.child(1, what));
    }

    // ---- promise 26

    private static void hookNumbers(int what, int... due) {
        PinnedLeaves x = new PinnedLeaves();
        Due.orders(x, "gl1;ga2;e0");
        Due.is("empty", x.hook(0, 2, what), due[0]);
        x.note(0, 2, 0);
        Due.is("a note", x.hook(0, 2, what), due[1]);
        x.take(0, 0);
        Due.is("a note of a leaf aside", x.hook(0, 2, what), due[1]);
        x.rake(0);
        Due.is("a note of a burnt leaf", x.hook(0, 2, what), due[1]);
        x.pin(0, 2);
        Due.is("a pin that failed", x.hook(0, 2, what), due[0]);
        x.note(0, 2, 11);
        Due.is("a note of leaf 0", x.hook(0, 2, what), due[2]);
        x.pin(0, 2);
        Due.is("a pin of leaf 0", x.hook(0, 2, what), due[3]);
        x.take(0, 11);
        Due.is("a pin of leaf 0, aside", x.hook(0, 2, what), due[3]);
        x.loosen(0, 2);
        Due.is("emptied", x.hook(0, 2, what), due[0]);
    }

    private static void kindOfHook() {
        hookNumbers(0, 0, 1, 1, 2);
    }

    private static void leafOfHook() {
        hookNumbers(1, NONE, 1, 0, 0);
    }

    private static void branchOfNote() {
        hookNumbers(2, NONE, 0, 11, NONE);
    }

    private static void eachHook() {
        PinnedLeaves x = new PinnedLeaves();
        Due.orders(x, "ga1;gb2;gc3;e0;e1;n00b;n02c;n11a;n12b");
        int[][] leaves = {{1, NONE, 2}, {NONE, 0, 1}};
        for (int child = 0; child < 2; child++) {
            for (int hook = 0; hook <= 2; hook++) {
                Due.is("hook " + hook + " of " + child, x.hook(child, hook, 1), leaves[child][hook]);
            }
        }
    }

    private static void noSuchHook() {
        PinnedLeaves x = new PinnedLeaves();
        Due.indexOutside(x, "child", 0, 1, child -> x.hook(child, 0, 0));
        Due.indexOutside(x, "hook", 0, 2, hook -> x.hook(0, hook, 0));
        Due.indexOutside(x, "hook", 0, 2, hook -> x.hook(1, hook, 0));
        Due.indexOutside(x, "hook, no what either", 0, 2, hook -> x.hook(1, hook, 3));
    }

    private static void nothingOfAHook() {
        PinnedLeaves x = new PinnedLeaves();
        Due.argumentOutside(x, "hook", 0, 2, what -> x.hook(0, 0, what));
    }

    // ---- promise 27

    private static void placesFromNought() {
        PinnedLeaves x = new PinnedLeaves();
        Due.orders(x, "ga1;gb2;gc3;e1;t1c;t1a;t1b");
        int[] heap = {2, 0, 1};
        for (int place = 0; place < 3; place++) {
            Due.is("place " + place, x.heap(1, place), heap[place]);
        }
    }

    private static void notSoMany() {
        PinnedLeaves x = new PinnedLeaves();
        Due.is("an empty heap", x.heap(0, 0), NONE);
        Due.orders(x, "ga1;gb2;e0;e1;t0a;t1b");
        int[] places = {1, 2, 119, 120, 121, 1 << 30, Integer.MAX_VALUE - 119, Integer.MAX_VALUE};
        for (int place : places) {
            Due.is("place " + place, x.heap(0, place), NONE);
            Due.is("place " + place, x.heap(1, place), NONE);
        }
        x.rake(0);
        Due.is("raked", x.heap(0, 0), NONE);
        x.leave(1);
        Due.is("one came over", x.heap(0, 0), 1);
        Due.is("and no more", x.heap(0, 1), NONE);
        x.come();
        Due.is("the heap of one who came", x.heap(1, 0), NONE);
    }

    private static void heapOfNoChild() {
        PinnedLeaves x = new PinnedLeaves();
        Due.indexOutside(x, "heap", 0, 1, child -> x.heap(child, 0));
        Due.indexOutside(x, "heap, no place either", 0, 1, child -> x.heap(child, -1));
        Due.orders(x, "ga1;e1;t1a");
        x.leave(1);
        Due.index(x, "who left", () -> x.heap(1, 0));
    }

    private static void placeBelowNought() {
        PinnedLeaves x = new PinnedLeaves();
        Due.argument(x, "an empty heap", () -> x.heap(0, -1));
        Due.orders(x, "ga1;gb2;e0;e1;t0a;t1b");
        for (int place : new int[] {-1, -2, -119, -120, -121, Integer.MIN_VALUE}) {
            Due.argument(x, "place " + place, () -> x.heap(0, place));
            Due.argument(x, "place " + place, () -> x.heap(1, place));
        }
    }

    // ---- promise 28

    private static void childrenAre(PinnedLeaves x, int mask, int number) {
        Due.is("mask", x.count(0), mask);
        Due.is("how many", x.count(1), number);
    }

    private static void childrenThere() {
        PinnedLeaves x = new PinnedLeaves();
        childrenAre(x, 3, 2);
        x.leave(0);
        childrenAre(x, 2, 1);
        x.come();
        x.come();
        x.come();
        x.come();
        childrenAre(x, 31, 5);
        x.leave(3);
        childrenAre(x, 23, 4);
    }

    private static void howManyInTheYard() {
        PinnedLeaves x = new PinnedLeaves();
        x.come();
        x.come();
        x.come();
        for (int child = 0; child < 5; child++) {
            Due.is("in the yard", x.count(2), child);
            x.enter(child);
        }
        Due.is("all", x.count(2), 5);
        x.rest(2);
        Due.is("one rests", x.count(2), 4);
        x.leave(4);
        Due.is("one left", x.count(2), 3);
        x.leave(2);
        Due.is("who rested left", x.count(2), 3);
        x.come();
        Due.is("who comes rests", x.count(2), 3);
    }

    private static void numberOfTheBell() {
        PinnedLeaves x = new PinnedLeaves();
        for (int bell = 0; bell < 5; bell++) {
            Due.is("the bell", x.count(3), bell);
            x.ring();
        }
    }

    private static void leavesThatGrew() {
        PinnedLeaves x = new PinnedLeaves();
        Due.is("none", x.count(4), 0);
        Due.orders(x, "ga1;e0;w0a2;t0a;k0");
        Due.is("burnt ones, too", x.count(4), 2);
    }

    private static void statesAre(PinnedLeaves x, int... due) {
        for (int what = 5; what <= 7; what++) {
            Due.is("count(" + what + ")", x.count(what), due[what - 5]);
        }
    }

    private static void leavesInEachState() {
        PinnedLeaves x = new PinnedLeaves();
        statesAre(x, 0, 0, 0);
        Due.orders(x, "ga1;gb2;gc3;e0;e1");
        statesAre(x, 3, 0, 0);
        Due.orders(x, "n10a;p10;t0a;t0b");
        statesAre(x, 1, 2, 0);
        x.rake(0);
        statesAre(x, 1, 1, 1);
        x.swap(1, 2, 4);
        statesAre(x, 1, 2, 1);
        x.leave(1);
        statesAre(x, 1, 2, 1);
        x.rake(0);
        statesAre(x, 1, 0, 3);
    }

    private static void hooksOfAll() {
        PinnedLeaves x = new PinnedLeaves();
        x.come();
        x.come();
        x.come();
        Due.orders(x, "ga1;e0;e1;e2;e3;e4");
        for (int hook = 0; hook < 15; hook++) {
            x.note(hook % 5, hook / 5, 0);
            Due.is("notes", x.count(9), hook + 1);
        }
        for (int hook = 0; hook < 15; hook++) {
            Due.is("pins", x.count(8), hook);
            Due.is("notes", x.count(9), 15 - hook);
            x.pin(hook % 5, hook / 5);
        }
        Due.is("pins", x.count(8), 15);
        x.leave(4);
        Due.is("who left has none", x.count(8), 12);
    }

    private static void rakingsSoFar() {
        PinnedLeaves x = new PinnedLeaves();
        Due.orders(x, "ga1;gb2;gc3;e0;e1;n10a;p10;t0a;k0;k0");
        Due.is("also one that burns none", x.count(10), 2);
        x.set(0, 1);
        x.take(1, 1);
        Due.is("also one at once", x.count(10), 3);
        x.set(1, 1);
        x.swap(0, 2, 1);
        Due.is("also one by the bell", x.count(10), 4);
        x.leave(1);
        Due.is("those of a heap of one who left, too", x.count(10), 4);
        x.ifRaked(0, 0);
        Due.is("none that would be", x.count(10), 4);
    }

    private static void hooksLookedThrough() {
        PinnedLeaves x = new PinnedLeaves();
        Due.is("none", x.count(11), 0);
        Due.orders(x, "ga1;gb2;gc3;e0;t0a;t0b;k0");
        Due.is("of two children, though none is used", x.count(11), 6);
        x.come();
        x.take(0, 2);
        x.rake(0);
        Due.is("of three children", x.count(11), 15);
        x.leave(1);
        x.leave(2);
        Due.orders(x, "ga1;t0a;k0");
        Due.is("of one child", x.count(11), 18);
        x.set(1, 1);
        Due.orders(x, "ga1;t0a;k0");
        Due.is("none by the bell", x.count(11), 18);
    }

    private static void pinsThatFailed() {
        PinnedLeaves x = new PinnedLeaves();
        Due.orders(x, "ga1;gb2;e0;n00a;n01a;n02b;t0a");
        Due.is("none", x.count(12), 0);
        x.pin(0, 0);
        Due.is("by a call", x.count(12), 1);
        Due.orders(x, "p01;p02");
        Due.is("in a text", x.count(12), 2);
        Due.state(x, "without a note", () -> x.pin(0, 0));
        Due.write(x, "p00");
        x.obey();
        Due.is("one that throws does not count", x.count(12), 2);
    }

    private static void dangersSoFar() {
        PinnedLeaves x = new PinnedLeaves();
        Due.orders(x, "ga1;gb2;e0;e1;n00a;n10a;n01b;t0a;k0");
        x.look(0, 1);
        Due.is("none", x.count(13), 0);
        x.look(0, 0);
        x.look(1, 0);
        x.look(1, 0);
        Due.is("each look of each child", x.count(13), 3);
        x.rest(1);
        Due.is("they stay", x.count(13), 3);
        x.pin(0, 0);
        Due.is("a pin is none", x.count(13), 3);
    }

    private static void mostAside() {
        PinnedLeaves x = new PinnedLeaves();
        Due.orders(x, "ga1;gb2;gc3;gd4;ge5;gf6;e0;e1;t0a;t0b;t1c");
        Due.is("of both heaps", x.count(14), 3);
        Due.orders(x, "k0;t1d");
        Due.is("they were more", x.count(14), 3);
        x.set(0, 3);
        x.take(1, 4);
        Due.is("raked at once, behind the call they are none", x.count(14), 3);
        Due.is("aside", x.count(6), 0);
        Due.orders(x, "ga1;gb2;gc3;gd4;t0a;t0b;t1c;t1d;k0;k1");
        Due.is("behind an order of a text", x.count(14), 4);
        PinnedLeaves y = new PinnedLeaves();
        y.set(0, 1);
        Due.orders(y, "ga1;e0;t0a");
        Due.is("it was never aside behind an order", y.count(14), 0);
        y.set(0, 2);
        Due.orders(y, "ga1;w0a2");
        Due.is("by a swap", y.count(14), 1);
    }

    private static void savedStates() {
        PinnedLeaves x = new PinnedLeaves();
        for (int call = 0; call < 9; call++) {
            Due.is("saved", x.count(15), Math.min(call, 6));
            x.ring();
        }
        for (int left = 5; left >= 0; left--) {
            x.undo();
            Due.is("left", x.count(15), left);
        }
    }

    private static void nothingToCount() {
        PinnedLeaves x = new PinnedLeaves();
        Due.argumentOutside(x, "count", 0, 15, what -> x.count(what));
    }

    // ---- promises 29 and 30

    private static void valueOfASetting() {
        PinnedLeaves x = new PinnedLeaves();
        Due.is("setting 0 at first", x.setting(0), 4);
        Due.is("setting 1 at first", x.setting(1), 0);
        x.set(0, 20);
        x.set(1, 1);
        Due.is("setting 0", x.setting(0), 20);
        Due.is("setting 1", x.setting(1), 1);
        x.set(0, 1);
        Due.is("setting 0", x.setting(0), 1);
    }

    private static void noSuchSetting() {
        PinnedLeaves x = new PinnedLeaves();
        Due.indexOutside(x, "setting", 0, 1, setting -> x.setting(setting));
    }

    private static void whyBurnt() {
        PinnedLeaves x = new PinnedLeaves();
        Due.orders(x, "ga1;e0;n00a;t0a;k0");
        Due.is("by pins", x.why(0), 0);
        x.set(1, 1);
        Due.is("burnt, though it might not be by the bell", x.why(0), 0);
    }

    private static void whyOnABranch() {
        PinnedLeaves x = new PinnedLeaves();
        Due.orders(x, "ga1;gb2;e0;n00a;p00");
        Due.is("held", x.why(0), 1);
        Due.is("not held", x.why(1), 1);
        x.set(1, 1);
        Due.orders(x, "z0;b;b");
        Due.is("by the bell", x.why(0), 1);
    }

    private static void whyItMayNot() {
        PinnedLeaves x = new PinnedLeaves();
        Due.orders(x, "ga1;gb2;e0;e1;n00a;p00;t1a;t1b");
        Due.is("held", x.why(0), 2);
        x.set(1, 1);
        Due.is("no bell since", x.why(0), 2);
        Due.is("no bell since, though not held", x.why(1), 2);
        x.ring();
        Due.is("one bell since", x.why(1), 2);
        x.rake(1);
        Due.is("raked, it stays so", x.why(1), 2);
    }

    private static void whyNotRaked() {
        PinnedLeaves x = new PinnedLeaves();
        Due.orders(x, "ga1;gb2;e0;e1;n00a;p00;t1a;t1b");
        Due.is("not held", x.why(1), 3);
        x.rake(1);
        x.loosen(0, 0);
        Due.is("not raked since it is loosened", x.why(0), 3);
        x.set(1, 1);
        Due.orders(x, "z0;z1;b");
        Due.is("one bell", x.why(0), 2);
        x.ring();
        Due.is("two bells", x.why(0), 3);
        x.ring();
        Due.is("three bells", x.why(0), 3);
        x.rake(1);
        Due.is("raked", x.why(0), 0);
    }

    private static void whyNoSuchLeaf() {
        PinnedLeaves x = new PinnedLeaves();
        Due.indexOutside(x, "none grew", 0, -1, leaf -> x.why(leaf));
        x.grow(0, 1);
        x.grow(1, 1);
        Due.indexOutside(x, "two grew", 0, 1, leaf -> x.why(leaf));
        x.undo();
        Due.index(x, "its growing is undone", () -> x.why(1));
    }
}
