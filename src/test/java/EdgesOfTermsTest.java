/** The sentences of the document's terms that name a boundary case, each with a test of its own. */
public final class EdgesOfTermsTest {
    private static final int NONE = PinnedLeaves.NONE;

    public static void main(String[] args) {
        leaves();
        children();
        bell();
        raking();
        settings();
        Due.end("EdgesOfTermsTest");
    }

    private static void leaves() {
        String terms = "Branches, leaves";
        Due.sentence("What it is", "An object is used for at most 512 calls after it has been made",
                EdgesOfTermsTest::allCallsUpToTheLast);
        Due.sentence("The constants", "`NONE = -1`: There is nothing to return.",
                () -> Due.is("NONE", PinnedLeaves.NONE, -1));
        Due.sentence(terms, "There are 12 branches, numbered from 0", EdgesOfTermsTest::twelveBranches);
        Due.sentence(terms, "on each there is a leaf, or none, as at first.", EdgesOfTermsTest::noLeafAtFirst);
        Due.sentence(terms, "A leaf has a number, from 0 in the order in which leaves grew",
                EdgesOfTermsTest::numbersInOrder);
        Due.sentence(terms, "and a colour, 0 to 9.", EdgesOfTermsTest::tenColours);
        Due.sentence(terms, "There are at most 120 leaves ever.", EdgesOfTermsTest::leavesEver);
        Due.sentence(terms, "A leaf is on a branch, aside (on the heap of a child), or burnt.",
                EdgesOfTermsTest::oneOfThree);
    }

    private static void children() {
        Due.sentence("Children", "There are places for 5 children, numbered from 0.", EdgesOfTermsTest::fivePlaces);
        Due.sentence("Children", "At each place there is a child, or none; at first there are the children 0 and 1.",
                EdgesOfTermsTest::twoAtFirst);
        Due.sentence("Children", "A child is in the yard, or rests, as at first.", EdgesOfTermsTest::restsAtFirst);
        Due.sentence("Children", "When a child goes into the yard, the bell of now is noted as that of its coming in.",
                EdgesOfTermsTest::bellOfComingIn);
        Due.sentence("Children", "A child has 3 hooks, numbered from 0", EdgesOfTermsTest::threeHooks);
        Due.sentence("Children", "and a heap of leaves, in the order in which they were put there.",
                EdgesOfTermsTest::heapInOrder);
        Due.sentence("Children", "A hook is empty, as at first; or it has a note of a leaf and of the branch on which "
                + "it was seen; or it pins a leaf.", EdgesOfTermsTest::kindsOfHooks);
        Due.sentence("Children", "One who rests has empty hooks.", EdgesOfTermsTest::emptyHooksInRest);
        Due.sentence("Children", "A leaf is held by a child if at least one hook of the child pins it.",
                EdgesOfTermsTest::heldByOneHook);
    }

    private static void bell() {
        Due.sentence("The bell", "The bell has a number, at first 0.",
                () -> Due.is("the bell", new PinnedLeaves().count(3), 0));
        Due.sentence("The bell", "It can ring if each child in the yard came in at the bell of now",
                EdgesOfTermsTest::eachCameInNow);
        Due.sentence("The bell", "then its number becomes 1 more.", EdgesOfTermsTest::oneMore);
        Due.sentence("The bell", "(It can ring if nobody is in the yard.)", EdgesOfTermsTest::ringsForNobody);
    }

    private static void raking() {
        Due.sentence("Putting aside", "A leaf that is put aside comes onto the end of the heap of the child who took "
                + "it off", EdgesOfTermsTest::ontoTheEnd);
        Due.sentence("Putting aside", "the bell of then is noted for it.", EdgesOfTermsTest::bellOfThen);
        Due.sentence("Putting aside", "If the heap has at least as many leaves as setting 0 then, it is raked at once.",
                EdgesOfTermsTest::rakedAtOnce);
        Due.sentence("Raking", "When a heap is raked, its leaves are gone through from the first one on; each that may "
                + "be burnt is burnt, the others stay, in their order.", EdgesOfTermsTest::othersStayInOrder);
        Due.sentence("Raking", "0: if no child holds it;", EdgesOfTermsTest::noChildHoldsIt);
        Due.sentence("Raking", "1: if the number of the bell is by 2 or more above the one that was noted for it.",
                EdgesOfTermsTest::twoOrMoreBells);
        Due.sentence("Raking", "With setting 1 as 0, all hooks of all children that there are (also empty ones, and "
                + "those of children who rest) are looked through once for each raking",
                EdgesOfTermsTest::allHooksOnce);
        Due.sentence("Raking", "with setting 1 as 1 none is.", EdgesOfTermsTest::noHookByBell);
    }

    private static void settings() {
        Due.sentence("Settings", "0: the leaves with which a heap is raked, 1 to 20, at first 4;",
                EdgesOfTermsTest::settingNought);
        Due.sentence("Settings", "1: how it is told whether a leaf may be burnt, 0 or 1, at first 0.",
                EdgesOfTermsTest::settingOne);
        Due.sentence("Settings", "When a setting changes, no heap is raked by that.", EdgesOfTermsTest::setRakesNoHeap);
    }

    // ---- leaves

    private static void allCallsUpToTheLast() {
        PinnedLeaves x = new PinnedLeaves();
        for (int bell = 1; bell <= 511; bell++) {
            Due.is("ring", x.ring(), bell);
        }
        Due.is("the call 512", x.count(3), 511);
        PinnedLeaves y = new PinnedLeaves();
        Due.write(y, "b;b;b;b;b;b;b;b;b;b;b;b;b;b;b;b;b;b;b;b;b;b;b;b;b;b;b;b;b;b");
        Due.is("a text of 59 characters", y.firstError(), 59);
        Due.is("30 orders", y.obey(), 30);
        y.grow(0, 3);
        y.enter(0);
        y.note(0, 0, 0);
        for (int call = 66; call <= 512; call++) {
            Due.is("the call " + call, y.look(0, 0), 3);
        }
    }

    private static void twelveBranches() {
        PinnedLeaves x = new PinnedLeaves();
        for (int branch = 0; branch < 12; branch++) {
            Due.is("a leaf grows on " + branch, x.grow(branch, branch % 10), branch);
            Due.is("branch " + branch, x.branch(branch), branch);
        }
        Due.is("leaves on branches", x.count(5), 12);
        Due.indexOutside(x, "branch", 0, 11, branch -> x.branch(branch));
        Due.indexOutside(x, "grow", 0, 11, branch -> x.grow(branch, 0));
    }

    private static void noLeafAtFirst() {
        PinnedLeaves x = new PinnedLeaves();
        for (int branch = 0; branch < 12; branch++) {
            Due.is("branch " + branch, x.branch(branch), NONE);
        }
        Due.is("leaves on branches", x.count(5), 0);
        x.grow(6, 1);
        for (int branch = 0; branch < 12; branch++) {
            Due.is("branch " + branch, x.branch(branch), branch == 6 ? 0 : NONE);
        }
    }

    private static void numbersInOrder() {
        PinnedLeaves x = new PinnedLeaves();
        Due.is("the first leaf", x.grow(11, 4), 0);
        Due.is("the second one", x.grow(0, 4), 1);
        Due.orders(x, "e0;t0l;k0");
        Due.is("the third one, though the first is burnt", x.grow(11, 4), 2);
        Due.is("the fourth one, by a swap", x.swap(0, 0, 4), 3);
        Due.is("how many grew", x.count(4), 4);
    }

    private static void tenColours() {
        PinnedLeaves x = new PinnedLeaves();
        x.enter(0);
        for (int colour = 0; colour < 10; colour++) {
            Due.is("its colour", x.leaf(x.grow(colour, colour), 0), colour);
            Due.is("its colour", x.leaf(x.swap(0, colour, 9 - colour), 0), 9 - colour);
        }
        Due.argumentOutside(x, "grow", 0, 9, colour -> x.grow(10, colour));
        Due.argumentOutside(x, "swap", 0, 9, colour -> x.swap(0, 0, colour));
    }

    private static void leavesEver() {
        PinnedLeaves x = new PinnedLeaves();
        x.set(0, 1);
        x.enter(1);
        for (int leaf = 0; leaf < 119; leaf++) {
            x.grow(7, 5);
            Due.is("it is burnt", x.take(1, 7), 1);
        }
        Due.is("the last leaf", x.grow(7, 5), 119);
        Due.is("the last leaf's colour", x.leaf(119, 0), 5);
        Due.state(x, "one more", () -> x.grow(8, 5));
        Due.state(x, "one more by a swap", () -> x.swap(1, 7, 5));
        Due.is("leaves that grew", x.count(4), 120);
        Due.indexOutside(x, "leaf", 0, 119, leaf -> x.leaf(leaf, 0));
        x.undo();
        Due.is("leaves that grew, undone", x.count(4), 119);
        Due.is("the last leaf again", x.grow(2, 6), 119);
    }

    private static void oneOfThree() {
        PinnedLeaves x = new PinnedLeaves();
        Due.orders(x, "ga1;gb2;gc3;gd4;e0;e1;n00a;p00");
        String[] orders = {"t1a", "t1b", "w0c3", "k1", "x00", "k0", "k1", "t0c"};
        for (String order : orders) {
            Due.orders(x, order);
            int[] number = new int[3];
            for (int leaf = 0; leaf < x.count(4); leaf++) {
                int where = x.leaf(leaf, 1);
                number[where]++;
                Due.is("on its branch after " + order, x.branch(x.leaf(leaf, 2)) == leaf ? 1 : 0, where == 0 ? 1 : 0);
                Due.is("on a heap after " + order, isOnHeap(x, leaf), where == 1 ? 1 : 0);
            }
            for (int where = 0; where < 3; where++) {
                Due.is("count(" + (5 + where) + ") after " + order, x.count(5 + where), number[where]);
            }
        }
        Due.is("some are burnt at last", x.count(7), 3);
    }

    private static int isOnHeap(PinnedLeaves x, int leaf) {
        int child = x.leaf(leaf, 4);
        for (int place = 0; child != NONE && place < x.child(child, 4); place++) {
            if (x.heap(child, place) == leaf) {
                return 1;
            }
        }
        return 0;
    }

    // ---- children

    private static void fivePlaces() {
        PinnedLeaves x = new PinnedLeaves();
        x.come();
        x.come();
        x.come();
        for (int child = 0; child < 5; child++) {
            Due.is("child " + child + " goes in", x.enter(child), 0);
        }
        Due.is("the places", x.count(0), 31);
        Due.indexOutside(x, "enter", 0, 4, child -> x.enter(child));
        Due.indexOutside(x, "child", 0, 4, child -> x.child(child, 0));
    }

    private static void twoAtFirst() {
        PinnedLeaves x = new PinnedLeaves();
        Due.is("the places", x.count(0), 3);
        Due.is("how many", x.count(1), 2);
        Due.is("child 0", x.child(0, 4), 0);
        Due.is("child 1", x.child(1, 4), 0);
        Due.indexOutside(x, "child", 0, 1, child -> x.child(child, 4));
    }

    private static void restsAtFirst() {
        PinnedLeaves x = new PinnedLeaves();
        x.come();
        x.grow(0, 1);
        for (int child = 0; child < 3; child++) {
            int one = child;
            Due.is("in the yard", x.child(child, 0), 0);
            Due.is("its bell", x.child(child, 1), NONE);
            Due.state(x, "it rests", () -> x.rest(one));
            Due.state(x, "it notes nothing", () -> x.note(one, 0, 0));
            Due.state(x, "it takes nothing off", () -> x.take(one, 0));
            Due.state(x, "it swaps nothing", () -> x.swap(one, 0, 0));
        }
        Due.is("how many are in the yard", x.count(2), 0);
        x.enter(1);
        Due.is("how many are in the yard", x.count(2), 1);
        Due.is("in the yard", x.child(1, 0), 1);
        Due.state(x, "it is in the yard", () -> x.enter(1));
    }

    private static void bellOfComingIn() {
        PinnedLeaves x = new PinnedLeaves();
        x.enter(0);
        Due.is("the first bell", x.child(0, 1), 0);
        x.ring();
        Due.is("it stays", x.child(0, 1), 0);
        x.enter(1);
        Due.is("the bell of now", x.child(1, 1), 1);
        x.rest(0);
        Due.is("who rests has none", x.child(0, 1), NONE);
        x.enter(0);
        Due.is("anew", x.child(0, 1), 1);
        Due.is("anew: not late", x.ring(), 2);
    }

    private static void threeHooks() {
        PinnedLeaves x = new PinnedLeaves();
        Due.orders(x, "ga1;gb2;gc3;e0;e1");
        for (int hook = 0; hook < 3; hook++) {
            Due.is("it notes", x.note(1, hook, hook), hook);
        }
        Due.is("hooks with a note", x.count(9), 3);
        Due.is("hooks of child 0 with a note", x.child(0, 3), 0);
        for (int hook = 0; hook < 3; hook++) {
            Due.is("the leaf", x.hook(1, hook, 1), hook);
        }
        Due.indexOutside(x, "note", 0, 2, hook -> x.note(0, hook, 0));
        Due.indexOutside(x, "hook", 0, 2, hook -> x.hook(1, hook, 0));
    }

    private static void heapInOrder() {
        PinnedLeaves x = new PinnedLeaves();
        x.set(0, 20);
        Due.orders(x, "ga1;gb2;gc3;gd4;ge5;gf6;e0;e1;t0f;t1b;t0a;t1e;t0c;w0d1");
        int[][] heaps = {{5, 0, 2, 3, NONE}, {1, 4, NONE}};
        for (int child = 0; child < 2; child++) {
            for (int place = 0; place < heaps[child].length; place++) {
                Due.is("child " + child + ", place " + place, x.heap(child, place), heaps[child][place]);
            }
        }
    }

    private static void hookIs(PinnedLeaves x, int child, int hook, int... due) {
        for (int what = 0; what < 3; what++) {
            Due.is("hook " + child + ", " + hook + ", number " + what, x.hook(child, hook, what), due[what]);
        }
    }

    private static void kindsOfHooks() {
        PinnedLeaves x = new PinnedLeaves();
        hookIs(x, 0, 0, 0, NONE, NONE);
        hookIs(x, 1, 2, 0, NONE, NONE);
        Due.orders(x, "gb4;ga2;e0;n00a;n02b");
        hookIs(x, 0, 0, 1, 1, 0);
        hookIs(x, 0, 1, 0, NONE, NONE);
        hookIs(x, 0, 2, 1, 0, 1);
        x.pin(0, 2);
        hookIs(x, 0, 2, 2, 0, NONE);
        x.take(0, 0);
        hookIs(x, 0, 0, 1, 1, 0);
        x.pin(0, 0);
        hookIs(x, 0, 0, 0, NONE, NONE);
    }

    private static void emptyHooksInRest() {
        PinnedLeaves x = new PinnedLeaves();
        Due.orders(x, "ga1;e0;e1;n00a;n01a;n02a;p02;n10a;z0");
        for (int hook = 0; hook < 3; hook++) {
            int one = hook;
            hookIs(x, 0, hook, 0, NONE, NONE);
            Due.state(x, "it notes nothing", () -> x.note(0, one, 0));
            Due.state(x, "nothing to pin", () -> x.pin(0, one));
            Due.state(x, "nothing to loosen", () -> x.loosen(0, one));
            Due.state(x, "nothing to look at", () -> x.look(0, one));
        }
        x.enter(0);
        hookIs(x, 0, 2, 0, NONE, NONE);
        hookIs(x, 1, 0, 1, 0, 0);
    }

    private static void heldByOneHook() {
        PinnedLeaves x = new PinnedLeaves();
        x.come();
        x.come();
        x.come();
        Due.orders(x, "ga1;gb2;e0;e4;n40a;n41a;n42a;n00b;p00");
        int[] held = {0, 16, 16, 16};
        for (int pins = 0; pins < 4; pins++) {
            Due.is("held with " + pins + " pins", x.leaf(0, 5), held[pins]);
            Due.is("pins", x.leaf(0, 6), pins);
            if (pins < 3) {
                x.pin(4, pins);
            }
        }
        x.enter(1);
        x.take(1, 0);
        for (int hook = 0; hook < 3; hook++) {
            Due.is("it may not be burnt", x.rake(1), 0);
            Due.is("held before hook " + hook + " is emptied", x.leaf(0, 5), 16);
            x.loosen(4, hook);
        }
        Due.is("held by no hook", x.leaf(0, 5), 0);
        Due.is("held by another child", x.leaf(1, 5), 1);
        Due.is("now it is burnt", x.rake(1), 1);
    }

    // ---- the bell

    private static void eachCameInNow() {
        PinnedLeaves x = new PinnedLeaves();
        x.come();
        x.enter(0);
        x.enter(1);
        Due.is("all came in now", x.ring(), 1);
        Due.state(x, "both are late", () -> x.ring());
        x.rest(0);
        x.enter(0);
        Due.state(x, "child 1 is late", () -> x.ring());
        x.enter(2);
        x.rest(1);
        Due.is("who rests does not keep it", x.ring(), 2);
        x.leave(0);
        Due.state(x, "child 2 is late", () -> x.ring());
        x.leave(2);
        Due.is("who left does not keep it", x.ring(), 3);
    }

    private static void oneMore() {
        PinnedLeaves x = new PinnedLeaves();
        for (int bell = 1; bell <= 5; bell++) {
            Due.is("ring", x.ring(), bell);
            Due.is("the bell", x.count(3), bell);
            Due.is("enter", x.enter(0), bell);
            x.rest(0);
        }
    }

    private static void ringsForNobody() {
        PinnedLeaves x = new PinnedLeaves();
        Due.is("all rest", x.ring(), 1);
        Due.is("all rest", x.ring(), 2);
        x.enter(0);
        x.ring();
        x.rest(0);
        Due.is("all rest again", x.ring(), 4);
        x.leave(0);
        Due.is("the only child rests", x.ring(), 5);
    }

    // ---- putting aside, raking

    private static void ontoTheEnd() {
        PinnedLeaves x = new PinnedLeaves();
        Due.orders(x, "ga1;gb2;gc3;gd4;e0;e1;n10a;p10;t0a;t0b;k0");
        Due.is("one stays", x.heap(0, 0), 0);
        x.take(0, 3);
        Due.is("behind it", x.heap(0, 1), 3);
        x.swap(0, 2, 9);
        Due.is("a swapped one, too", x.heap(0, 2), 2);
        Due.is("no new one", x.heap(0, 3), NONE);
        Due.is("not onto another heap", x.heap(1, 0), NONE);
        x.take(1, 2);
        Due.is("onto the heap of the other child", x.heap(1, 0), 4);
        Due.is("not onto this heap", x.child(0, 4), 3);
    }

    private static void bellOfThen() {
        PinnedLeaves x = new PinnedLeaves();
        Due.orders(x, "ga1;gb2;gc3;e0;e1;t0a;b");
        x.take(0, 1);
        Due.is("not that of the coming in", x.leaf(1, 3), 1);
        Due.orders(x, "z0;z1;b;b;e0");
        Due.is("not that of now", x.leaf(0, 3), 0);
        Due.is("none on a branch", x.leaf(2, 3), NONE);
        x.swap(0, 2, 1);
        Due.is("swapped", x.leaf(2, 3), 3);
        Due.is("the new one", x.leaf(3, 3), NONE);
    }

    private static void rakedAtOnce() {
        PinnedLeaves x = new PinnedLeaves();
        for (int branch = 0; branch < 12; branch++) {
            x.grow(branch, 0);
        }
        Due.orders(x, "e0;e1;n10a;p10;n11b;p11;n12c;p12");
        x.set(0, 3);
        takes(x, 0, 0, 0);
        takes(x, 1, 0, 0);
        takes(x, 2, 0, 1);
        takes(x, 3, 1, 2);
        x.set(0, 4);
        takes(x, 4, 1, 3);
        x.set(0, 5);
        takes(x, 5, 0, 3);
        x.set(0, 1);
        takes(x, 6, 2, 4);
        x.set(0, 20);
        takes(x, 7, 0, 4);
        heldTwenty();
        inheritedHeap();
    }

    private static void takes(PinnedLeaves x, int branch, int burnt, int rakings) {
        Due.is("burnt by taking off " + branch, x.take(0, branch), burnt);
        Due.is("rakings after taking off " + branch, x.count(10), rakings);
    }

    private static void heldTwenty() {
        PinnedLeaves x = new PinnedLeaves();
        x.set(0, 20);
        x.enter(0);
        x.grow(5, 0);
        for (int leaves = 1; leaves < 20; leaves++) {
            x.swap(0, 5, 0);
            Due.is("leaves on the heap", x.child(0, 4), leaves);
        }
        Due.is("19 are not raked", x.count(10), 0);
        Due.is("20 are raked", x.take(0, 5), 20);
        PinnedLeaves y = new PinnedLeaves();
        y.set(0, 1);
        Due.orders(y, "ga1;e0");
        Due.is("1 is raked", y.take(0, 0), 1);
    }

    private static void inheritedHeap() {
        PinnedLeaves x = new PinnedLeaves();
        Due.orders(x, "ga1;gb2;gc3;gd4;ge5;gf6;gg7;e0;e1;t0a;t0b;t0c");
        Due.orders(x, "t1d;t1e;t1f");
        x.leave(0);
        Due.is("six leaves, not raked", x.child(1, 4), 6);
        Due.is("seven leaves with setting 0 as 4", x.take(1, 6), 7);
    }

    private static void othersStayInOrder() {
        PinnedLeaves x = new PinnedLeaves();
        x.set(0, 20);
        Due.orders(x, "ga1;gb2;gc3;gd4;ge5;gf6;e0;e1;n10b;p10;n11e;p11;n12f;p12");
        Due.orders(x, "t0e;t0a;t0b;t0c;t0f;t0d");
        Due.is("burnt", x.rake(0), 3);
        int[] heap = {4, 1, 5, NONE};
        for (int place = 0; place < heap.length; place++) {
            Due.is("place " + place, x.heap(0, place), heap[place]);
        }
        int[] where = {2, 1, 2, 2, 1, 1};
        for (int leaf = 0; leaf < 6; leaf++) {
            Due.is("leaf " + leaf, x.leaf(leaf, 1), where[leaf]);
        }
        x.loosen(1, 1);
        Due.is("the first one is burnt", x.rake(0), 1);
        Due.is("the second one moves up", x.heap(0, 0), 1);
        x.loosen(1, 2);
        Due.is("the last one is burnt", x.rake(0), 1);
        Due.is("the first one stays", x.heap(0, 0), 1);
        Due.is("nothing behind it", x.heap(0, 1), NONE);
        x.loosen(1, 0);
        Due.is("all are burnt", x.rake(0), 1);
        Due.is("an empty heap", x.heap(0, 0), NONE);
    }

    private static void noChildHoldsIt() {
        PinnedLeaves x = new PinnedLeaves();
        x.come();
        Due.orders(x, "ga1;gb2;gc3;gd4;e0;e1;e2;n00a;p00;n10b;p10;n11c;n22d;p22");
        Due.orders(x, "t0a;t0b;t0c");
        Due.is("noted only: burnt, though no bell rang", x.rake(0), 1);
        Due.is("its own pin holds", x.leaf(0, 1), 1);
        Due.is("another's pin holds", x.leaf(1, 1), 1);
        Due.is("a note does not hold", x.leaf(2, 1), 2);
        x.rest(1);
        Due.is("who rests does not hold", x.rake(0), 1);
        x.take(0, 3);
        x.leave(2);
        Due.is("who left does not hold", x.rake(0), 1);
        Due.is("its own pin still holds", x.heap(0, 0), 0);
    }

    private static void twoOrMoreBells() {
        int[] burnt = {0, 0, 1, 1};
        for (int bells = 0; bells < 4; bells++) {
            PinnedLeaves x = new PinnedLeaves();
            x.set(1, 1);
            x.ring();
            Due.orders(x, "ga1;e0;t0a;z0");
            for (int bell = 0; bell < bells; bell++) {
                x.ring();
            }
            Due.is(bells + " bells after it", x.rake(0), burnt[bells]);
        }
        PinnedLeaves y = new PinnedLeaves();
        y.set(1, 1);
        Due.orders(y, "e0;b;z0;b;b;ga1;e0;t0a");
        Due.is("bells before it do not count", y.rake(0), 0);
    }

    private static void allHooksOnce() {
        int[] looked = {0, 3, 6, 9, 12, 15};
        for (int children = 1; children <= 5; children++) {
            PinnedLeaves x = new PinnedLeaves();
            Due.orders(x, "ga1;gb2;gc3;e1;n10a;p10;n11b");
            for (int more = 2; more < children; more++) {
                x.come();
            }
            if (children == 1) {
                x.leave(0);
            }
            Due.orders(x, "t1a;t1b;t1c;k1");
            Due.is("hooks of " + children + " children", x.count(11), looked[children]);
            x.rake(1);
            Due.is("once more", x.count(11), 2 * looked[children]);
            x.set(0, 2);
            Due.orders(x, "gd1;t1d");
            Due.is("raked at once", x.count(11), 3 * looked[children]);
        }
    }

    private static void noHookByBell() {
        PinnedLeaves x = new PinnedLeaves();
        x.set(1, 1);
        Due.orders(x, "ga1;gb2;e0;t0a;k0");
        x.set(0, 1);
        x.take(0, 1);
        Due.is("rakings", x.count(10), 2);
        Due.is("hooks", x.count(11), 0);
        x.set(1, 0);
        x.rake(0);
        Due.is("hooks, with setting 1 as 0 again", x.count(11), 6);
        x.set(1, 1);
        Due.is("hooks that were looked through stay", x.count(11), 6);
    }

    // ---- settings

    private static void settingNought() {
        PinnedLeaves x = new PinnedLeaves();
        Due.is("at first", x.setting(0), 4);
        int before = 4;
        for (int value = 1; value <= 20; value++) {
            Due.is("the previous one", x.set(0, value), before);
            Due.is("now", x.setting(0), value);
            before = value;
        }
        Due.argumentOutside(x, "set", 1, 20, value -> x.set(0, value));
        Due.is("the other setting", x.setting(1), 0);
    }

    private static void settingOne() {
        PinnedLeaves x = new PinnedLeaves();
        Due.is("at first", x.setting(1), 0);
        Due.is("the previous one", x.set(1, 1), 0);
        Due.is("now", x.setting(1), 1);
        Due.is("the previous one", x.set(1, 0), 1);
        Due.is("now", x.setting(1), 0);
        Due.argumentOutside(x, "set", 0, 1, value -> x.set(1, value));
        Due.is("the other setting", x.setting(0), 4);
    }

    private static void setRakesNoHeap() {
        PinnedLeaves x = new PinnedLeaves();
        Due.orders(x, "ga1;gb2;gc3;e0;e1;t0a;t0b;t1c");
        x.set(0, 2);
        Due.is("a heap with as many", x.count(10), 0);
        x.set(0, 1);
        Due.is("heaps with at least as many", x.count(10), 0);
        x.set(1, 1);
        x.set(1, 0);
        Due.is("by the other setting", x.count(10), 0);
        Due.is("aside", x.count(6), 3);
        Due.is("burnt", x.count(7), 0);
    }
}
