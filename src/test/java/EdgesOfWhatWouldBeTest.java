/** The sentences of promises 31 to 40 that name a boundary case, each with a test of its own. */
public final class EdgesOfWhatWouldBeTest {
    private static final int NONE = PinnedLeaves.NONE;

    public static void main(String[] args) {
        ifRaked();
        bestRake();
        ifLoosened();
        late();
        ifRested();
        mostHeld();
        shares();
        digest();
        Due.end("EdgesOfWhatWouldBeTest");
    }

    private static void ifRaked() {
        Due.sentence("Promise 31", "Tells how many leaves raking a heap would burn.", EdgesOfWhatWouldBeTest::wouldBurn);
        Due.sentence("Promise 31", "- `setting`: 0 or 1: as if setting 1 was so", EdgesOfWhatWouldBeTest::asIfItWasSo);
        Due.sentence("Promise 31", "Returns how many, 0 for an empty heap.", EdgesOfWhatWouldBeTest::emptyHeap);
        Due.sentence("Promise 31", "Throws `IndexOutOfBoundsException` if there is no such child",
                EdgesOfWhatWouldBeTest::noChildToRake);
        Due.sentence("Promise 31", "Throws `IllegalArgumentException` if setting is neither",
                EdgesOfWhatWouldBeTest::neitherSetting);
    }

    private static void bestRake() {
        Due.sentence("Promise 32", "Returns the child by raking whose heap most leaves would be burnt",
                EdgesOfWhatWouldBeTest::mostBurnt);
        Due.sentence("Promise 32", "of several the one with the most leaves on it",
                EdgesOfWhatWouldBeTest::mostLeavesOnIt);
        Due.sentence("Promise 32", "of several of these the lowest;", EdgesOfWhatWouldBeTest::lowestOfThese);
        Due.sentence("Promise 32", "NONE if by none any leaf would be.", EdgesOfWhatWouldBeTest::noneToRake);
    }

    private static void ifLoosened() {
        Due.sentence("Promise 33", "Returns how many leaves aside that are held by somebody now would not be held any "
                + "more (0 or 1).", EdgesOfWhatWouldBeTest::notHeldAnyMore);
        Due.sentence("Promise 33", "- `hook`: 0 to 2", EdgesOfWhatWouldBeTest::eachHook);
        Due.sentence("Promise 33", "Throws `IndexOutOfBoundsException` if there is no such child or hook",
                EdgesOfWhatWouldBeTest::noHookToLoosen);
    }

    private static void late() {
        Due.sentence("Promise 34", "Returns the children in the yard who did not come in at the bell of now, as a mask.",
                EdgesOfWhatWouldBeTest::lateChildren);
        Due.sentence("Promise 34", "Finds who keeps the bell from ringing.", EdgesOfWhatWouldBeTest::lateKeepsTheBell);
    }

    private static void ifRested() {
        Due.sentence("Promise 35", "Tells how many leaves would be burnt if a child rested, and then all heaps were "
                + "raked, from the child 0 on.", EdgesOfWhatWouldBeTest::ifOneRested);
        Due.sentence("Promise 35", "(one who rests goes on resting)", EdgesOfWhatWouldBeTest::goesOnResting);
        Due.sentence("Promise 35", "Throws `IndexOutOfBoundsException` if there is no such child",
                EdgesOfWhatWouldBeTest::noChildToRest);
        Due.sentence("Promise 36", "Tells how many leaves would be burnt by bells: if all children rested, the bell "
                + "rang twice, and then all heaps were raked, with setting 1 as it is.",
                EdgesOfWhatWouldBeTest::ifAllRested);
    }

    private static void mostHeld() {
        Due.sentence("Promise 37", "Returns the number of the leaf that most hooks pin",
                EdgesOfWhatWouldBeTest::mostHooksPin);
        Due.sentence("Promise 37", "of several the lowest;", EdgesOfWhatWouldBeTest::lowestHeld);
        Due.sentence("Promise 37", "NONE if none pins any.", EdgesOfWhatWouldBeTest::nonePinsAny);
    }

    private static void shares() {
        Due.sentence("Promise 38", "Returns the burnt leaves, as a double, divided by those that are burnt or aside;",
                EdgesOfWhatWouldBeTest::burntOrAside);
        Due.sentence("Promise 38", "1.0 without any.", EdgesOfWhatWouldBeTest::withoutAny);
        Due.sentence("Promise 39", "Returns the leaves aside, as a float, divided by (setting 0 times the number of "
                + "children).", EdgesOfWhatWouldBeTest::howFull);
    }

    private static void digest() {
        Due.sentence("Promise 40", "The hash starts at 3347.", EdgesOfWhatWouldBeTest::hashOfANewObject);
        Due.sentence("Promise 40", "in long arithmetic with overflow.", EdgesOfWhatWouldBeTest::hashOverflows);
        Due.sentence("Promise 40", "for each leaf that grew so far its numbers 0 to 7, and why;",
                EdgesOfWhatWouldBeTest::hashOfAllLeaves);
        Due.sentence("Promise 40", "for each child that there is", EdgesOfWhatWouldBeTest::hashOfChildrenThere);
        Due.sentence("Promise 40", "its numbers 0 to 7, for each hook its numbers 0 to 2 and ifLoosened, the leaves of "
                + "its heap, ifRaked with 0 and 1, and ifRested;", EdgesOfWhatWouldBeTest::hashOfNumbersOfAChild);
        Due.sentence("Promise 40", "the bits of burntShare (as Double.doubleToLongBits); the bits of fullness (as "
                + "Float.floatToIntBits);", EdgesOfWhatWouldBeTest::hashOfShares);
        Due.sentence("Promise 40", "1 if there is a snapshot, otherwise 0;", EdgesOfWhatWouldBeTest::hashOfASnapshot);
        Due.sentence("Promise 40", "the length of the buffer and each of its character codes.",
                EdgesOfWhatWouldBeTest::hashOfTheBuffer);
        Due.sentence("The interface", "what would be; nothing is changed.", EdgesOfWhatWouldBeTest::nothingIsChanged);
    }

    /** Children 0 and 1 are in the yard, with a leaf on each branch, and no heap is raked by itself. */
    private static PinnedLeaves full() {
        PinnedLeaves x = new PinnedLeaves();
        x.set(0, 20);
        Due.orders(x, "ga0;gb1;gc2;gd3;ge4;gf5;gg6;gh7;gi8;gj9;gk0;gl1;e0;e1");
        return x;
    }

    // ---- promise 31

    private static void wouldBurn() {
        PinnedLeaves x = full();
        Due.orders(x, "n10a;p10;n11c;t0a;t0b;t0c;t1d");
        Due.is("not the held one", x.ifRaked(0, 0), 2);
        Due.is("of the other heap", x.ifRaked(1, 0), 1);
        Due.is("as raking does", x.rake(0), 2);
        Due.is("none", x.ifRaked(0, 0), 0);
        x.loosen(1, 0);
        Due.is("the last one", x.ifRaked(0, 0), 1);
        x.rest(0);
        Due.is("who rests", x.ifRaked(0, 0), 1);
        PinnedLeaves y = full();
        Due.orders(y, "n02a;p02;t0a;t1b");
        Due.is("held by child 0 itself", y.ifRaked(0, 0), 0);
        Due.is("of the other heap", y.ifRaked(1, 0), 1);
    }

    private static void asIfItWasSo() {
        PinnedLeaves x = full();
        Due.orders(x, "n10a;p10;t0a;b;t0b;t0c");
        int[] byPins = {2, 3, 3, 3};
        int[] byBell = {0, 1, 3, 3};
        for (int bells = 0; bells < 4; bells++) {
            for (int setting = 0; setting < 2; setting++) {
                x.set(1, setting);
                Due.is("0 with " + bells + " more bells", x.ifRaked(0, 0), byPins[bells]);
                Due.is("1 with " + bells + " more bells", x.ifRaked(0, 1), byBell[bells]);
                Due.is("setting 1 stays", x.setting(1), setting);
            }
            if (bells == 0) {
                Due.orders(x, "z0;z1");
            }
            x.ring();
        }
    }

    private static void emptyHeap() {
        PinnedLeaves x = full();
        Due.is("by pins", x.ifRaked(0, 0), 0);
        Due.is("by the bell", x.ifRaked(0, 1), 0);
        Due.orders(x, "t1a;t0b;k0");
        Due.is("raked", x.ifRaked(0, 0), 0);
        x.leave(1);
        Due.is("its heir's", x.ifRaked(0, 0), 1);
        x.come();
        Due.is("who comes", x.ifRaked(1, 0), 0);
    }

    private static void noChildToRake() {
        PinnedLeaves x = full();
        Due.indexOutside(x, "ifRaked", 0, 1, child -> x.ifRaked(child, 0));
        Due.indexOutside(x, "ifRaked, no setting either", 0, 1, child -> x.ifRaked(child, 2));
        x.leave(0);
        Due.index(x, "who left", () -> x.ifRaked(0, 1));
    }

    private static void neitherSetting() {
        PinnedLeaves x = full();
        Due.argumentOutside(x, "an empty heap", 0, 1, setting -> x.ifRaked(0, setting));
        x.take(0, 0);
        Due.argumentOutside(x, "a heap", 0, 1, setting -> x.ifRaked(0, setting));
    }

    // ---- promise 32

    private static void mostBurnt() {
        PinnedLeaves x = full();
        Due.orders(x, "n10a;p10;n11b;p11;t0a;t0b;t0c;t1d;t1e");
        Due.is("two, though the other heap has three leaves", x.bestRake(), 1);
        x.loosen(1, 0);
        x.loosen(1, 1);
        Due.is("three", x.bestRake(), 0);
        x.rake(0);
        Due.is("the other one", x.bestRake(), 1);
        x.rest(1);
        Due.is("who rests", x.bestRake(), 1);
        PinnedLeaves y = full();
        Due.orders(y, "n01a;p01;n02b;p02;t0a;t0b;t1c");
        Due.is("held by child 0 itself", y.bestRake(), 1);
    }

    private static void mostLeavesOnIt() {
        PinnedLeaves x = full();
        x.come();
        Due.orders(x, "e2;n10a;p10;t0b;t1c;t2d");
        x.take(2, 0);
        Due.is("one of each would be burnt", x.bestRake(), 2);
        Due.orders(x, "n11e;p11;t1e");
        Due.is("of two with two leaves the lowest", x.bestRake(), 1);
        Due.orders(x, "n12f;p12;t0f");
        Due.is("of three with two leaves the lowest", x.bestRake(), 0);
        x.come();
        Due.orders(x, "e3;n30g;p30;t2g");
        Due.is("with three leaves", x.bestRake(), 2);
    }

    private static void lowestOfThese() {
        PinnedLeaves x = full();
        x.come();
        x.come();
        x.come();
        Due.orders(x, "e2;e3;e4;t4a;t3b");
        Due.is("of 3 and 4", x.bestRake(), 3);
        x.take(1, 2);
        Due.is("of 1, 3 and 4", x.bestRake(), 1);
        x.take(0, 3);
        Due.is("of 0, 1, 3 and 4", x.bestRake(), 0);
        x.leave(0);
        Due.is("two leaves came onto one heap", x.bestRake(), 1);
        Due.orders(x, "t4e;t3f");
        Due.is("of 1, 3 and 4 again", x.bestRake(), 1);
    }

    private static void noneToRake() {
        PinnedLeaves x = full();
        Due.is("empty heaps", x.bestRake(), NONE);
        Due.orders(x, "n10a;p10;t0a");
        Due.is("held", x.bestRake(), NONE);
        x.take(1, 1);
        Due.is("one would be", x.bestRake(), 1);
        x.set(1, 1);
        Due.is("none by the bell", x.bestRake(), NONE);
        x.ring();
        Due.is("one bell", x.bestRake(), NONE);
        Due.orders(x, "z0;z1;b");
        Due.is("two bells", x.bestRake(), 0);
        Due.orders(x, "k0;k1");
        Due.is("all are burnt", x.bestRake(), NONE);
    }

    // ---- promise 33

    private static void notHeldAnyMore() {
        PinnedLeaves x = full();
        Due.orders(x, "n00a;p00;n01a;p01;n10a;p10;n11b;n12c;p12");
        Due.is("it is on a branch", x.ifLoosened(1, 2), 0);
        Due.orders(x, "t0a;t0b;t0c");
        Due.is("the only pin", x.ifLoosened(1, 2), 1);
        Due.is("a note", x.ifLoosened(1, 1), 0);
        Due.is("empty", x.ifLoosened(0, 2), 0);
        Due.is("three pins", x.ifLoosened(0, 0), 0);
        x.loosen(1, 0);
        Due.is("two pins of one child", x.ifLoosened(0, 0), 0);
        x.loosen(0, 1);
        Due.is("the last one", x.ifLoosened(0, 0), 1);
        x.set(1, 1);
        Due.is("whatever setting 1 is", x.ifLoosened(0, 0), 1);
        x.rake(0);
        Due.is("not burnt", x.ifLoosened(0, 0), 1);
        PinnedLeaves y = full();
        Due.orders(y, "n00a;p00;n10a;p10;n01a;t0a;n02b;p02");
        Due.is("another one is on a branch", y.ifLoosened(0, 2), 0);
        Due.is("two pins of two children", y.ifLoosened(0, 0), 0);
        y.rest(1);
        Due.is("the other one rests", y.ifLoosened(0, 0), 1);
        Due.is("a note of what one other hook pins", y.ifLoosened(0, 1), 0);
    }

    private static void eachHook() {
        PinnedLeaves x = full();
        Due.orders(x, "n00a;n01b;n02c;p00;p01;p02;t1a;t1b;t1c");
        for (int hook = 0; hook <= 2; hook++) {
            Due.is("hook " + hook, x.ifLoosened(0, hook), 1);
            Due.is("of the other child", x.ifLoosened(1, hook), 0);
        }
    }

    private static void noHookToLoosen() {
        PinnedLeaves x = full();
        Due.indexOutside(x, "child", 0, 1, child -> x.ifLoosened(child, 0));
        Due.indexOutside(x, "hook", 0, 2, hook -> x.ifLoosened(0, hook));
        Due.indexOutside(x, "hook", 0, 2, hook -> x.ifLoosened(1, hook));
        x.leave(1);
        Due.index(x, "who left", () -> x.ifLoosened(1, 0));
    }

    // ---- promise 34

    private static void lateChildren() {
        PinnedLeaves x = new PinnedLeaves();
        x.come();
        x.come();
        x.come();
        Due.is("all rest", x.late(), 0);
        Due.orders(x, "e0;e4;e2");
        Due.is("all came in at the bell of now", x.late(), 0);
        x.ring();
        Due.is("all in the yard", x.late(), 21);
        x.enter(1);
        Due.is("not who came in now", x.late(), 21);
        x.rest(4);
        Due.is("not who rests", x.late(), 5);
        x.enter(4);
        Due.is("not who came in anew", x.late(), 5);
        x.leave(0);
        Due.is("not who left", x.late(), 4);
        x.come();
        Due.is("not who came", x.late(), 4);
    }

    private static void lateKeepsTheBell() {
        PinnedLeaves x = new PinnedLeaves();
        x.enter(1);
        Due.is("nobody", x.late(), 0);
        Due.is("it rings", x.ring(), 1);
        Due.is("child 1", x.late(), 2);
        Due.state(x, "it does not ring", () -> x.ring());
        x.rest(1);
        Due.is("nobody", x.late(), 0);
        Due.is("it rings", x.ring(), 2);
    }

    // ---- promises 35 and 36

    private static void ifOneRested() {
        PinnedLeaves x = full();
        Due.orders(x, "n00a;p00;n01b;p01;n10b;p10;n11c;p11;n12d;p12");
        Due.is("nothing is aside", x.ifRested(0), 0);
        Due.orders(x, "t0a;t1b;t0c;t1d;t1e");
        Due.is("child 0: one that it held, one that nobody holds", x.ifRested(0), 2);
        Due.is("child 1: two that it held, one that nobody holds", x.ifRested(1), 3);
        x.set(1, 1);
        Due.is("by the bell none", x.ifRested(1), 0);
        x.ring();
        Due.is("one bell", x.ifRested(1), 0);
        Due.orders(x, "z0;z1;b");
        Due.is("two bells", x.ifRested(1), 5);
        Due.is("two bells", x.ifRested(0), 5);
        PinnedLeaves y = full();
        Due.orders(y, "n00a;p00;n01a;p01;t0a");
        Due.is("held by two hooks of the one", y.ifRested(0), 1);
        Due.is("held by another", y.ifRested(1), 0);
        y.come();
        y.come();
        y.come();
        Due.orders(y, "e3;e4;n42b;p42;t3b;t4c");
        Due.is("the heaps of 3 and 4, too", y.ifRested(1), 1);
        Due.is("what 4 held, too", y.ifRested(4), 2);
    }

    private static void goesOnResting() {
        PinnedLeaves x = full();
        x.come();
        Due.orders(x, "n00a;p00;t1a;t1b");
        Due.is("who rests", x.ifRested(2), 1);
        x.rest(1);
        Due.is("who rests, with a heap", x.ifRested(1), 1);
        Due.is("who does not", x.ifRested(0), 2);
    }

    private static void noChildToRest() {
        PinnedLeaves x = full();
        x.take(0, 0);
        Due.indexOutside(x, "ifRested", 0, 1, child -> x.ifRested(child));
        x.leave(0);
        Due.index(x, "who left", () -> x.ifRested(0));
    }

    private static void ifAllRested() {
        PinnedLeaves x = full();
        Due.is("nothing is aside", x.ifAllRested(), 0);
        Due.orders(x, "n00a;p00;n11b;p11;t1a;t0b;t0c");
        Due.is("by pins: nobody holds any more", x.ifAllRested(), 3);
        x.set(1, 1);
        Due.is("by the bell: two bells rang", x.ifAllRested(), 3);
        x.ring();
        Due.is("though one is late now", x.ifAllRested(), 3);
        x.take(0, 3);
        Due.is("with one of the bell of now", x.ifAllRested(), 4);
        Due.orders(x, "z0;z1;b;k0");
        Due.is("two are burnt", x.ifAllRested(), 2);
        Due.is("the bell", x.count(3), 2);
    }

    // ---- promise 37

    private static void mostHooksPin() {
        PinnedLeaves x = full();
        Due.orders(x, "n00a;p00;n01l;p01;n10l;n11l;n12l");
        Due.is("notes do not count", x.mostHeld(), 0);
        x.pin(1, 0);
        Due.is("of two children", x.mostHeld(), 11);
        x.take(1, 11);
        Due.is("aside", x.mostHeld(), 11);
        x.rest(1);
        Due.is("one each", x.mostHeld(), 0);
        Due.orders(x, "n02c;p02;e1;n10c;p10");
        Due.is("two", x.mostHeld(), 2);
    }

    private static void lowestHeld() {
        PinnedLeaves x = full();
        Due.orders(x, "n00l;p00;n01b;p01");
        Due.is("of 11 and 1", x.mostHeld(), 1);
        Due.orders(x, "n10l;p10;n11b;p11");
        Due.is("of two by two", x.mostHeld(), 1);
        Due.orders(x, "x01;n12a;p12");
        Due.is("only one is by two", x.mostHeld(), 11);
        x.rest(0);
        Due.is("of 0, 1 and 11", x.mostHeld(), 0);
    }

    private static void nonePinsAny() {
        PinnedLeaves x = new PinnedLeaves();
        Due.is("none grew", x.mostHeld(), NONE);
        Due.orders(x, "ga1;e0;n00a");
        Due.is("noted", x.mostHeld(), NONE);
        x.pin(0, 0);
        Due.is("pinned", x.mostHeld(), 0);
        x.rest(0);
        Due.is("not pinned any more", x.mostHeld(), NONE);
    }

    // ---- promises 38 and 39

    private static void burntOrAside() {
        PinnedLeaves x = full();
        Due.orders(x, "n10a;p10;t0a");
        Due.isShare("0 of 1", x.burntShare(), 0.0);
        Due.orders(x, "t0b;k0");
        Due.isShare("1 of 2", x.burntShare(), 0.5);
        Due.orders(x, "t0c;k0");
        Due.isShare("2 of 3", x.burntShare(), 2.0 / 3.0);
        x.take(1, 3);
        x.take(1, 4);
        Due.isShare("2 of 5", x.burntShare(), 0.4);
        x.rest(1);
        Due.orders(x, "k0");
        Due.isShare("3 of 5", x.burntShare(), 0.6);
        x.rake(1);
        Due.isShare("5 of 5", x.burntShare(), 1.0);
    }

    private static void withoutAny() {
        PinnedLeaves x = new PinnedLeaves();
        Due.isShare("none grew", x.burntShare(), 1.0);
        Due.orders(x, "ga1;gb2;e0;n00a;p00");
        Due.isShare("all are on branches", x.burntShare(), 1.0);
        x.take(0, 0);
        Due.isShare("one is aside", x.burntShare(), 0.0);
        x.undo();
        Due.isShare("undone", x.burntShare(), 1.0);
    }

    private static void howFull() {
        PinnedLeaves x = full();
        Due.isShare("none", x.fullness(), 0.0f);
        x.take(0, 0);
        Due.isShare("1 of 40", x.fullness(), 1.0f / 40.0f);
        x.take(1, 1);
        Due.isShare("2 of 40, of both heaps", x.fullness(), 2.0f / 40.0f);
        x.set(0, 1);
        Due.isShare("2 of 2", x.fullness(), 1.0f);
        x.come();
        Due.isShare("2 of 3", x.fullness(), 2.0f / 3.0f);
        x.leave(0);
        x.leave(2);
        Due.isShare("2 of 1", x.fullness(), 2.0f);
        x.rake(1);
        Due.isShare("burnt ones do not count", x.fullness(), 0.0f);
    }

    // ---- promise 40

    /** The hash goes on with more values. */
    private static long hash(long before, long... values) {
        long hash = before;
        for (long value : values) {
            hash = 31 * hash + value;
        }
        return hash;
    }

    private static long hashOfChild(long before, int heap) {
        long hash = hash(before, 0, -1, 0, 0, heap, heap, 0, 0);
        hash = hash(hash, 0, -1, -1, 0, 0, -1, -1, 0, 0, -1, -1, 0);
        return hash(hash, 0, 0, 0);
    }

    private static void hashOfANewObject() {
        long hash = hash(3347, 3, 2, 0, 0, 0, 0, 0, 0, 0, 0, 0, 0, 0, 0, 0, 0, 4, 0);
        hash = hash(hash, -1, -1, -1, -1, -1, -1, -1, -1, -1, -1, -1, -1);
        hash = hashOfChild(hashOfChild(hash, 0), 0);
        hash = hash(hash, -1, 0, 0, -1, Double.doubleToLongBits(1.0), Float.floatToIntBits(0.0f), 0, 0);
        Due.is("a new object", new PinnedLeaves().digest(), hash);
    }

    private static void hashOverflows() {
        PinnedLeaves x = new PinnedLeaves();
        int below = 0;
        for (int call = 0; call < 20; call++) {
            x.ring();
            below += x.digest() < 0 ? 1 : 0;
        }
        Due.is("some are below 0", below > 0 && below < 20 ? 1 : 0, 1);
    }

    private static void differs(String what, PinnedLeaves x, PinnedLeaves y) {
        Due.is(what + " makes another hash", x.digest() == y.digest() ? 1 : 0, 0);
    }

    private static void hashOfAllLeaves() {
        PinnedLeaves x = full();
        PinnedLeaves y = full();
        Due.is("the same calls", x.digest(), y.digest());
        Due.orders(x, "t0a;k0;ga1");
        Due.orders(y, "t0a;k0;ga2");
        differs("the colour of the last leaf", x, y);
        x.undo();
        y.undo();
        Due.is("undone, a leaf that did not grow is not in it", x.digest(), y.digest());
        Due.orders(x, "t0a;b");
        Due.orders(y, "b;t0a");
        differs("the bell that was noted for a leaf", x, y);
    }

    /** What child 1 had and did differs in the two runs, but it left. */
    private static void hashOfChildrenThere() {
        PinnedLeaves x = new PinnedLeaves();
        PinnedLeaves y = new PinnedLeaves();
        Due.orders(x, "ga1;b;e1;n10a;n12a;p12");
        Due.orders(y, "ga1;b");
        differs("a child that is there", x, y);
        x.leave(1);
        y.leave(1);
        Due.is("one who left is not in it", x.digest(), y.digest());
        x.come();
        y.come();
        Due.is("nor when one comes there again", x.digest(), y.digest());
    }

    private static void hashOfNumbersOfAChild() {
        String[] orders = {"e0", "e1", "e0;e1", "e0;n00a", "e1;n11a", "e1;n12a", "e1;n12b", "e1;n12a;p12", "e1;t1a",
            "e1;t1b", "e1;t1a;t1b", "e1;t1b;t1a", "e1;t1b;k1", "e1;t1a;k1", "e1;n12b;p12;t1b", "e1;e0;n02b;p02;t1b"};
        for (int one = 0; one < orders.length; one++) {
            for (int other = one + 1; other < orders.length; other++) {
                PinnedLeaves x = new PinnedLeaves();
                PinnedLeaves y = new PinnedLeaves();
                Due.orders(x, "ga1;gb1");
                Due.orders(x, orders[one]);
                Due.orders(y, "ga1;gb1");
                Due.orders(y, orders[other]);
                differs(orders[one] + " or " + orders[other], x, y);
            }
        }
    }

    private static void hashOfShares() {
        PinnedLeaves x = full();
        Due.orders(x, "n10a;p10;t0a;t0b;k0");
        long hash = hash(3347, 3, 2, 2, 0, 12, 10, 1, 1, 1, 0, 1, 6, 0, 0, 2, x.count(15), 20, 0);
        hash = hash(hash, -1, -1, 2, 3, 4, 5, 6, 7, 8, 9, 10, 11);
        hash = hash(hash, 0, 1, 0, 0, 0, 2, 1, 0, 2);
        hash = hash(hash, 1, 2, 1, 0, -1, 0, 0, 0, 0);
        for (int leaf = 2; leaf < 12; leaf++) {
            hash = hash(hash, leaf % 10, 0, leaf, -1, -1, 0, 0, 0, 1);
        }
        hash = hash(hash, 1, 0, 0, 0, 1, 2, 1, 1, 0, -1, -1, 0, 0, -1, -1, 0, 0, -1, -1, 0, 0, 0, 0, 0);
        hash = hash(hash, 1, 0, 1, 0, 0, 0, 0, 0, 2, 0, -1, 1, 0, -1, -1, 0, 0, -1, -1, 0, 0, 0, 1);
        hash = hash(hash, -1, 0, 1, 0);
        hash = hash(hash, Double.doubleToLongBits(0.5), Float.floatToIntBits(1.0f / 40.0f), 0, 0);
        Due.is("digest", x.digest(), hash);
        fullHeap();
    }

    /** The last child has the heap, and it is fuller than full: 3 of 2; by the bell none would be burnt. */
    private static void fullHeap() {
        PinnedLeaves x = new PinnedLeaves();
        x.come();
        x.come();
        x.come();
        Due.orders(x, "ga1;gb3;gc4");
        Due.orders(x, "e4;t4b;t4a;t4c");
        x.leave(0);
        x.leave(1);
        x.leave(2);
        x.set(0, 1);
        long hash = hash(3347, 24, 2, 1, 0, 3, 0, 3, 0, 0, 0, 0, 0, 0, 0, 3, 6, 1, 0);
        hash = hash(hash, -1, -1, -1, -1, -1, -1, -1, -1, -1, -1, -1, -1);
        hash = hash(hash, 1, 1, 0, 0, 4, 0, 0, 0, 3, 3, 1, 1, 0, 4, 0, 0, 0, 3, 4, 1, 2, 0, 4, 0, 0, 0, 3);
        hash = hash(hash, 0, -1, 0, 0, 0, 0, 0, 0, 0, -1, -1, 0, 0, -1, -1, 0, 0, -1, -1, 0, 0, 0, 3);
        hash = hash(hash, 1, 0, 0, 0, 3, 3, 0, 0, 0, -1, -1, 0, 0, -1, -1, 0, 0, -1, -1, 0, 1, 0, 2, 3, 0, 3);
        hash = hash(hash, 4, 0, 3, -1, Double.doubleToLongBits(0.0), Float.floatToIntBits(1.5f), 0, 0);
        Due.is("digest", x.digest(), hash);
    }

    private static void hashOfASnapshot() {
        PinnedLeaves x = new PinnedLeaves();
        long without = x.digest();
        x.keep();
        Due.is("with a snapshot, an empty buffer", x.digest() - without, 31);
        x.keep();
        Due.is("another one", x.digest() - without, 31);
        x.ring();
        x.undo();
        Due.is("behind undo", x.digest() - without, 31);
    }

    private static void hashOfTheBuffer() {
        PinnedLeaves x = new PinnedLeaves();
        long empty = x.digest();
        long hash = empty;
        for (int length = 1; length <= 60; length++) {
            int code = length % 2 == 0 ? 33 : 126;
            x.append(code);
            hash = empty - hash(0, 0) + length;
            for (int at = 1; at <= length; at++) {
                hash = hash(hash, at % 2 == 0 ? 33 : 126);
            }
            Due.is("with " + length, x.digest(), hash);
        }
        x.clearBuffer();
        Due.is("cleared", x.digest(), empty);
    }

    private static void nothingIsChanged() {
        PinnedLeaves x = full();
        Due.orders(x, "n10a;p10;n11b;t0a;t0b");
        Due.write(x, "b;");
        long before = x.digest();
        for (int child = 0; child < 2; child++) {
            x.ifRaked(child, 0);
            x.ifRaked(child, 1);
            x.ifLoosened(child, 0);
            x.ifRested(child);
        }
        x.bestRake();
        x.late();
        x.ifAllRested();
        x.mostHeld();
        x.burntShare();
        x.fullness();
        Due.is("digest", x.digest(), before);
        Due.is("digest", x.digest(), before);
    }
}
