/** The sentences of promises 7 to 15 that name a boundary case, each with a test of its own. */
public final class EdgesOfLeavesTest {
    private static final int NONE = PinnedLeaves.NONE;

    public static void main(String[] args) {
        grow();
        note();
        pin();
        loosen();
        look();
        take();
        swap();
        rake();
        set();
        Due.end("EdgesOfLeavesTest");
    }

    private static void grow() {
        Due.sentence("Promise 7", "Lets a leaf grow.", EdgesOfLeavesTest::leafGrows);
        Due.sentence("Promise 7", "Undoable.", EdgesOfLeavesTest::growUndone);
        Due.sentence("Promise 7", "- `branch`: 0 to 11", EdgesOfLeavesTest::growsOnEachBranch);
        Due.sentence("Promise 7", "- `colour`: 0 to 9", EdgesOfLeavesTest::growsInEachColour);
        Due.sentence("Promise 7", "Returns its number.", EdgesOfLeavesTest::numberOfTheGrown);
        Due.sentence("Promise 7", "Throws `IndexOutOfBoundsException` if there is no such branch",
                EdgesOfLeavesTest::growsOnNoBranch);
        Due.sentence("Promise 7", "Throws `IllegalArgumentException` if colour is out of range",
                EdgesOfLeavesTest::growsInNoColour);
        Due.sentence("Promise 7", "Throws `IllegalStateException` if there is a leaf on it",
                EdgesOfLeavesTest::branchHasALeaf);
        Due.sentence("Promise 7", "or 120 leaves grew so far", EdgesOfLeavesTest::allGrew);
    }

    private static void note() {
        Due.sentence("Promise 8", "Lets a child note the leaf on a branch with an empty hook.",
                EdgesOfLeavesTest::notes);
        Due.sentence("Promise 8", "Undoable.", EdgesOfLeavesTest::noteUndone);
        Due.sentence("Promise 8", "- `hook`: 0 to 2", EdgesOfLeavesTest::notesWithEachHook);
        Due.sentence("Promise 8", "- `branch`: 0 to 11", EdgesOfLeavesTest::notesOnEachBranch);
        Due.sentence("Promise 8", "Returns the number of the leaf.", EdgesOfLeavesTest::numberOfTheNoted);
        Due.sentence("Promise 8", "Throws `IndexOutOfBoundsException` if there is no such child, hook or branch",
                EdgesOfLeavesTest::notesOutOfRange);
        Due.sentence("Promise 8", "Throws `IllegalStateException` if the child rests",
                EdgesOfLeavesTest::noteOfOneWhoRests);
        Due.sentence("Promise 8", "the hook is not empty", EdgesOfLeavesTest::noteOnAFullHook);
        Due.sentence("Promise 8", "or there is no leaf on the branch", EdgesOfLeavesTest::noteOfNoLeaf);
    }

    private static void pin() {
        Due.sentence("Promise 9", "if this leaf is still on the branch of the note, the hook pins it",
                EdgesOfLeavesTest::stillOnTheBranch);
        Due.sentence("Promise 9", "otherwise the hook becomes empty.", EdgesOfLeavesTest::notOnTheBranch);
        Due.sentence("Promise 9", "Undoable.", EdgesOfLeavesTest::pinUndone);
        Due.sentence("Promise 9", "- `hook`: 0 to 2", EdgesOfLeavesTest::pinsWithEachHook);
        Due.sentence("Promise 9", "Returns 1 if it pins the leaf, otherwise 0.", EdgesOfLeavesTest::oneOrNought);
        Due.sentence("Promise 9", "Throws `IndexOutOfBoundsException` if there is no such child or hook",
                EdgesOfLeavesTest::pinsOutOfRange);
        Due.sentence("Promise 9", "Throws `IllegalStateException` if the hook has no note",
                EdgesOfLeavesTest::pinsWithoutANote);
    }

    private static void loosen() {
        Due.sentence("Promise 10", "Empties a hook.", EdgesOfLeavesTest::emptiesAHook);
        Due.sentence("Promise 10", "Undoable.", EdgesOfLeavesTest::loosenUndone);
        Due.sentence("Promise 10", "- `hook`: 0 to 2", EdgesOfLeavesTest::loosensEachHook);
        Due.sentence("Promise 10", "Returns the number of the leaf that it had a note of, or pinned.",
                EdgesOfLeavesTest::numberOfTheLoosened);
        Due.sentence("Promise 10", "Throws `IndexOutOfBoundsException` if there is no such child or hook",
                EdgesOfLeavesTest::loosensOutOfRange);
        Due.sentence("Promise 10", "Throws `IllegalStateException` if it is empty", EdgesOfLeavesTest::loosensEmpty);
    }

    private static void look() {
        Due.sentence("Promise 11", "Lets a child look at the leaf of a hook.", EdgesOfLeavesTest::looks);
        Due.sentence("Promise 11", "A look through a note at a leaf that is burnt is a danger, and is counted so.",
                EdgesOfLeavesTest::dangers);
        Due.sentence("Promise 11", "Undoable.", EdgesOfLeavesTest::lookUndone);
        Due.sentence("Promise 11", "- `hook`: 0 to 2", EdgesOfLeavesTest::looksThroughEachHook);
        Due.sentence("Promise 11", "Returns the colour of the leaf; NONE if it is a danger.",
                EdgesOfLeavesTest::colourOrNone);
        Due.sentence("Promise 11", "Throws `IndexOutOfBoundsException` if there is no such child or hook",
                EdgesOfLeavesTest::looksOutOfRange);
        Due.sentence("Promise 11", "Throws `IllegalStateException` if it is empty", EdgesOfLeavesTest::looksThroughEmpty);
    }

    private static void take() {
        Due.sentence("Promise 12", "Lets a child take the leaf off a branch; it is put aside.",
                EdgesOfLeavesTest::takesOff);
        Due.sentence("Promise 12", "Undoable.", EdgesOfLeavesTest::takeUndone);
        Due.sentence("Promise 12", "- `branch`: 0 to 11", EdgesOfLeavesTest::takesOffEachBranch);
        Due.sentence("Promise 12", "Returns how many leaves are burnt by that.", EdgesOfLeavesTest::burntByTaking);
        Due.sentence("Promise 12", "Throws `IndexOutOfBoundsException` if there is no such child or branch",
                EdgesOfLeavesTest::takesOutOfRange);
        Due.sentence("Promise 12", "Throws `IllegalStateException` if the child rests",
                EdgesOfLeavesTest::takeOfOneWhoRests);
        Due.sentence("Promise 12", "or there is no leaf on the branch", EdgesOfLeavesTest::takesNoLeaf);
    }

    private static void swap() {
        Due.sentence("Promise 13", "a new leaf grows there, and the one that was there is put aside.",
                EdgesOfLeavesTest::swaps);
        Due.sentence("Promise 13", "Undoable.", EdgesOfLeavesTest::swapUndone);
        Due.sentence("Promise 13", "- `branch`: 0 to 11", EdgesOfLeavesTest::swapsOnEachBranch);
        Due.sentence("Promise 13", "- `colour`: 0 to 9: that of the new leaf", EdgesOfLeavesTest::swapsInEachColour);
        Due.sentence("Promise 13", "Returns the number of the new leaf.", EdgesOfLeavesTest::numberOfTheNew);
        Due.sentence("Promise 13", "Throws `IndexOutOfBoundsException` if there is no such child or branch",
                EdgesOfLeavesTest::swapsOutOfRange);
        Due.sentence("Promise 13", "Throws `IllegalArgumentException` if colour is out of range",
                EdgesOfLeavesTest::swapsInNoColour);
        Due.sentence("Promise 13", "Throws `IllegalStateException` if the child rests",
                EdgesOfLeavesTest::swapOfOneWhoRests);
        Due.sentence("Promise 13", "there is no leaf on the branch", EdgesOfLeavesTest::swapsNoLeaf);
        Due.sentence("Promise 13", "or 120 leaves grew so far", EdgesOfLeavesTest::swapsWhenAllGrew);
    }

    private static void rake() {
        Due.sentence("Promise 14", "Rakes the heap of a child (who may rest).", EdgesOfLeavesTest::rakesInRest);
        Due.sentence("Promise 14", "Undoable.", EdgesOfLeavesTest::rakeUndone);
        Due.sentence("Promise 14", "Returns how many leaves are burnt.", EdgesOfLeavesTest::burntByRaking);
        Due.sentence("Promise 14", "Throws `IndexOutOfBoundsException` if there is no such child",
                EdgesOfLeavesTest::rakesOutOfRange);
        Due.sentence("Promise 14", "Throws `IllegalStateException` if its heap is empty",
                EdgesOfLeavesTest::rakesAnEmptyHeap);
    }

    private static void set() {
        Due.sentence("Promise 15", "Changes a setting.", EdgesOfLeavesTest::changesOne);
        Due.sentence("Promise 15", "Undoable.", EdgesOfLeavesTest::setUndone);
        Due.sentence("Promise 15", "- `setting`: 0 or 1", EdgesOfLeavesTest::eachSetting);
        Due.sentence("Promise 15", "Returns the previous value.", EdgesOfLeavesTest::previousValue);
        Due.sentence("Promise 15", "Throws `IndexOutOfBoundsException` if there is no such setting",
                EdgesOfLeavesTest::noSuchSetting);
        Due.sentence("Promise 15", "Throws `IllegalArgumentException` if value is out of range",
                EdgesOfLeavesTest::valueOutOfRange);
    }

    private static void leafIs(PinnedLeaves x, int leaf, int... due) {
        for (int what = 0; what < due.length; what++) {
            Due.is("leaf(" + leaf + ", " + what + ")", x.leaf(leaf, what), due[what]);
        }
    }

    private static void hookIs(PinnedLeaves x, int child, int hook, int... due) {
        for (int what = 0; what < due.length; what++) {
            Due.is("hook(" + child + ", " + hook + ", " + what + ")", x.hook(child, hook, what), due[what]);
        }
    }

    /** Children 0 and 1 are in the yard, with a leaf on each branch. */
    private static PinnedLeaves full() {
        PinnedLeaves x = new PinnedLeaves();
        Due.orders(x, "ga0;gb1;gc2;gd3;ge4;gf5;gg6;gh7;gi8;gj9;gk0;gl1;e0;e1");
        return x;
    }

    // ---- promise 7

    private static void leafGrows() {
        PinnedLeaves x = new PinnedLeaves();
        x.ring();
        x.grow(8, 3);
        leafIs(x, 0, 3, 0, 8, NONE, NONE, 0, 0, 0);
        Due.is("branch(8)", x.branch(8), 0);
        Due.is("branch(7)", x.branch(7), NONE);
        Due.is("branch(9)", x.branch(9), NONE);
        Due.is("most aside", x.count(14), 0);
    }

    private static void growUndone() {
        PinnedLeaves x = new PinnedLeaves();
        x.grow(0, 1);
        Due.undoable(x, "grow", () -> x.grow(1, 2));
        Due.index(x, "the leaf did not grow", () -> x.leaf(1, 0));
        Due.is("its number is given again", x.grow(5, 3), 1);
        leafIs(x, 1, 3, 0, 5);
    }

    private static void growsOnEachBranch() {
        PinnedLeaves x = full();
        for (int branch = 0; branch < 12; branch++) {
            Due.is("branch(" + branch + ")", x.branch(branch), branch);
            leafIs(x, branch, branch % 10, 0, branch);
        }
    }

    private static void growsInEachColour() {
        PinnedLeaves x = new PinnedLeaves();
        for (int colour = 0; colour <= 9; colour++) {
            Due.is("grow", x.grow(colour, colour), colour);
            Due.is("its colour", x.leaf(colour, 0), colour);
        }
    }

    private static void numberOfTheGrown() {
        PinnedLeaves x = new PinnedLeaves();
        Due.is("the first", x.grow(11, 0), 0);
        Due.is("the second", x.grow(3, 0), 1);
        Due.orders(x, "e0;t0d;k0;w0l5");
        Due.is("the fourth", x.grow(3, 0), 3);
    }

    private static void growsOnNoBranch() {
        PinnedLeaves x = new PinnedLeaves();
        Due.indexOutside(x, "grow", 0, 11, branch -> x.grow(branch, 0));
        Due.indexOutside(x, "grow, of no colour either", 0, 11, branch -> x.grow(branch, 10));
    }

    private static void growsInNoColour() {
        PinnedLeaves x = new PinnedLeaves();
        x.grow(0, 9);
        Due.argumentOutside(x, "grow", 0, 9, colour -> x.grow(1, colour));
        Due.argumentOutside(x, "grow where there is a leaf", 0, 9, colour -> x.grow(0, colour));
    }

    private static void branchHasALeaf() {
        PinnedLeaves x = full();
        for (int branch = 0; branch < 12; branch++) {
            int one = branch;
            Due.state(x, "branch " + branch, () -> x.grow(one, 0));
        }
        x.take(0, 11);
        Due.is("it was taken off", x.grow(11, 0), 12);
        x.swap(0, 0, 0);
        Due.state(x, "it was swapped", () -> x.grow(0, 0));
    }

    private static PinnedLeaves grown(int leaves) {
        PinnedLeaves x = new PinnedLeaves();
        x.enter(0);
        x.set(0, 1);
        x.grow(0, 0);
        for (int leaf = 1; leaf < leaves; leaf++) {
            x.swap(0, 0, 0);
        }
        return x;
    }

    private static void allGrew() {
        PinnedLeaves x = grown(119);
        Due.is("the last one", x.grow(1, 1), 119);
        Due.state(x, "one more", () -> x.grow(2, 1));
        Due.argument(x, "the colour goes first", () -> x.grow(2, 10));
        Due.index(x, "the branch goes first", () -> x.grow(12, 1));
        x.undo();
        Due.is("the last one again", x.grow(2, 1), 119);
    }

    // ---- promise 8

    private static void notes() {
        PinnedLeaves x = full();
        x.note(0, 1, 4);
        hookIs(x, 0, 0, 0, NONE, NONE);
        hookIs(x, 0, 1, 1, 4, 4);
        hookIs(x, 0, 2, 0, NONE, NONE);
        hookIs(x, 1, 1, 0, NONE, NONE);
        leafIs(x, 4, 4, 0, 4, NONE, NONE, 0, 0, 1);
        x.note(0, 2, 4);
        x.note(1, 0, 4);
        leafIs(x, 4, 4, 0, 4, NONE, NONE, 0, 0, 3);
    }

    private static void noteUndone() {
        PinnedLeaves x = full();
        Due.undoable(x, "note", () -> x.note(1, 2, 11));
        hookIs(x, 1, 2, 0, NONE, NONE);
    }

    private static void notesWithEachHook() {
        PinnedLeaves x = full();
        for (int hook = 0; hook <= 2; hook++) {
            Due.is("hook " + hook, x.note(1, hook, 3 + hook), 3 + hook);
            hookIs(x, 1, hook, 1, 3 + hook, 3 + hook);
        }
    }

    private static void notesOnEachBranch() {
        PinnedLeaves x = full();
        for (int branch = 0; branch <= 11; branch++) {
            Due.is("branch " + branch, x.note(0, 0, branch), branch);
            hookIs(x, 0, 0, 1, branch, branch);
            x.loosen(0, 0);
        }
    }

    private static void numberOfTheNoted() {
        PinnedLeaves x = full();
        x.swap(1, 5, 3);
        Due.is("not the branch, and not the one before", x.note(0, 0, 5), 12);
    }

    private static void notesOutOfRange() {
        PinnedLeaves x = full();
        Due.indexOutside(x, "child", 0, 1, child -> x.note(child, 0, 0));
        Due.indexOutside(x, "hook", 0, 2, hook -> x.note(0, hook, 0));
        Due.indexOutside(x, "branch", 0, 11, branch -> x.note(0, 0, branch));
        x.rest(1);
        Due.indexOutside(x, "hook of one who rests", 0, 2, hook -> x.note(1, hook, 0));
        Due.indexOutside(x, "branch, for one who rests", 0, 11, branch -> x.note(1, 0, branch));
        x.note(0, 0, 0);
        Due.indexOutside(x, "branch, with a full hook", 0, 11, branch -> x.note(0, 0, branch));
        x.leave(1);
        Due.index(x, "who left", () -> x.note(1, 0, 0));
    }

    private static void noteOfOneWhoRests() {
        PinnedLeaves x = full();
        x.rest(0);
        Due.state(x, "it rests", () -> x.note(0, 0, 0));
        Due.is("the other one", x.note(1, 0, 0), 0);
        x.enter(0);
        Due.is("in the yard again", x.note(0, 0, 0), 0);
    }

    private static void noteOnAFullHook() {
        PinnedLeaves x = full();
        x.note(0, 2, 0);
        Due.state(x, "it has a note of this leaf", () -> x.note(0, 2, 0));
        Due.state(x, "it has a note of another leaf", () -> x.note(0, 2, 1));
        x.pin(0, 2);
        Due.state(x, "it pins", () -> x.note(0, 2, 1));
        x.loosen(0, 2);
        Due.is("it is empty again", x.note(0, 2, 1), 1);
        x.take(1, 1);
        Due.state(x, "it has a note of a leaf aside", () -> x.note(0, 2, 2));
        x.pin(0, 2);
        Due.is("it is empty since the pin failed", x.note(0, 2, 2), 2);
    }

    private static void noteOfNoLeaf() {
        PinnedLeaves x = new PinnedLeaves();
        x.enter(0);
        x.grow(6, 0);
        for (int branch = 0; branch < 12; branch++) {
            int one = branch;
            if (branch != 6) {
                Due.state(x, "no leaf on " + branch, () -> x.note(0, 0, one));
            }
        }
        x.take(0, 6);
        Due.state(x, "it was taken off", () -> x.note(0, 0, 6));
    }

    // ---- promise 9

    private static void stillOnTheBranch() {
        PinnedLeaves x = full();
        Due.orders(x, "n00l;n10l;p10");
        Due.is("it pins", x.pin(0, 0), 1);
        hookIs(x, 0, 0, 2, 11, NONE);
        leafIs(x, 11, 1, 0, 11, NONE, NONE, 3, 2, 0);
        Due.is("pins that failed", x.count(12), 0);
        x.note(0, 1, 3);
        x.ring();
        Due.is("a bell does not matter", x.pin(0, 1), 1);
    }

    private static void notOnTheBranch() {
        PinnedLeaves x = full();
        Due.orders(x, "n00a;n01b;n02c;t1a;w1b0;t1c;gc7");
        for (int hook = 0; hook < 3; hook++) {
            Due.is("aside, swapped, another one grew: " + hook, x.pin(0, hook), 0);
            hookIs(x, 0, hook, 0, NONE, NONE);
            Due.is("pins that failed", x.count(12), hook + 1);
        }
        Due.orders(x, "n00d;t1d");
        Due.is("its heap is raked at once", x.leaf(3, 1), 2);
        Due.is("burnt", x.pin(0, 0), 0);
        hookIs(x, 0, 0, 0, NONE, NONE);
        Due.orders(x, "n01e;n10f;n11e;t0e");
        Due.is("of child 1", x.pin(1, 1), 0);
        hookIs(x, 1, 1, 0, NONE, NONE);
        hookIs(x, 1, 0, 1, 5, 5);
        hookIs(x, 0, 1, 1, 4, 4);
    }

    private static void pinUndone() {
        PinnedLeaves x = full();
        Due.orders(x, "n00a;n01b;t1b");
        Due.undoable(x, "pin that pins", () -> x.pin(0, 0));
        hookIs(x, 0, 0, 1, 0, 0);
        Due.undoable(x, "pin that fails", () -> x.pin(0, 1));
        hookIs(x, 0, 1, 1, 1, 1);
        Due.is("pins that failed", x.count(12), 0);
    }

    private static void pinsWithEachHook() {
        PinnedLeaves x = full();
        Due.orders(x, "n10a;n11b;n12c");
        for (int hook = 0; hook <= 2; hook++) {
            Due.is("hook " + hook, x.pin(1, hook), 1);
            hookIs(x, 1, hook, 2, hook, NONE);
            Due.is("its pins", x.child(1, 2), hook + 1);
            Due.is("its notes", x.child(1, 3), 2 - hook);
        }
    }

    private static void oneOrNought() {
        PinnedLeaves x = full();
        Due.orders(x, "n00a;n01a;n02b;t1b");
        Due.is("1 by leaf 0", x.pin(0, 0), 1);
        x.take(1, 0);
        Due.is("0, though another hook pins it", x.pin(0, 1), 0);
        Due.is("0", x.pin(0, 2), 0);
    }

    private static void pinsOutOfRange() {
        PinnedLeaves x = full();
        Due.orders(x, "n00a;n01a;n02a;n10a;n11a;n12a");
        Due.indexOutside(x, "child", 0, 1, child -> x.pin(child, 0));
        Due.indexOutside(x, "hook", 0, 2, hook -> x.pin(0, hook));
        Due.indexOutside(x, "hook", 0, 2, hook -> x.pin(1, hook));
        x.leave(0);
        Due.index(x, "who left", () -> x.pin(0, 0));
    }

    private static void pinsWithoutANote() {
        PinnedLeaves x = full();
        Due.state(x, "it is empty", () -> x.pin(0, 0));
        x.note(0, 0, 0);
        Due.state(x, "another hook has one", () -> x.pin(0, 1));
        Due.state(x, "another child has one", () -> x.pin(1, 0));
        x.pin(0, 0);
        Due.state(x, "it pins", () -> x.pin(0, 0));
        x.rest(0);
        Due.state(x, "it rests", () -> x.pin(0, 0));
    }

    // ---- promise 10

    private static void emptiesAHook() {
        PinnedLeaves x = full();
        Due.orders(x, "n00a;n01b;p01;n02c;n11b;p11");
        x.loosen(0, 1);
        hookIs(x, 0, 0, 1, 0, 0);
        hookIs(x, 0, 1, 0, NONE, NONE);
        hookIs(x, 0, 2, 1, 2, 2);
        hookIs(x, 1, 1, 2, 1, NONE);
        x.loosen(0, 2);
        hookIs(x, 0, 2, 0, NONE, NONE);
        Due.is("it can note again", x.note(0, 1, 5), 5);
    }

    private static void loosenUndone() {
        PinnedLeaves x = full();
        Due.orders(x, "n00a;n01b;p01");
        Due.undoable(x, "loosen of a note", () -> x.loosen(0, 0));
        hookIs(x, 0, 0, 1, 0, 0);
        Due.undoable(x, "loosen of a pin", () -> x.loosen(0, 1));
        hookIs(x, 0, 1, 2, 1, NONE);
    }

    private static void loosensEachHook() {
        PinnedLeaves x = full();
        Due.orders(x, "n10d;n11e;n12f;p10;p12");
        for (int hook = 0; hook <= 2; hook++) {
            Due.is("hook " + hook, x.loosen(1, hook), 3 + hook);
            hookIs(x, 1, hook, 0, NONE, NONE);
        }
    }

    private static void numberOfTheLoosened() {
        PinnedLeaves x = full();
        Due.orders(x, "n00k;n01l;p01;n02a;t1k;t1l;t1a;k1");
        Due.is("a note of a burnt leaf", x.loosen(0, 0), 10);
        Due.is("a pin of a leaf aside", x.loosen(0, 1), 11);
        Due.is("a note of leaf 0, burnt", x.loosen(0, 2), 0);
    }

    private static void loosensOutOfRange() {
        PinnedLeaves x = full();
        Due.orders(x, "n00a;n01a;n02a;n10a;n11a;n12a");
        Due.indexOutside(x, "child", 0, 1, child -> x.loosen(child, 0));
        Due.indexOutside(x, "hook", 0, 2, hook -> x.loosen(0, hook));
        Due.indexOutside(x, "hook", 0, 2, hook -> x.loosen(1, hook));
        x.leave(0);
        Due.index(x, "who left", () -> x.loosen(0, 0));
    }

    private static void loosensEmpty() {
        PinnedLeaves x = full();
        x.note(0, 1, 0);
        Due.state(x, "as at first", () -> x.loosen(0, 0));
        Due.state(x, "another hook is not", () -> x.loosen(0, 2));
        Due.state(x, "another child's is not", () -> x.loosen(1, 1));
        x.loosen(0, 1);
        Due.state(x, "emptied", () -> x.loosen(0, 1));
        x.rest(1);
        Due.state(x, "it rests", () -> x.loosen(1, 1));
    }

    // ---- promise 11

    private static void looks() {
        PinnedLeaves x = full();
        Due.orders(x, "n00h;n01i;p01");
        Due.is("on a branch, by a note", x.look(0, 0), 7);
        Due.is("on a branch, by a pin", x.look(0, 1), 8);
        Due.orders(x, "w1h0;t1i");
        Due.is("aside, by a note", x.look(0, 0), 7);
        Due.is("aside, by a pin", x.look(0, 1), 8);
        hookIs(x, 0, 0, 1, 7, 7);
        hookIs(x, 0, 1, 2, 8, NONE);
        Due.is("dangers", x.count(13), 0);
    }

    private static void dangers() {
        PinnedLeaves x = full();
        Due.orders(x, "n00a;n01a;n02b;p02;t1a;t1b");
        x.look(0, 0);
        Due.is("aside, it is none", x.count(13), 0);
        x.rake(1);
        Due.is("before the look, it is none", x.count(13), 0);
        x.look(0, 0);
        Due.is("one", x.count(13), 1);
        x.look(0, 1);
        Due.is("by another hook", x.count(13), 2);
        x.look(0, 0);
        Due.is("each look", x.count(13), 3);
        x.look(0, 2);
        Due.is("by a pin, it is none", x.count(13), 3);
        hookIs(x, 0, 0, 1, 0, 0);
        PinnedLeaves y = full();
        Due.orders(y, "n10a;p10;n12b;t0b;k0");
        y.look(1, 2);
        Due.is("of a child whose first hook pins", y.count(13), 1);
    }

    private static void lookUndone() {
        PinnedLeaves x = full();
        Due.orders(x, "n00a;n01b;t1a;k1");
        Due.undoable(x, "look, though it changes nothing", () -> x.look(0, 1));
        Due.undoable(x, "look, a danger", () -> x.look(0, 0));
        Due.is("dangers", x.count(13), 0);
    }

    private static void looksThroughEachHook() {
        PinnedLeaves x = full();
        Due.orders(x, "n10d;n11e;n12f;p11");
        for (int hook = 0; hook <= 2; hook++) {
            Due.is("hook " + hook, x.look(1, hook), 3 + hook);
        }
    }

    private static void colourOrNone() {
        PinnedLeaves x = full();
        Due.orders(x, "n00a;n01j;n02k;p02;t1a;t1j;t1k");
        Due.is("colour 0", x.look(0, 0), 0);
        Due.is("colour 9", x.look(0, 1), 9);
        x.rake(1);
        Due.is("a danger", x.look(0, 0), NONE);
        Due.is("a danger", x.look(0, 1), NONE);
        Due.is("colour 0 by a pin, aside", x.look(0, 2), 0);
    }

    private static void looksOutOfRange() {
        PinnedLeaves x = full();
        Due.orders(x, "n00a;n01a;n02a;n10a;n11a;n12a");
        Due.indexOutside(x, "child", 0, 1, child -> x.look(child, 0));
        Due.indexOutside(x, "hook", 0, 2, hook -> x.look(0, hook));
        Due.indexOutside(x, "hook", 0, 2, hook -> x.look(1, hook));
        x.leave(0);
        Due.index(x, "who left", () -> x.look(0, 0));
    }

    private static void looksThroughEmpty() {
        PinnedLeaves x = full();
        Due.state(x, "as at first", () -> x.look(0, 2));
        x.note(0, 2, 0);
        x.loosen(0, 2);
        Due.state(x, "emptied", () -> x.look(0, 2));
        x.note(0, 2, 0);
        x.rest(0);
        Due.state(x, "it rests", () -> x.look(0, 2));
    }

    // ---- promise 12

    private static void takesOff() {
        PinnedLeaves x = full();
        x.ring();
        x.take(1, 8);
        Due.is("branch(8)", x.branch(8), NONE);
        leafIs(x, 8, 8, 1, 8, 1, 1, 0, 0, 0);
        Due.is("its heap", x.heap(1, 0), 8);
        Due.is("leaves that it took off", x.child(1, 5), 1);
        Due.is("leaves that the other one took off", x.child(0, 5), 0);
        Due.is("another leaf can grow there", x.grow(8, 0), 12);
    }

    private static void takeUndone() {
        PinnedLeaves x = full();
        Due.orders(x, "t0a;t0b;t0c");
        Due.undoable(x, "take with a raking", () -> x.take(0, 3));
        Due.undoable(x, "take without a raking", () -> x.take(1, 3));
        Due.is("on its branch", x.branch(3), 3);
    }

    private static void takesOffEachBranch() {
        PinnedLeaves x = full();
        x.set(0, 20);
        for (int branch = 0; branch <= 11; branch++) {
            Due.is("branch " + branch, x.take(0, branch), 0);
            Due.is("bare", x.branch(branch), NONE);
            Due.is("its place", x.heap(0, branch), branch);
        }
        Due.is("most aside", x.count(14), 12);
    }

    private static void burntByTaking() {
        PinnedLeaves x = full();
        Due.orders(x, "n10a;p10;n11b;p11;n12f;p12");
        int[] burnt = {0, 0, 0, 2, 0, 1, 1, 1};
        for (int branch = 0; branch < burnt.length; branch++) {
            Due.is("branch " + branch, x.take(0, branch), burnt[branch]);
        }
    }

    private static void takesOutOfRange() {
        PinnedLeaves x = full();
        Due.indexOutside(x, "child", 0, 1, child -> x.take(child, 0));
        Due.indexOutside(x, "branch", 0, 11, branch -> x.take(0, branch));
        x.rest(1);
        Due.indexOutside(x, "branch, for one who rests", 0, 11, branch -> x.take(1, branch));
        x.leave(1);
        Due.index(x, "who left", () -> x.take(1, 0));
    }

    private static void takeOfOneWhoRests() {
        PinnedLeaves x = full();
        x.rest(0);
        Due.state(x, "it rests", () -> x.take(0, 0));
        x.enter(0);
        Due.is("in the yard again", x.take(0, 0), 0);
    }

    private static void takesNoLeaf() {
        PinnedLeaves x = full();
        x.take(0, 11);
        Due.state(x, "it was taken off", () -> x.take(0, 11));
        Due.state(x, "it was taken off", () -> x.take(1, 11));
        x.take(0, 0);
        Due.state(x, "it was taken off", () -> x.take(1, 0));
        x.grow(0, 0);
        Due.is("another one grew", x.take(1, 0), 0);
    }

    // ---- promise 13

    private static void swaps() {
        PinnedLeaves x = full();
        Due.orders(x, "n00e;p00;n01e");
        x.swap(1, 4, 9);
        Due.is("branch(4)", x.branch(4), 12);
        leafIs(x, 12, 9, 0, 4, NONE, NONE, 0, 0, 0);
        leafIs(x, 4, 4, 1, 4, 0, 1, 1, 1, 1);
        Due.is("its heap", x.heap(1, 0), 4);
        Due.is("leaves that it took off", x.child(1, 5), 1);
        x.set(0, 2);
        x.swap(1, 5, 9);
        Due.is("raked at once", x.count(10), 1);
        Due.is("the one that is not held", x.leaf(5, 1), 2);
        Due.is("most aside, behind the call", x.count(14), 1);
    }

    private static void swapUndone() {
        PinnedLeaves x = full();
        Due.orders(x, "t0a;t0b;t0c");
        Due.undoable(x, "swap with a raking", () -> x.swap(0, 3, 1));
        Due.undoable(x, "swap without a raking", () -> x.swap(1, 3, 1));
        Due.is("on its branch", x.branch(3), 3);
    }

    private static void swapsOnEachBranch() {
        PinnedLeaves x = full();
        for (int branch = 0; branch <= 11; branch++) {
            Due.is("branch " + branch, x.swap(1, branch, 5), 12 + branch);
            Due.is("the new one", x.branch(branch), 12 + branch);
            Due.is("its branch", x.leaf(12 + branch, 2), branch);
        }
    }

    private static void swapsInEachColour() {
        PinnedLeaves x = full();
        for (int colour = 0; colour <= 9; colour++) {
            x.swap(1, 7, colour);
            Due.is("the new one's", x.leaf(12 + colour, 0), colour);
        }
        Due.is("the old one's", x.leaf(7, 0), 7);
    }

    private static void numberOfTheNew() {
        PinnedLeaves x = full();
        Due.is("not that of the old one", x.swap(0, 0, 0), 12);
        Due.is("the next one", x.swap(1, 0, 0), 13);
    }

    private static void swapsOutOfRange() {
        PinnedLeaves x = full();
        Due.indexOutside(x, "child", 0, 1, child -> x.swap(child, 0, 0));
        Due.indexOutside(x, "branch", 0, 11, branch -> x.swap(0, branch, 0));
        Due.indexOutside(x, "child, of no colour either", 0, 1, child -> x.swap(child, 0, 10));
        Due.indexOutside(x, "branch, of no colour either", 0, 11, branch -> x.swap(0, branch, -1));
        x.rest(1);
        Due.indexOutside(x, "branch, for one who rests", 0, 11, branch -> x.swap(1, branch, 0));
        x.leave(1);
        Due.index(x, "who left", () -> x.swap(1, 0, 0));
    }

    private static void swapsInNoColour() {
        PinnedLeaves x = full();
        Due.argumentOutside(x, "colour", 0, 9, colour -> x.swap(0, 0, colour));
        x.rest(1);
        Due.argumentOutside(x, "colour, for one who rests", 0, 9, colour -> x.swap(1, 0, colour));
        x.take(0, 0);
        Due.argumentOutside(x, "colour, without a leaf", 0, 9, colour -> x.swap(0, 0, colour));
    }

    private static void swapOfOneWhoRests() {
        PinnedLeaves x = full();
        x.rest(0);
        Due.state(x, "it rests", () -> x.swap(0, 0, 0));
        x.enter(0);
        Due.is("in the yard again", x.swap(0, 0, 0), 12);
    }

    private static void swapsNoLeaf() {
        PinnedLeaves x = full();
        x.take(0, 11);
        Due.state(x, "it was taken off", () -> x.swap(0, 11, 0));
        Due.state(x, "it was taken off", () -> x.swap(1, 11, 0));
        x.grow(11, 0);
        Due.is("another one grew", x.swap(1, 11, 0), 13);
    }

    private static void swapsWhenAllGrew() {
        PinnedLeaves x = grown(119);
        Due.is("the last one", x.swap(0, 0, 4), 119);
        Due.state(x, "one more", () -> x.swap(0, 0, 4));
        Due.argument(x, "the colour goes first", () -> x.swap(0, 0, 10));
        Due.index(x, "the branch goes first", () -> x.swap(0, 12, 4));
        Due.is("it can be taken off", x.take(0, 0), 1);
        Due.is("none is left", x.count(7), 120);
    }

    // ---- promise 14

    private static void rakesInRest() {
        PinnedLeaves x = full();
        Due.orders(x, "t0a;t1b;t1c;z1");
        Due.is("who rests", x.rake(1), 2);
        Due.is("the other heap stays", x.child(0, 4), 1);
        Due.is("who is in the yard", x.rake(0), 1);
        Due.is("rakings", x.count(10), 2);
    }

    private static void rakeUndone() {
        PinnedLeaves x = full();
        Due.orders(x, "n10a;p10;t0a;t0b");
        Due.undoable(x, "rake", () -> x.rake(0));
        Due.is("aside again", x.leaf(1, 1), 1);
        x.rake(0);
        Due.undoable(x, "rake that burns none", () -> x.rake(0));
        Due.is("rakings", x.count(10), 1);
        Due.is("hooks", x.count(11), 6);
    }

    private static void burntByRaking() {
        PinnedLeaves x = full();
        Due.orders(x, "n10a;p10;n11b;p11;t0a;t0b;t0c");
        int[] burnt = {1, 0, 1, 1};
        for (int raking = 0; raking < burnt.length; raking++) {
            Due.is("raking " + raking, x.rake(0), burnt[raking]);
            Due.is("rakings of the heap", x.child(0, 7), raking + 1);
            if (raking > 0 && raking < 3) {
                x.loosen(1, raking - 1);
            }
        }
        Due.is("burnt by rakings of the heap", x.child(0, 6), 3);
    }

    private static void rakesOutOfRange() {
        PinnedLeaves x = full();
        Due.orders(x, "t0a;t1b");
        Due.indexOutside(x, "child", 0, 1, child -> x.rake(child));
        x.leave(1);
        Due.index(x, "who left", () -> x.rake(1));
    }

    private static void rakesAnEmptyHeap() {
        PinnedLeaves x = full();
        Due.state(x, "as at first", () -> x.rake(0));
        x.take(0, 0);
        Due.state(x, "another heap is not empty", () -> x.rake(1));
        Due.is("one leaf", x.rake(0), 1);
        Due.state(x, "all are burnt", () -> x.rake(0));
        Due.is("rakings", x.count(10), 1);
    }

    // ---- promise 15

    private static void changesOne() {
        PinnedLeaves x = new PinnedLeaves();
        x.set(0, 1);
        Due.is("setting 0", x.setting(0), 1);
        Due.is("setting 1", x.setting(1), 0);
        x.set(1, 1);
        x.set(0, 2);
        Due.is("setting 0", x.setting(0), 2);
        Due.is("setting 1", x.setting(1), 1);
    }

    private static void setUndone() {
        PinnedLeaves x = new PinnedLeaves();
        Due.undoable(x, "set of setting 0", () -> x.set(0, 20));
        Due.undoable(x, "set of setting 1", () -> x.set(1, 1));
        Due.undoable(x, "set, though it changes nothing", () -> x.set(0, 4));
        Due.is("setting 0", x.setting(0), 4);
        Due.is("setting 1", x.setting(1), 0);
    }

    private static void eachSetting() {
        PinnedLeaves x = new PinnedLeaves();
        Due.is("setting 0", x.set(0, 1), 4);
        Due.is("setting 1", x.set(1, 1), 0);
    }

    private static void previousValue() {
        PinnedLeaves x = new PinnedLeaves();
        Due.is("as at first", x.set(0, 20), 4);
        Due.is("the largest", x.set(0, 1), 20);
        Due.is("the least", x.set(0, 1), 1);
        Due.is("as at first", x.set(1, 1), 0);
        Due.is("the same", x.set(1, 1), 1);
        Due.is("the other", x.set(1, 0), 1);
    }

    private static void noSuchSetting() {
        PinnedLeaves x = new PinnedLeaves();
        Due.indexOutside(x, "setting", 0, 1, setting -> x.set(setting, 1));
        Due.indexOutside(x, "setting, of no value either", 0, 1, setting -> x.set(setting, 21));
    }

    private static void valueOutOfRange() {
        PinnedLeaves x = new PinnedLeaves();
        Due.is("the least", x.set(0, 1), 4);
        Due.is("the largest", x.set(0, 20), 1);
        Due.argumentOutside(x, "setting 0", 1, 20, value -> x.set(0, value));
        Due.argumentOutside(x, "setting 1", 0, 1, value -> x.set(1, value));
    }
}
