/** Promises 31 to 39: what would be. */
public final class WhatWouldBeTest {
    private static final int NONE = PinnedLeaves.NONE;

    public static void main(String[] args) {
        ifRaked();
        bestRake();
        ifLoosened();
        late();
        ifRested();
        ifRestedByBell();
        ifAllRested();
        mostHeld();
        shares();
        Due.end("WhatWouldBeTest");
    }

    private static void ifRaked() {
        PinnedLeaves x = new PinnedLeaves();
        Due.orders(x, "ga1;gb2;gc3;e0;e1;n10a;p10;n11b;t0a;t0b;t0c");
        Due.is("promise 31: by pins", x.ifRaked(0, 0), 2);
        Due.is("promise 31: by the bell", x.ifRaked(0, 1), 0);
        Due.is("promise 31: an empty heap", x.ifRaked(1, 0), 0);
        Due.orders(x, "b;z0;z1;b");
        Due.is("promise 31: by the bell, whatever setting 1 is", x.ifRaked(0, 1), 3);
        Due.is("promise 31: nobody pins", x.ifRaked(0, 0), 3);
        x.set(1, 1);
        Due.is("promise 31: by pins, whatever setting 1 is", x.ifRaked(0, 0), 3);
        Due.argument(x, "promise 31: 2", () -> x.ifRaked(0, 2));
        Due.argument(x, "promise 31: -1", () -> x.ifRaked(0, -1));
        Due.index(x, "promise 31: no child 2, before the setting", () -> x.ifRaked(2, 2));
        Due.index(x, "promise 31: no child -1", () -> x.ifRaked(-1, 0));
        Due.is("promise 31: nothing is counted", x.count(10), 0);
    }

    private static void bestRake() {
        PinnedLeaves x = new PinnedLeaves();
        x.come();
        Due.is("promise 32: empty heaps", x.bestRake(), NONE);
        Due.orders(x, "ga1;gb2;gc3;gd4;ge5;gf6;e0;e1;e2;n00a;p00;t0a");
        Due.is("promise 32: none would be burnt", x.bestRake(), NONE);
        x.take(2, 1);
        Due.is("promise 32: child 2 alone", x.bestRake(), 2);
        x.take(1, 2);
        Due.is("promise 32: of two alike the lowest", x.bestRake(), 1);
        Due.orders(x, "n01d;p01;t2d");
        Due.is("promise 32: of two the one with more leaves", x.bestRake(), 2);
        x.take(1, 4);
        Due.is("promise 32: most burnt", x.bestRake(), 1);
        x.set(1, 1);
        Due.is("promise 32: by the bell", x.bestRake(), NONE);
        Due.orders(x, "b;z0;z1;z2;b");
        Due.is("promise 32: by the bell, of two alike the lowest", x.bestRake(), 1);
        PinnedLeaves y = new PinnedLeaves();
        Due.orders(y, "ga1;gb2;e0;e1;t0a;t1b");
        Due.is("promise 32: child 0 is the lowest", y.bestRake(), 0);
    }

    private static void ifLoosened() {
        PinnedLeaves x = new PinnedLeaves();
        Due.orders(x, "ga1;gb2;e0;e1;n00a;p00;n01b;p01;n02b");
        Due.is("promise 33: on a branch", x.ifLoosened(0, 0), 0);
        x.take(1, 0);
        x.take(1, 1);
        Due.is("promise 33: aside", x.ifLoosened(0, 0), 1);
        Due.is("promise 33: a note", x.ifLoosened(0, 2), 0);
        Due.is("promise 33: empty", x.ifLoosened(1, 0), 0);
        PinnedLeaves y = new PinnedLeaves();
        Due.orders(y, "ga1;e0;e1;n00a;p00;n01a;p01;t1a");
        Due.is("promise 33: another hook of its own", y.ifLoosened(0, 0), 0);
        y.loosen(0, 1);
        Due.is("promise 33: the last hook", y.ifLoosened(0, 0), 1);
        PinnedLeaves z = new PinnedLeaves();
        Due.orders(z, "ga1;e0;e1;n00a;p00;n11a;p11;t1a");
        Due.is("promise 33: another child's hook", z.ifLoosened(0, 0), 0);
        Due.index(x, "promise 33: no child 2", () -> x.ifLoosened(2, 0));
        Due.index(x, "promise 33: no hook 3", () -> x.ifLoosened(0, 3));
        Due.index(x, "promise 33: no hook -1", () -> x.ifLoosened(1, -1));
    }

    private static void late() {
        PinnedLeaves x = new PinnedLeaves();
        x.come();
        Due.is("promise 34: nobody is in the yard", x.late(), 0);
        x.enter(0);
        x.enter(2);
        Due.is("promise 34: in since now", x.late(), 0);
        x.ring();
        Due.is("promise 34: both", x.late(), 5);
        x.enter(1);
        Due.is("promise 34: child 1 came in now", x.late(), 5);
        x.rest(0);
        x.enter(0);
        Due.is("promise 34: child 0 came in anew", x.late(), 4);
    }

    private static void ifRested() {
        PinnedLeaves x = new PinnedLeaves();
        x.come();
        Due.orders(x, "ga1;gb2;gc3;gd4;e0;e1;n00a;p00;n01b;p01;n10b;p10;n11c;p11");
        Due.orders(x, "t0a;t0b;t1c;t1d");
        Due.is("promise 35: child 0", x.ifRested(0), 2);
        Due.is("promise 35: child 1", x.ifRested(1), 2);
        Due.is("promise 35: one who rests", x.ifRested(2), 1);
        Due.index(x, "promise 35: no child 3", () -> x.ifRested(3));
        Due.index(x, "promise 35: no child -1", () -> x.ifRested(-1));
        Due.is("promise 35: nothing is changed", x.count(8), 4);
    }

    private static void ifRestedByBell() {
        PinnedLeaves x = new PinnedLeaves();
        x.set(1, 1);
        Due.orders(x, "ga1;gb2;e0;e1;t0a;b;z0;z1;e0;b;e1;t1b");
        Due.is("promise 35: by the bell", x.ifRested(0), 1);
        Due.is("promise 35: by the bell", x.ifRested(1), 1);
        x.set(1, 0);
        Due.is("promise 35: by pins", x.ifRested(1), 2);
    }

    private static void ifAllRested() {
        PinnedLeaves x = new PinnedLeaves();
        Due.is("promise 36: none", x.ifAllRested(), 0);
        Due.orders(x, "ga1;gb2;gc3;e0;e1;n00a;p00;t0a;t1b");
        Due.is("promise 36: by pins", x.ifAllRested(), 2);
        x.set(1, 1);
        Due.is("promise 36: by the bell", x.ifAllRested(), 2);
        Due.orders(x, "z0;z1;b;b;k0");
        Due.is("promise 36: what is burnt is not burnt again", x.ifAllRested(), 1);
        Due.is("promise 36: nothing is changed", x.count(3), 2);
    }

    private static void mostHeld() {
        PinnedLeaves x = new PinnedLeaves();
        Due.orders(x, "ga1;gb2;gc3;e0;e1;n00c;n01c;n02c");
        Due.is("promise 37: notes do not pin", x.mostHeld(), NONE);
        Due.orders(x, "p00;n10b;p10");
        Due.is("promise 37: of two the lowest", x.mostHeld(), 1);
        x.pin(0, 1);
        Due.is("promise 37: most hooks", x.mostHeld(), 2);
        x.take(0, 2);
        Due.is("promise 37: also aside", x.mostHeld(), 2);
        Due.orders(x, "n11a;n12a;p11;p12");
        Due.is("promise 37: leaf 0 is the lowest", x.mostHeld(), 0);
    }

    private static void shares() {
        PinnedLeaves x = new PinnedLeaves();
        Due.isShare("promise 38: without any", x.burntShare(), 1.0);
        Due.isShare("promise 39: none", x.fullness(), 0.0f);
        Due.orders(x, "ga1;gb2;gc3;e0;e1;n00a;p00");
        Due.isShare("promise 38: none is aside", x.burntShare(), 1.0);
        Due.orders(x, "t0a;t0b");
        Due.isShare("promise 38: none is burnt", x.burntShare(), 0.0);
        Due.isShare("promise 39: 2 of 8", x.fullness(), 0.25f);
        x.rake(0);
        Due.isShare("promise 38: half", x.burntShare(), 0.5);
        x.take(1, 2);
        Due.isShare("promise 38: a third", x.burntShare(), 1.0 / 3.0);
        x.come();
        x.set(0, 1);
        Due.isShare("promise 39: 2 of 3", x.fullness(), 2.0f / 3.0f);
        x.leave(0);
        x.leave(1);
        Due.isShare("promise 39: 2 of 1", x.fullness(), 2.0f);
    }
}
