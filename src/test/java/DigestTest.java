/** Promise 40: the hash, computed here from all other answers, over states of many kinds. */
public final class DigestTest {
    public static void main(String[] args) {
        PinnedLeaves x = new PinnedLeaves();
        is("new", x, 0);
        Due.write(x, "gx~!");
        is("with a text", x, 0, 'g', 'x', '~', '!');
        x.keep();
        is("with a snapshot", x, 1, 'g', 'x', '~', '!');
        x.clearBuffer();
        run(x);
        shares();
        Due.end("DigestTest");
    }

    private static void run(PinnedLeaves x) {
        String[] orders = {"ga1;gb2;gc3;gd4;ge5;gl9", "e0;e1;n00a;p00;n01b;n10a;p10;n11c", "t0a;t1b;w1c7;t0d",
            "k0;k1;b;z0;b", "gd6;e0;n02d;p02;w0d8"};
        for (String text : orders) {
            Due.write(x, text);
            x.obey();
            is(text, x, 1);
        }
        x.come();
        x.come();
        is("more children", x, 1);
        x.set(1, 1);
        is("by the bell", x, 1);
        x.leave(0);
        is("one has left", x, 1);
        x.undo();
        is("undo", x, 1);
        Due.orders(x, "z0;z1;b;b");
        Due.is("by the bell, one heap would be burnt", x.ifRaked(0, 1), x.child(0, 4));
        Due.is("by the bell, the other one not", x.ifRaked(1, 1), 0);
        is("two bells later", x, 1);
    }

    /** All shares that can be, as their bits are computed without the library. */
    private static void shares() {
        PinnedLeaves x = new PinnedLeaves();
        x.set(0, 20);
        x.enter(0);
        x.enter(1);
        x.grow(0, 0);
        x.note(1, 0, 0);
        x.pin(1, 0);
        for (int leaf = 1; leaf < 100; leaf++) {
            x.swap(0, 0, leaf % 10);
            if (leaf % 17 == 0) {
                x.rake(0);
            }
            is("after " + leaf + " swaps", x, 0);
        }
        x.set(1, 1);
        x.set(0, 1);
        for (int leaf = 100; leaf < 120; leaf++) {
            x.swap(1, 0, leaf % 10);
            is("after " + leaf + " swaps", x, 0);
        }
    }

    private static void is(String what, PinnedLeaves x, int snapshot, int... text) {
        Hash hash = new Hash();
        for (int number = 0; number < 16; number++) {
            hash.add(x.count(number));
        }
        hash.add(x.setting(0));
        hash.add(x.setting(1));
        for (int branch = 0; branch < 12; branch++) {
            hash.add(x.branch(branch));
        }
        for (int leaf = 0; leaf < x.count(4); leaf++) {
            for (int number = 0; number < 8; number++) {
                hash.add(x.leaf(leaf, number));
            }
            hash.add(x.why(leaf));
        }
        for (int child = 0; child < 5; child++) {
            if ((x.count(0) >> child & 1) == 1) {
                addChild(hash, x, child);
            }
        }
        hash.add(x.bestRake());
        hash.add(x.late());
        hash.add(x.ifAllRested());
        hash.add(x.mostHeld());
        hash.add(Double.doubleToLongBits(x.burntShare()));
        hash.add(Float.floatToIntBits(x.fullness()));
        hash.add(snapshot);
        hash.add(text.length);
        for (int code : text) {
            hash.add(code);
        }
        Due.is("promise 40: " + what, x.digest(), hash.value);
    }

    private static void addChild(Hash hash, PinnedLeaves x, int child) {
        for (int number = 0; number < 8; number++) {
            hash.add(x.child(child, number));
        }
        for (int hook = 0; hook < 3; hook++) {
            for (int number = 0; number < 3; number++) {
                hash.add(x.hook(child, hook, number));
            }
            hash.add(x.ifLoosened(child, hook));
        }
        for (int place = 0; place < x.child(child, 4); place++) {
            hash.add(x.heap(child, place));
        }
        hash.add(x.ifRaked(child, 0));
        hash.add(x.ifRaked(child, 1));
        hash.add(x.ifRested(child));
    }

    private static final class Hash {
        private long value = 3347;

        void add(long number) {
            value = 31 * value + number;
        }
    }
}
