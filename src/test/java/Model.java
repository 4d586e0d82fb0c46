import java.util.ArrayDeque;
import java.util.ArrayList;
import java.util.Deque;
import java.util.List;
import java.util.regex.Matcher;
import java.util.regex.Pattern;

/**
 * The document once more, in another way: objects that are copied whole, what would be found by doing
 * it to a copy, the syntax as a regular expression. Its methods bear the names of the face.
 */
public final class Model {
    private static final String PART =
            "(e[0-4]|z[0-4]|n[0-4][0-2][a-l]|p[0-4][0-2]|x[0-4][0-2]|t[0-4][a-l]|w[0-4][a-l][0-9]|g[a-l][0-9]|k[0-4]|b)";
    private static final Pattern ORDERS = Pattern.compile(PART + "(;" + PART + ")*");

    private State now = new State();
    private State snapshot;
    private final Deque<State> saved = new ArrayDeque<>();
    private String buffer = "";

    private static final class Leaf {
        int number;
        int colour;
        int where;
        int branch;
        int bell = -1;
    }

    private static final class Hook {
        int kind;
        int leaf = -1;
        int branch = -1;
    }

    private static final class Child {
        boolean inYard;
        int cameIn = -1;
        int took;
        int burnt;
        int rakings;
        Hook[] hooks = {new Hook(), new Hook(), new Hook()};
        List<Integer> heap = new ArrayList<>();
    }

    private static final class State {
        List<Leaf> leaves = new ArrayList<>();
        Child[] children = {new Child(), new Child(), null, null, null};
        int bell;
        int[] settings = {4, 0};
        int rakings;
        int looked;
        int failed;
        int dangers;
        int mostAside;

        State copy() {
            State other = new State();
            for (Leaf leaf : leaves) {
                Leaf copy = new Leaf();
                copy.number = leaf.number;
                copy.colour = leaf.colour;
                copy.where = leaf.where;
                copy.branch = leaf.branch;
                copy.bell = leaf.bell;
                other.leaves.add(copy);
            }
            for (int place = 0; place < 5; place++) {
                other.children[place] = children[place] == null ? null : copy(children[place]);
            }
            other.bell = bell;
            other.settings = settings.clone();
            other.rakings = rakings;
            other.looked = looked;
            other.failed = failed;
            other.dangers = dangers;
            other.mostAside = mostAside;
            return other;
        }

        private static Child copy(Child child) {
            Child other = new Child();
            other.inYard = child.inYard;
            other.cameIn = child.cameIn;
            other.took = child.took;
            other.burnt = child.burnt;
            other.rakings = child.rakings;
            other.heap = new ArrayList<>(child.heap);
            for (int hook = 0; hook < 3; hook++) {
                other.hooks[hook].kind = child.hooks[hook].kind;
                other.hooks[hook].leaf = child.hooks[hook].leaf;
                other.hooks[hook].branch = child.hooks[hook].branch;
            }
            return other;
        }

        Leaf on(int branch) {
            for (Leaf leaf : leaves) {
                if (leaf.where == 0 && leaf.branch == branch) {
                    return leaf;
                }
            }
            return null;
        }

        List<Child> present() {
            List<Child> list = new ArrayList<>();
            for (Child child : children) {
                if (child != null) {
                    list.add(child);
                }
            }
            return list;
        }

        int where(int where) {
            return (int) leaves.stream().filter(leaf -> leaf.where == where).count();
        }

        List<Hook> hooks(int kind, int leaf) {
            List<Hook> list = new ArrayList<>();
            for (Child child : present()) {
                for (Hook hook : child.hooks) {
                    if (hook.kind == kind && (leaf == -1 || hook.leaf == leaf)) {
                        list.add(hook);
                    }
                }
            }
            return list;
        }

        boolean mayBurn(int leaf) {
            return settings[1] == 0 ? hooks(2, leaf).isEmpty() : bell >= leaves.get(leaf).bell + 2;
        }

        int rake(Child child) {
            List<Integer> stay = new ArrayList<>();
            for (int leaf : child.heap) {
                if (!mayBurn(leaf)) {
                    stay.add(leaf);
                } else {
                    leaves.get(leaf).where = 2;
                }
            }
            int burnt = child.heap.size() - stay.size();
            child.heap = stay;
            child.burnt += burnt;
            child.rakings++;
            rakings++;
            looked += settings[1] == 0 ? 3 * present().size() : 0;
            return burnt;
        }

        int rakeAll() {
            int burnt = 0;
            for (Child child : present()) {
                burnt += rake(child);
            }
            return burnt;
        }

        int putAside(Child child, Leaf leaf) {
            leaf.where = 1;
            leaf.bell = bell;
            child.heap.add(leaf.number);
            child.took++;
            int burnt = child.heap.size() >= settings[0] ? rake(child) : 0;
            mostAside = Math.max(mostAside, where(1));
            return burnt;
        }

        int grow(int branch, int colour) {
            Leaf leaf = new Leaf();
            leaf.number = leaves.size();
            leaf.colour = colour;
            leaf.branch = branch;
            leaves.add(leaf);
            return leaf.number;
        }

        int rest(Child child) {
            int pins = 0;
            for (int hook = 0; hook < 3; hook++) {
                pins += child.hooks[hook].kind == 2 ? 1 : 0;
                child.hooks[hook] = new Hook();
            }
            child.inYard = false;
            child.cameIn = -1;
            return pins;
        }
    }

    private Child needChild(int child) {
        if (child < 0 || child > 4 || now.children[child] == null) {
            throw new IndexOutOfBoundsException();
        }
        return now.children[child];
    }

    private static void index(boolean right) {
        if (!right) {
            throw new IndexOutOfBoundsException();
        }
    }

    private static void argument(boolean right) {
        if (!right) {
            throw new IllegalArgumentException();
        }
    }

    private static void state(boolean right) {
        if (!right) {
            throw new IllegalStateException();
        }
    }

    private void save() {
        saved.addLast(now.copy());
        if (saved.size() > 6) {
            saved.removeFirst();
        }
    }

    public int come() {
        for (int child = 0; child < 5; child++) {
            if (now.children[child] == null) {
                save();
                now.children[child] = new Child();
                return child;
            }
        }
        throw new IllegalStateException();
    }

    public int leave(int child) {
        Child who = needChild(child);
        state(now.present().size() > 1);
        save();
        now.children[child] = null;
        now.present().get(0).heap.addAll(who.heap);
        return who.heap.size();
    }

    public int enter(int child) {
        Child who = needChild(child);
        state(!who.inYard);
        save();
        who.inYard = true;
        who.cameIn = now.bell;
        return now.bell;
    }

    public int rest(int child) {
        Child who = needChild(child);
        state(who.inYard);
        save();
        return now.rest(who);
    }

    public int ring() {
        for (Child child : now.present()) {
            state(!child.inYard || child.cameIn == now.bell);
        }
        save();
        return ++now.bell;
    }

    public int grow(int branch, int colour) {
        index(branch >= 0 && branch < 12);
        argument(colour >= 0 && colour < 10);
        state(now.on(branch) == null && now.leaves.size() < 120);
        save();
        return now.grow(branch, colour);
    }

    public int note(int child, int hook, int branch) {
        Child who = needChild(child);
        index(hook >= 0 && hook < 3 && branch >= 0 && branch < 12);
        state(who.inYard && who.hooks[hook].kind == 0 && now.on(branch) != null);
        save();
        who.hooks[hook].kind = 1;
        who.hooks[hook].leaf = now.on(branch).number;
        who.hooks[hook].branch = branch;
        return who.hooks[hook].leaf;
    }

    private Hook needHook(int child, int hook) {
        Child who = needChild(child);
        index(hook >= 0 && hook < 3);
        return who.hooks[hook];
    }

    public int pin(int child, int hook) {
        Hook what = needHook(child, hook);
        state(what.kind == 1);
        save();
        Leaf there = now.on(what.branch);
        if (there == null || there.number != what.leaf) {
            now.children[child].hooks[hook] = new Hook();
            now.failed++;
            return 0;
        }
        what.kind = 2;
        what.branch = -1;
        return 1;
    }

    public int loosen(int child, int hook) {
        Hook what = needHook(child, hook);
        state(what.kind != 0);
        save();
        now.children[child].hooks[hook] = new Hook();
        return what.leaf;
    }

    public int look(int child, int hook) {
        Hook what = needHook(child, hook);
        state(what.kind != 0);
        save();
        Leaf leaf = now.leaves.get(what.leaf);
        if (what.kind == 1 && leaf.where == 2) {
            now.dangers++;
            return -1;
        }
        return leaf.colour;
    }

    public int take(int child, int branch) {
        Child who = needChild(child);
        index(branch >= 0 && branch < 12);
        state(who.inYard && now.on(branch) != null);
        save();
        return now.putAside(who, now.on(branch));
    }

    public int swap(int child, int branch, int colour) {
        Child who = needChild(child);
        index(branch >= 0 && branch < 12);
        argument(colour >= 0 && colour < 10);
        state(who.inYard && now.on(branch) != null && now.leaves.size() < 120);
        save();
        Leaf old = now.on(branch);
        int leaf = now.grow(branch, colour);
        now.putAside(who, old);
        return leaf;
    }

    public int rake(int child) {
        Child who = needChild(child);
        state(!who.heap.isEmpty());
        save();
        return now.rake(who);
    }

    public int set(int setting, int value) {
        index(setting == 0 || setting == 1);
        argument(setting == 0 ? value >= 1 && value <= 20 : value == 0 || value == 1);
        save();
        int previous = now.settings[setting];
        now.settings[setting] = value;
        return previous;
    }

    public int append(int code) {
        argument(code >= 33 && code <= 126);
        state(buffer.length() < 60);
        buffer += (char) code;
        return buffer.length();
    }

    public int clearBuffer() {
        int length = buffer.length();
        buffer = "";
        return length;
    }

    public int firstError() {
        for (int length = 1; length <= buffer.length(); length++) {
            Matcher matcher = ORDERS.matcher(buffer.substring(0, length));
            if (!matcher.matches() && !matcher.hitEnd()) {
                return length - 1;
            }
        }
        return buffer.length();
    }

    public int obey() {
        argument(ORDERS.matcher(buffer).matches());
        save();
        List<State> before = new ArrayList<>(saved);
        int done = 0;
        try {
            for (String part : buffer.split(";")) {
                order(part);
                done++;
            }
        } catch (IndexOutOfBoundsException | IllegalArgumentException | IllegalStateException e) {
            // The order is not done, and no later one.
        }
        saved.clear();
        saved.addAll(before);
        buffer = "";
        return done;
    }

    private void order(String part) {
        int[] digit = new int[4];
        int[] branch = new int[4];
        for (int at = 1; at < part.length(); at++) {
            digit[at] = part.charAt(at) - '0';
            branch[at] = part.charAt(at) - 'a';
        }
        switch (part.charAt(0)) {
            case 'e' -> enter(digit[1]);
            case 'z' -> rest(digit[1]);
            case 'n' -> note(digit[1], digit[2], branch[3]);
            case 'p' -> pin(digit[1], digit[2]);
            case 'x' -> loosen(digit[1], digit[2]);
            case 't' -> take(digit[1], branch[2]);
            case 'w' -> swap(digit[1], branch[2], digit[3]);
            case 'g' -> grow(branch[1], digit[2]);
            case 'k' -> rake(digit[1]);
            default -> ring();
        }
    }

    public int keep() {
        snapshot = now.copy();
        return now.bell;
    }

    public int goBack() {
        state(snapshot != null);
        save();
        now = snapshot.copy();
        return now.bell;
    }

    public int undo() {
        state(!saved.isEmpty());
        now = saved.removeLast();
        return saved.size();
    }

    public int branch(int branch) {
        index(branch >= 0 && branch < 12);
        Leaf leaf = now.on(branch);
        return leaf == null ? -1 : leaf.number;
    }

    public int leaf(int leaf, int what) {
        index(leaf >= 0 && leaf < now.leaves.size());
        argument(what >= 0 && what < 8);
        Leaf it = now.leaves.get(leaf);
        int heap = -1;
        int holders = 0;
        for (int child = 0; child < 5; child++) {
            Child who = now.children[child];
            if (who != null) {
                heap = who.heap.contains(leaf) ? child : heap;
                for (Hook hook : who.hooks) {
                    holders |= hook.kind == 2 && hook.leaf == leaf ? 1 << child : 0;
                }
            }
        }
        int[] numbers = {it.colour, it.where, it.branch, it.bell, heap, holders,
            now.hooks(2, leaf).size(), now.hooks(1, leaf).size()};
        return numbers[what];
    }

    public int child(int child, int what) {
        Child who = needChild(child);
        argument(what >= 0 && what < 8);
        int[] kinds = new int[3];
        for (Hook hook : who.hooks) {
            kinds[hook.kind]++;
        }
        int[] numbers = {who.inYard ? 1 : 0, who.cameIn, kinds[2], kinds[1], who.heap.size(), who.took,
            who.burnt, who.rakings};
        return numbers[what];
    }

    public int hook(int child, int hook, int what) {
        Hook it = needHook(child, hook);
        argument(what >= 0 && what < 3);
        return new int[] {it.kind, it.leaf, it.branch}[what];
    }

    public int heap(int child, int place) {
        Child who = needChild(child);
        argument(place >= 0);
        return place < who.heap.size() ? who.heap.get(place) : -1;
    }

    public int count(int what) {
        argument(what >= 0 && what < 16);
        int mask = 0;
        for (int child = 0; child < 5; child++) {
            mask |= now.children[child] == null ? 0 : 1 << child;
        }
        int inYard = (int) now.present().stream().filter(child -> child.inYard).count();
        int[] numbers = {mask, now.present().size(), inYard, now.bell, now.leaves.size(), now.where(0),
            now.where(1), now.where(2), now.hooks(2, -1).size(), now.hooks(1, -1).size(), now.rakings,
            now.looked, now.failed, now.dangers, now.mostAside, saved.size()};
        return numbers[what];
    }

    public int setting(int setting) {
        index(setting == 0 || setting == 1);
        return now.settings[setting];
    }

    public int why(int leaf) {
        index(leaf >= 0 && leaf < now.leaves.size());
        int where = now.leaves.get(leaf).where;
        return where == 2 ? 0 : where == 0 ? 1 : now.mayBurn(leaf) ? 3 : 2;
    }

    public int ifRaked(int child, int setting) {
        needChild(child);
        argument(setting == 0 || setting == 1);
        State then = now.copy();
        then.settings[1] = setting;
        return then.rake(then.children[child]);
    }

    public int bestRake() {
        int best = -1;
        int bestWorth = 0;
        for (int child = 0; child < 5; child++) {
            State then = now.copy();
            if (then.children[child] != null) {
                int size = then.children[child].heap.size();
                int burnt = then.rake(then.children[child]);
                int worth = burnt == 0 ? 0 : 1000 * burnt + size;
                if (worth > bestWorth) {
                    best = child;
                    bestWorth = worth;
                }
            }
        }
        return best;
    }

    private static int heldAside(State state) {
        int held = 0;
        for (Leaf leaf : state.leaves) {
            held += leaf.where == 1 && !state.hooks(2, leaf.number).isEmpty() ? 1 : 0;
        }
        return held;
    }

    public int ifLoosened(int child, int hook) {
        needHook(child, hook);
        State then = now.copy();
        then.children[child].hooks[hook] = new Hook();
        return heldAside(now) - heldAside(then);
    }

    public int late() {
        int mask = 0;
        for (int child = 0; child < 5; child++) {
            Child who = now.children[child];
            mask |= who != null && who.inYard && who.cameIn < now.bell ? 1 << child : 0;
        }
        return mask;
    }

    public int ifRested(int child) {
        needChild(child);
        State then = now.copy();
        then.rest(then.children[child]);
        return then.rakeAll();
    }

    public int ifAllRested() {
        State then = now.copy();
        for (Child child : then.present()) {
            then.rest(child);
        }
        then.bell += 2;
        return then.rakeAll();
    }

    public int mostHeld() {
        int best = -1;
        for (Leaf leaf : now.leaves) {
            int pins = now.hooks(2, leaf.number).size();
            int most = best == -1 ? 0 : now.hooks(2, best).size();
            best = pins > most ? leaf.number : best;
        }
        return best;
    }

    public double burntShare() {
        int burnt = now.where(2);
        int all = burnt + now.where(1);
        return all == 0 ? 1.0 : (double) burnt / all;
    }

    public float fullness() {
        return (float) now.where(1) / (now.settings[0] * now.present().size());
    }

    public long digest() {
        List<Long> values = new ArrayList<>();
        for (int what = 0; what < 16; what++) {
            values.add((long) count(what));
        }
        values.add((long) now.settings[0]);
        values.add((long) now.settings[1]);
        for (int branch = 0; branch < 12; branch++) {
            values.add((long) branch(branch));
        }
        for (int leaf = 0; leaf < now.leaves.size(); leaf++) {
            for (int what = 0; what < 8; what++) {
                values.add((long) leaf(leaf, what));
            }
            values.add((long) why(leaf));
        }
        for (int child = 0; child < 5; child++) {
            if (now.children[child] != null) {
                addChild(values, child);
            }
        }
        values.add((long) bestRake());
        values.add((long) late());
        values.add((long) ifAllRested());
        values.add((long) mostHeld());
        values.add(Double.doubleToLongBits(burntShare()));
        values.add((long) Float.floatToIntBits(fullness()));
        values.add(snapshot == null ? 0L : 1L);
        values.add((long) buffer.length());
        buffer.chars().forEach(code -> values.add((long) code));
        long hash = 3347;
        for (long value : values) {
            hash = 31 * hash + value;
        }
        return hash;
    }

    private void addChild(List<Long> values, int child) {
        for (int what = 0; what < 8; what++) {
            values.add((long) child(child, what));
        }
        for (int hook = 0; hook < 3; hook++) {
            for (int what = 0; what < 3; what++) {
                values.add((long) hook(child, hook, what));
            }
            values.add((long) ifLoosened(child, hook));
        }
        for (int leaf : now.children[child].heap) {
            values.add((long) leaf);
        }
        values.add((long) ifRaked(child, 0));
        values.add((long) ifRaked(child, 1));
        values.add((long) ifRested(child));
    }
}
