/**
 * Leaves that children take off branches, and that no gardener burns while they may still be
 * looked at. What each call does is told in ../shared/DOC.md.
 */
public final class PinnedLeaves {
    public static final int NONE = -1;

    private static final int BRANCHES = 12;
    private static final int LEAVES = 120;
    private static final int COLOURS = 10;
    private static final int CHILDREN = 5;
    private static final int HOOKS = 3;
    private static final int SAVED = 6;
    private static final int SIGNS = 60;

    private static final int SETTINGS = 2;
    private static final int RAKE_AT = 0;
    private static final int MOST_TO_RAKE_AT = 20;
    private static final int BY_PINS = 0;
    private static final int BY_BELL = 1;

    private static final int LAST_OF_LEAF = 7;
    private static final int LAST_OF_CHILD = 7;
    private static final int LAST_OF_HOOK = 2;
    private static final int LAST_COUNT = 15;

    private final Yard yard = new Yard();
    private final Yard snapshot = new Yard();
    private final SavedYards saved = new SavedYards();
    private final OrderText text = new OrderText();
    private boolean hasSnapshot;

    public PinnedLeaves() {
    }

    // ---- children, the bell

    public int come() throws IllegalStateException {
        if (yard.children.lowestFree() == NONE) {
            throw new IllegalStateException("every place has a child");
        }
        saved.push(yard);
        return yard.addChild();
    }

    public int leave(int child) throws IndexOutOfBoundsException, IllegalStateException {
        needChild(child);
        if (yard.children.number() <= 1) {
            throw new IllegalStateException("this is the only child");
        }
        saved.push(yard);
        return yard.removeChild(child);
    }

    public int enter(int child) throws IndexOutOfBoundsException, IllegalStateException {
        needChild(child);
        if (!yard.mayGoIn(child)) {
            throw new IllegalStateException("the child is in the yard");
        }
        saved.push(yard);
        return yard.goIn(child);
    }

    public int rest(int child) throws IndexOutOfBoundsException, IllegalStateException {
        needChild(child);
        if (!yard.mayLieDown(child)) {
            throw new IllegalStateException("the child rests");
        }
        saved.push(yard);
        return yard.lieDown(child);
    }

    public int ring() throws IllegalStateException {
        if (!yard.mayStrike()) {
            throw new IllegalStateException("a child in the yard came in at an earlier bell");
        }
        saved.push(yard);
        return yard.strike();
    }

    // ---- leaves, hooks

    public int grow(int branch, int colour)
            throws IndexOutOfBoundsException, IllegalArgumentException, IllegalStateException {
        needBranch(branch);
        needColour(colour);
        if (!yard.maySprout(branch)) {
            throw new IllegalStateException("there is a leaf on the branch, or no leaf is left to grow");
        }
        saved.push(yard);
        return yard.leaves.sprout(branch, colour);
    }

    public int note(int child, int hook, int branch) throws IndexOutOfBoundsException, IllegalStateException {
        needHook(child, hook);
        needBranch(branch);
        if (!yard.mayWrite(child, hook, branch)) {
            throw new IllegalStateException("the child rests, the hook is not empty, or there is no leaf");
        }
        saved.push(yard);
        return yard.write(child, hook, branch);
    }

    public int pin(int child, int hook) throws IndexOutOfBoundsException, IllegalStateException {
        needHook(child, hook);
        if (!yard.mayFasten(child, hook)) {
            throw new IllegalStateException("the hook has no note");
        }
        saved.push(yard);
        return yard.fasten(child, hook);
    }

    public int loosen(int child, int hook) throws IndexOutOfBoundsException, IllegalStateException {
        needHook(child, hook);
        if (!yard.mayRelease(child, hook)) {
            throw new IllegalStateException("the hook is empty");
        }
        saved.push(yard);
        return yard.release(child, hook);
    }

    public int look(int child, int hook) throws IndexOutOfBoundsException, IllegalStateException {
        needHook(child, hook);
        if (!yard.mayRelease(child, hook)) {
            throw new IllegalStateException("the hook is empty");
        }
        saved.push(yard);
        return yard.lookThrough(child, hook);
    }

    public int take(int child, int branch) throws IndexOutOfBoundsException, IllegalStateException {
        needChild(child);
        needBranch(branch);
        if (!yard.mayTakeOff(child, branch)) {
            throw new IllegalStateException("the child rests, or there is no leaf");
        }
        saved.push(yard);
        return yard.takeOff(child, branch);
    }

    public int swap(int child, int branch, int colour)
            throws IndexOutOfBoundsException, IllegalArgumentException, IllegalStateException {
        needChild(child);
        needBranch(branch);
        needColour(colour);
        if (!yard.mayExchange(child, branch)) {
            throw new IllegalStateException("the child rests, there is no leaf, or no leaf is left to grow");
        }
        saved.push(yard);
        return yard.exchange(child, branch, colour);
    }

    public int rake(int child) throws IndexOutOfBoundsException, IllegalStateException {
        needChild(child);
        if (!yard.mayClear(child)) {
            throw new IllegalStateException("the heap is empty");
        }
        saved.push(yard);
        return yard.clear(child);
    }

    public int set(int setting, int value) throws IndexOutOfBoundsException, IllegalArgumentException {
        needSetting(setting);
        if (!isValueOf(setting, value)) {
            throw new IllegalArgumentException("the setting has no such value");
        }
        saved.push(yard);
        return yard.change(setting, value);
    }

    // ---- texts, the snapshot

    public int append(int code) throws IllegalArgumentException, IllegalStateException {
        if (code < 33 || code > 126) {
            throw new IllegalArgumentException("the code is not 33 to 126");
        }
        if (text.length() >= SIGNS) {
            throw new IllegalStateException("the buffer is full");
        }
        return text.add(code);
    }

    public int clearBuffer() {
        return text.empty();
    }

    public int firstError() {
        return text.firstWrong();
    }

    public int obey() throws IllegalArgumentException {
        if (!text.isComplete()) {
            throw new IllegalArgumentException("the buffer is not complete orders");
        }
        saved.push(yard);
        int done = 0;
        for (int at = 0; at < text.length(); at++) {
            if (text.startsPart(at)) {
                if (carryOut(at) == NONE) {
                    break;
                }
                done++;
            }
        }
        text.empty();
        return done;
    }

    public int keep() {
        snapshot.copyFrom(yard);
        hasSnapshot = true;
        return yard.bell;
    }

    public int goBack() throws IllegalStateException {
        if (!hasSnapshot) {
            throw new IllegalStateException("there is no snapshot");
        }
        saved.push(yard);
        yard.copyFrom(snapshot);
        return yard.bell;
    }

    public int undo() throws IllegalStateException {
        if (saved.number() == 0) {
            throw new IllegalStateException("there is no saved state");
        }
        saved.popInto(yard);
        return saved.number();
    }

    // ---- looks; nothing is changed

    public int branch(int branch) throws IndexOutOfBoundsException {
        needBranch(branch);
        return yard.leaves.onBranch.get(branch);
    }

    public int leaf(int leaf, int what) throws IndexOutOfBoundsException, IllegalArgumentException {
        needLeaf(leaf);
        needWhat(what, LAST_OF_LEAF);
        return yard.numberOfLeaf(leaf, what);
    }

    public int child(int child, int what) throws IndexOutOfBoundsException, IllegalArgumentException {
        needChild(child);
        needWhat(what, LAST_OF_CHILD);
        return yard.numberOfChild(child, what);
    }

    public int hook(int child, int hook, int what) throws IndexOutOfBoundsException, IllegalArgumentException {
        needHook(child, hook);
        needWhat(what, LAST_OF_HOOK);
        return yard.hooks.numberOfHook(child, hook, what);
    }

    public int heap(int child, int place) throws IndexOutOfBoundsException, IllegalArgumentException {
        needChild(child);
        if (place < 0) {
            throw new IllegalArgumentException("the place is below 0");
        }
        return yard.children.leafOnHeap(child, place);
    }

    public int count(int what) throws IllegalArgumentException {
        needWhat(what, LAST_COUNT);
        return counted(what);
    }

    public int setting(int setting) throws IndexOutOfBoundsException {
        needSetting(setting);
        return yard.valueOf(setting);
    }

    public int why(int leaf) throws IndexOutOfBoundsException {
        needLeaf(leaf);
        return yard.whyNotBurnt(leaf);
    }

    // ---- what would be; nothing is changed

    public int ifRaked(int child, int setting) throws IndexOutOfBoundsException, IllegalArgumentException {
        needChild(child);
        if (setting != BY_PINS && setting != BY_BELL) {
            throw new IllegalArgumentException("setting 1 is 0 or 1");
        }
        return yard.burnable(child, setting, NONE);
    }

    public int bestRake() {
        return yard.bestHeap();
    }

    public int ifLoosened(int child, int hook) throws IndexOutOfBoundsException {
        needHook(child, hook);
        return yard.freedBy(child, hook);
    }

    public int late() {
        return yard.children.maskOfLate(yard.bell);
    }

    public int ifRested(int child) throws IndexOutOfBoundsException {
        needChild(child);
        return yard.burnableIfRested(child);
    }

    public int ifAllRested() {
        return yard.burnableIfAllRested();
    }

    public int mostHeld() {
        return yard.mostPinned();
    }

    public double burntShare() {
        int burnt = yard.leaves.numberWhere(Leaves.BURNT);
        int putAside = burnt + yard.leaves.numberWhere(Leaves.ASIDE);
        return putAside == 0 ? 1.0 : (double) burnt / (double) putAside;
    }

    public float fullness() {
        int room = yard.rakeAt * yard.children.number();
        // There is always a child and setting 0 is at least 1; tested all the same before it divides.
        return room <= 0 ? 0.0f : (float) yard.leaves.numberWhere(Leaves.ASIDE) / (float) room;
    }

    public long digest() {
        long hash = 3347;
        for (int what = 0; what <= LAST_COUNT; what++) {
            hash = mixed(hash, counted(what));
        }
        for (int setting = 0; setting < SETTINGS; setting++) {
            hash = mixed(hash, yard.valueOf(setting));
        }
        for (int branch = 0; branch < BRANCHES; branch++) {
            hash = mixed(hash, yard.leaves.onBranch.get(branch));
        }
        for (int leaf = 0; leaf < yard.leaves.grown && leaf < LEAVES; leaf++) {
            hash = mixedLeaf(hash, leaf);
        }
        for (int child = 0; child < CHILDREN; child++) {
            if (yard.children.isHere(child)) {
                hash = mixedChild(hash, child);
            }
        }
        hash = mixed(hash, yard.bestHeap());
        hash = mixed(hash, yard.children.maskOfLate(yard.bell));
        hash = mixed(hash, yard.burnableIfAllRested());
        hash = mixed(hash, yard.mostPinned());
        hash = mixed(hash, bitsOf(burntShare(), 52, 1023));
        hash = mixed(hash, bitsOf((double) fullness(), 23, 127));
        hash = mixed(hash, hasSnapshot ? 1 : 0);
        return mixedText(hash);
    }

    // ---- what a call needs, or throws

    private void needChild(int child) {
        if (!yard.children.isHere(child)) {
            throw new IndexOutOfBoundsException("there is no such child");
        }
    }

    private void needHook(int child, int hook) {
        needChild(child);
        if (hook < 0 || hook >= HOOKS) {
            throw new IndexOutOfBoundsException("there is no such hook");
        }
    }

    private void needLeaf(int leaf) {
        if (leaf < 0 || leaf >= yard.leaves.grown) {
            throw new IndexOutOfBoundsException("no such leaf grew so far");
        }
    }

    private static void needBranch(int branch) {
        if (branch < 0 || branch >= BRANCHES) {
            throw new IndexOutOfBoundsException("there is no such branch");
        }
    }

    private static void needSetting(int setting) {
        if (setting < 0 || setting >= SETTINGS) {
            throw new IndexOutOfBoundsException("there is no such setting");
        }
    }

    private static void needColour(int colour) {
        if (colour < 0 || colour >= COLOURS) {
            throw new IllegalArgumentException("there is no such colour");
        }
    }

    private static void needWhat(int what, int last) {
        if (what < 0 || what > last) {
            throw new IllegalArgumentException("what is out of range");
        }
    }

    private static boolean isValueOf(int setting, int value) {
        if (setting == RAKE_AT) {
            return value >= 1 && value <= MOST_TO_RAKE_AT;
        }
        return value == BY_PINS || value == BY_BELL;
    }

    // ---- orders

    /** Does the order that starts at a place of the text; NONE, and nothing is done, if its method would throw. */
    private int carryOut(int at) {
        int child = text.digitAt(at + 1);
        int hook = text.digitAt(at + 2);
        int branch = text.branchAt(at + 2);
        switch (text.signAt(at)) {
            case 'e':
                return yard.mayGoIn(child) ? yard.goIn(child) : NONE;
            case 'z':
                return yard.mayLieDown(child) ? yard.lieDown(child) : NONE;
            case 'n':
                branch = text.branchAt(at + 3);
                return yard.mayWrite(child, hook, branch) ? yard.write(child, hook, branch) : NONE;
            case 'p':
                return yard.mayFasten(child, hook) ? yard.fasten(child, hook) : NONE;
            case 'x':
                return yard.mayRelease(child, hook) ? yard.release(child, hook) : NONE;
            case 't':
                return yard.mayTakeOff(child, branch) ? yard.takeOff(child, branch) : NONE;
            case 'w':
                return yard.mayExchange(child, branch) ? yard.exchange(child, branch, text.digitAt(at + 3)) : NONE;
            case 'g':
                branch = text.branchAt(at + 1);
                return yard.maySprout(branch) ? yard.leaves.sprout(branch, text.digitAt(at + 2)) : NONE;
            case 'k':
                return yard.mayClear(child) ? yard.clear(child) : NONE;
            default:
                return yard.mayStrike() ? yard.strike() : NONE;
        }
    }

    // ---- numbers, and the hash of them

    private int counted(int what) {
        return what == LAST_COUNT ? saved.number() : yard.numberOfAll(what);
    }

    private static long mixed(long hash, long value) {
        return 31 * hash + value;
    }

    private long mixedLeaf(long before, int leaf) {
        long hash = before;
        for (int what = 0; what <= LAST_OF_LEAF; what++) {
            hash = mixed(hash, yard.numberOfLeaf(leaf, what));
        }
        return mixed(hash, yard.whyNotBurnt(leaf));
    }

    private long mixedChild(long before, int child) {
        long hash = before;
        for (int what = 0; what <= LAST_OF_CHILD; what++) {
            hash = mixed(hash, yard.numberOfChild(child, what));
        }
        for (int hook = 0; hook < HOOKS; hook++) {
            for (int what = 0; what <= LAST_OF_HOOK; what++) {
                hash = mixed(hash, yard.hooks.numberOfHook(child, hook, what));
            }
            hash = mixed(hash, yard.freedBy(child, hook));
        }
        int size = yard.children.heapSize.get(child);
        for (int place = 0; place < size; place++) {
            hash = mixed(hash, yard.children.leafOnHeap(child, place));
        }
        hash = mixed(hash, yard.burnable(child, BY_PINS, NONE));
        hash = mixed(hash, yard.burnable(child, BY_BELL, NONE));
        return mixed(hash, yard.burnableIfRested(child));
    }

    private long mixedText(long before) {
        long hash = mixed(before, text.length());
        for (int at = 0; at < text.length(); at++) {
            hash = mixed(hash, text.signAt(at));
        }
        return hash;
    }

    /**
     * The bits of a number that is 0 or far from the ends of its format. The library's own function
     * for that is outside of ../shared/LANGUAGE.md; each step here is exact.
     */
    private static long bitsOf(double number, int fractionBits, int bias) {
        if (!(number > 0.0)) {
            return 0;
        }
        double part = number;
        int exponent = 0;
        for (int step = 0; step < 1000 && part < 1.0; step++) {
            part = part * 2.0;
            exponent--;
        }
        for (int step = 0; step < 1000 && part >= 2.0; step++) {
            part = part / 2.0;
            exponent++;
        }
        long fraction = (long) ((part - 1.0) * (double) (1L << fractionBits));
        return ((long) (bias + exponent) << fractionBits) + fraction;
    }

    /** Numbers in a row. Outside of it there is NONE, so that no index makes the machine throw. */
    private static final class Row {
        private final int[] cells;

        Row(int length) {
            cells = new int[length < 0 ? 0 : length];
        }

        int get(int index) {
            return index >= 0 && index < cells.length ? cells[index] : NONE;
        }

        void put(int index, int value) {
            if (index >= 0 && index < cells.length) {
                cells[index] = value;
            }
        }

        void add(int index, int more) {
            put(index, get(index) + more);
        }

        void fill(int value) {
            for (int index = 0; index < cells.length; index++) {
                cells[index] = value;
            }
        }

        /** How many have this value, of those from one index to before another. */
        int number(int value, int from, int to) {
            int number = 0;
            for (int index = from < 0 ? 0 : from; index < to && index < cells.length; index++) {
                number += cells[index] == value ? 1 : 0;
            }
            return number;
        }

        void copyFrom(Row other) {
            System.arraycopy(other.cells, 0, cells, 0, Math.min(cells.length, other.cells.length));
        }
    }

    /** The leaves that grew, and the branches. */
    private static final class Leaves {
        static final int ON_BRANCH = 0;
        static final int ASIDE = 1;
        static final int BURNT = 2;

        int grown;
        final Row onBranch = new Row(BRANCHES);
        final Row colours = new Row(LEAVES);
        final Row where = new Row(LEAVES);
        final Row lastBranch = new Row(LEAVES);
        final Row asideSince = new Row(LEAVES);
        final Row heapOf = new Row(LEAVES);

        Leaves() {
            onBranch.fill(NONE);
        }

        int sprout(int branch, int colour) {
            int leaf = grown;
            grown++;
            onBranch.put(branch, leaf);
            colours.put(leaf, colour);
            where.put(leaf, ON_BRANCH);
            lastBranch.put(leaf, branch);
            asideSince.put(leaf, NONE);
            heapOf.put(leaf, NONE);
            return leaf;
        }

        void putAside(int leaf, int child, int bell) {
            onBranch.put(lastBranch.get(leaf), NONE);
            where.put(leaf, ASIDE);
            asideSince.put(leaf, bell);
            heapOf.put(leaf, child);
        }

        void burn(int leaf) {
            where.put(leaf, BURNT);
            heapOf.put(leaf, NONE);
        }

        int numberWhere(int place) {
            return where.number(place, 0, grown);
        }

        void copyFrom(Leaves other) {
            grown = other.grown;
            onBranch.copyFrom(other.onBranch);
            colours.copyFrom(other.colours);
            where.copyFrom(other.where);
            lastBranch.copyFrom(other.lastBranch);
            asideSince.copyFrom(other.asideSince);
            heapOf.copyFrom(other.heapOf);
        }
    }

    /** The places for children, each with its heap. */
    private static final class Children {
        final Row here = new Row(CHILDREN);
        final Row cameInAt = new Row(CHILDREN);
        final Row tookOff = new Row(CHILDREN);
        final Row burnt = new Row(CHILDREN);
        final Row rakings = new Row(CHILDREN);
        final Row heapSize = new Row(CHILDREN);
        final Row heaps = new Row(CHILDREN * LEAVES);

        Children() {
            cameInAt.fill(NONE);
            here.put(0, 1);
            here.put(1, 1);
        }

        boolean isHere(int child) {
            return here.get(child) == 1;
        }

        boolean isInYard(int child) {
            return cameInAt.get(child) != NONE;
        }

        int number() {
            return here.number(1, 0, CHILDREN);
        }

        int numberInYard() {
            return CHILDREN - cameInAt.number(NONE, 0, CHILDREN);
        }

        int mask() {
            int mask = 0;
            for (int child = 0; child < CHILDREN; child++) {
                mask |= isHere(child) ? 1 << child : 0;
            }
            return mask;
        }

        int maskOfLate(int bell) {
            int mask = 0;
            for (int child = 0; child < CHILDREN; child++) {
                mask |= isInYard(child) && cameInAt.get(child) != bell ? 1 << child : 0;
            }
            return mask;
        }

        int lowestFree() {
            for (int child = 0; child < CHILDREN; child++) {
                if (!isHere(child)) {
                    return child;
                }
            }
            return NONE;
        }

        int lowestBesides(int leaving) {
            for (int child = 0; child < CHILDREN; child++) {
                if (child != leaving && isHere(child)) {
                    return child;
                }
            }
            return NONE;
        }

        /** An empty place has no bell and no heap, but the numbers of the child who was there. */
        void fillPlace(int child) {
            here.put(child, 1);
            tookOff.put(child, 0);
            burnt.put(child, 0);
            rakings.put(child, 0);
        }

        void emptyPlace(int child) {
            here.put(child, 0);
            cameInAt.put(child, NONE);
            heapSize.put(child, 0);
        }

        int leafOnHeap(int child, int place) {
            boolean isThere = place >= 0 && place < heapSize.get(child);
            return isThere ? heaps.get(child * LEAVES + place) : NONE;
        }

        void putOnHeap(int child, int leaf) {
            heaps.put(child * LEAVES + heapSize.get(child), leaf);
            heapSize.add(child, 1);
        }

        void copyFrom(Children other) {
            here.copyFrom(other.here);
            cameInAt.copyFrom(other.cameInAt);
            tookOff.copyFrom(other.tookOff);
            burnt.copyFrom(other.burnt);
            rakings.copyFrom(other.rakings);
            heapSize.copyFrom(other.heapSize);
            heaps.copyFrom(other.heaps);
        }
    }

    /** All hooks of all places for children; those of a place stand together, from its first one on. */
    private static final class Hooks {
        static final int EMPTY = 0;
        static final int NOTE = 1;
        static final int PIN = 2;

        static final int IN_ALL = CHILDREN * HOOKS;

        /** The leaf that a hook pins, NONE if it pins none. */
        final Row pinned = new Row(IN_ALL);
        /** The leaf that a hook has a note of, NONE if it has none. */
        final Row noted = new Row(IN_ALL);
        final Row branches = new Row(IN_ALL);

        Hooks() {
            pinned.fill(NONE);
            noted.fill(NONE);
            branches.fill(NONE);
        }

        static int firstOf(int child) {
            return child * HOOKS;
        }

        int kindOf(int child, int hook) {
            int at = firstOf(child) + hook;
            if (pinned.get(at) != NONE) {
                return PIN;
            }
            return noted.get(at) != NONE ? NOTE : EMPTY;
        }

        int leafOf(int child, int hook) {
            int at = firstOf(child) + hook;
            return pinned.get(at) != NONE ? pinned.get(at) : noted.get(at);
        }

        int branchOf(int child, int hook) {
            return branches.get(firstOf(child) + hook);
        }

        void write(int child, int hook, int leaf, int branch) {
            int at = firstOf(child) + hook;
            noted.put(at, leaf);
            branches.put(at, branch);
        }

        void fasten(int child, int hook) {
            int at = firstOf(child) + hook;
            pinned.put(at, noted.get(at));
            noted.put(at, NONE);
            branches.put(at, NONE);
        }

        void release(int child, int hook) {
            int at = firstOf(child) + hook;
            pinned.put(at, NONE);
            noted.put(at, NONE);
            branches.put(at, NONE);
        }

        void releaseAll(int child) {
            for (int hook = 0; hook < HOOKS; hook++) {
                release(child, hook);
            }
        }

        int pins() {
            return IN_ALL - pinned.number(NONE, 0, IN_ALL);
        }

        int notes() {
            return IN_ALL - noted.number(NONE, 0, IN_ALL);
        }

        int pinsOfChild(int child) {
            return HOOKS - pinned.number(NONE, firstOf(child), firstOf(child) + HOOKS);
        }

        int notesOfChild(int child) {
            return HOOKS - noted.number(NONE, firstOf(child), firstOf(child) + HOOKS);
        }

        int pinsOn(int leaf) {
            return pinned.number(leaf, 0, IN_ALL);
        }

        int notesOn(int leaf) {
            return noted.number(leaf, 0, IN_ALL);
        }

        int pinsOnBy(int child, int leaf) {
            return pinned.number(leaf, firstOf(child), firstOf(child) + HOOKS);
        }

        int maskOfHolders(int leaf) {
            int mask = 0;
            for (int child = 0; child < CHILDREN; child++) {
                mask |= pinsOnBy(child, leaf) > 0 ? 1 << child : 0;
            }
            return mask;
        }

        int numberOfHook(int child, int hook, int what) {
            switch (what) {
                case 0:
                    return kindOf(child, hook);
                case 1:
                    return leafOf(child, hook);
                default:
                    return branchOf(child, hook);
            }
        }

        void copyFrom(Hooks other) {
            pinned.copyFrom(other.pinned);
            noted.copyFrom(other.noted);
            branches.copyFrom(other.branches);
        }
    }

    /** All that undo restores. A change is made only behind its test, "may..". */
    private static final class Yard {
        int bell;
        int rakeAt = 4;
        int burnsBy = BY_PINS;
        int rakings;
        int lookedThrough;
        int failedPins;
        int dangers;
        int mostAside;
        final Leaves leaves = new Leaves();
        final Children children = new Children();
        final Hooks hooks = new Hooks();

        void copyFrom(Yard other) {
            bell = other.bell;
            rakeAt = other.rakeAt;
            burnsBy = other.burnsBy;
            rakings = other.rakings;
            lookedThrough = other.lookedThrough;
            failedPins = other.failedPins;
            dangers = other.dangers;
            mostAside = other.mostAside;
            leaves.copyFrom(other.leaves);
            children.copyFrom(other.children);
            hooks.copyFrom(other.hooks);
        }

        int addChild() {
            int child = children.lowestFree();
            children.fillPlace(child);
            return child;
        }

        int removeChild(int child) {
            int size = children.heapSize.get(child);
            int heir = children.lowestBesides(child);
            for (int place = 0; place < size; place++) {
                int leaf = children.leafOnHeap(child, place);
                children.putOnHeap(heir, leaf);
                leaves.heapOf.put(leaf, heir);
            }
            children.emptyPlace(child);
            hooks.releaseAll(child);
            return size;
        }

        boolean mayGoIn(int child) {
            return children.isHere(child) && !children.isInYard(child);
        }

        int goIn(int child) {
            children.cameInAt.put(child, bell);
            return bell;
        }

        boolean mayLieDown(int child) {
            return children.isInYard(child);
        }

        int lieDown(int child) {
            int pins = hooks.pinsOfChild(child);
            children.cameInAt.put(child, NONE);
            hooks.releaseAll(child);
            return pins;
        }

        boolean mayStrike() {
            return children.maskOfLate(bell) == 0;
        }

        int strike() {
            bell++;
            return bell;
        }

        boolean maySprout(int branch) {
            return leaves.onBranch.get(branch) == NONE && leaves.grown < LEAVES;
        }

        boolean mayWrite(int child, int hook, int branch) {
            return children.isInYard(child) && hooks.kindOf(child, hook) == Hooks.EMPTY
                    && leaves.onBranch.get(branch) != NONE;
        }

        int write(int child, int hook, int branch) {
            int leaf = leaves.onBranch.get(branch);
            hooks.write(child, hook, leaf, branch);
            return leaf;
        }

        boolean mayFasten(int child, int hook) {
            return hooks.kindOf(child, hook) == Hooks.NOTE;
        }

        int fasten(int child, int hook) {
            int leaf = hooks.leafOf(child, hook);
            if (leaves.onBranch.get(hooks.branchOf(child, hook)) == leaf) {
                hooks.fasten(child, hook);
                return 1;
            }
            hooks.release(child, hook);
            failedPins++;
            return 0;
        }

        boolean mayRelease(int child, int hook) {
            return hooks.kindOf(child, hook) != Hooks.EMPTY;
        }

        int release(int child, int hook) {
            int leaf = hooks.leafOf(child, hook);
            hooks.release(child, hook);
            return leaf;
        }

        int lookThrough(int child, int hook) {
            int leaf = hooks.leafOf(child, hook);
            if (hooks.kindOf(child, hook) == Hooks.NOTE && leaves.where.get(leaf) == Leaves.BURNT) {
                dangers++;
                return NONE;
            }
            return leaves.colours.get(leaf);
        }

        boolean mayTakeOff(int child, int branch) {
            return children.isInYard(child) && leaves.onBranch.get(branch) != NONE;
        }

        int takeOff(int child, int branch) {
            int leaf = leaves.onBranch.get(branch);
            leaves.putAside(leaf, child, bell);
            children.putOnHeap(child, leaf);
            children.tookOff.add(child, 1);
            int burnt = children.heapSize.get(child) >= rakeAt ? clear(child) : 0;
            mostAside = Math.max(mostAside, leaves.numberWhere(Leaves.ASIDE));
            return burnt;
        }

        boolean mayExchange(int child, int branch) {
            return mayTakeOff(child, branch) && leaves.grown < LEAVES;
        }

        int exchange(int child, int branch, int colour) {
            takeOff(child, branch);
            return leaves.sprout(branch, colour);
        }

        boolean mayClear(int child) {
            return children.heapSize.get(child) > 0;
        }

        /** Rakes a heap: what may not be burnt moves up, in its order. */
        int clear(int child) {
            int size = children.heapSize.get(child);
            int first = child * LEAVES;
            int stay = 0;
            for (int place = 0; place < size; place++) {
                int leaf = children.heaps.get(first + place);
                if (mayBurn(leaf, burnsBy, NONE)) {
                    leaves.burn(leaf);
                } else {
                    children.heaps.put(first + stay, leaf);
                    stay++;
                }
            }
            children.heapSize.put(child, stay);
            children.burnt.add(child, size - stay);
            children.rakings.add(child, 1);
            rakings++;
            lookedThrough += burnsBy == BY_PINS ? HOOKS * children.number() : 0;
            return size - stay;
        }

        int valueOf(int setting) {
            return setting == RAKE_AT ? rakeAt : burnsBy;
        }

        int change(int setting, int value) {
            int previous = valueOf(setting);
            if (setting == RAKE_AT) {
                rakeAt = value;
            } else {
                burnsBy = value;
            }
            return previous;
        }

        /** Whether a leaf may be burnt, as if one child (or NONE) had empty hooks. */
        boolean mayBurn(int leaf, int way, int unhooked) {
            if (way == BY_BELL) {
                return bell - leaves.asideSince.get(leaf) >= 2;
            }
            int first = Hooks.firstOf(unhooked);
            int pinsThatGo = unhooked == NONE ? 0 : hooks.pinned.number(leaf, first, first + HOOKS);
            return hooks.pinned.number(leaf, 0, Hooks.IN_ALL) == pinsThatGo;
        }

        int burnable(int child, int way, int unhooked) {
            int size = children.heapSize.get(child);
            int number = 0;
            for (int place = 0; place < size; place++) {
                number += mayBurn(children.leafOnHeap(child, place), way, unhooked) ? 1 : 0;
            }
            return number;
        }

        int burnableIfRested(int resting) {
            int number = 0;
            for (int child = 0; child < CHILDREN; child++) {
                number += burnable(child, burnsBy, resting);
            }
            return number;
        }

        /** Nobody pins then, and two bells are behind each leaf aside besides those that rang already. */
        int burnableIfAllRested() {
            int number = 0;
            for (int leaf = 0; leaf < leaves.grown && leaf < LEAVES; leaf++) {
                boolean mayBurn = burnsBy == BY_PINS || bell + 2 - leaves.asideSince.get(leaf) >= 2;
                number += leaves.where.get(leaf) == Leaves.ASIDE && mayBurn ? 1 : 0;
            }
            return number;
        }

        int bestHeap() {
            int best = NONE;
            int bestBurnt = 0;
            for (int child = 0; child < CHILDREN; child++) {
                int burnt = burnable(child, burnsBy, NONE);
                boolean isLarger = children.heapSize.get(child) > children.heapSize.get(best);
                if (burnt > bestBurnt || burnt > 0 && burnt == bestBurnt && isLarger) {
                    best = child;
                    bestBurnt = burnt;
                }
            }
            return best;
        }

        int freedBy(int child, int hook) {
            int leaf = hooks.leafOf(child, hook);
            boolean pinsAside = hooks.kindOf(child, hook) == Hooks.PIN && leaves.where.get(leaf) == Leaves.ASIDE;
            return pinsAside && hooks.pinsOn(leaf) == 1 ? 1 : 0;
        }

        int mostPinned() {
            int most = NONE;
            int mostPins = 0;
            for (int leaf = 0; leaf < leaves.grown && leaf < LEAVES; leaf++) {
                int pins = hooks.pinsOn(leaf);
                if (pins > mostPins) {
                    most = leaf;
                    mostPins = pins;
                }
            }
            return most;
        }

        int whyNotBurnt(int leaf) {
            int where = leaves.where.get(leaf);
            if (where == Leaves.BURNT) {
                return 0;
            }
            if (where == Leaves.ON_BRANCH) {
                return 1;
            }
            return mayBurn(leaf, burnsBy, NONE) ? 3 : 2;
        }

        int numberOfLeaf(int leaf, int what) {
            switch (what) {
                case 0:
                    return leaves.colours.get(leaf);
                case 1:
                    return leaves.where.get(leaf);
                case 2:
                    return leaves.lastBranch.get(leaf);
                case 3:
                    return leaves.asideSince.get(leaf);
                case 4:
                    return leaves.heapOf.get(leaf);
                case 5:
                    return hooks.maskOfHolders(leaf);
                case 6:
                    return hooks.pinsOn(leaf);
                default:
                    return hooks.notesOn(leaf);
            }
        }

        int numberOfChild(int child, int what) {
            switch (what) {
                case 0:
                    return children.isInYard(child) ? 1 : 0;
                case 1:
                    return children.cameInAt.get(child);
                case 2:
                    return hooks.pinsOfChild(child);
                case 3:
                    return hooks.notesOfChild(child);
                case 4:
                    return children.heapSize.get(child);
                case 5:
                    return children.tookOff.get(child);
                case 6:
                    return children.burnt.get(child);
                default:
                    return children.rakings.get(child);
            }
        }

        int numberOfAll(int what) {
            switch (what) {
                case 0:
                    return children.mask();
                case 1:
                    return children.number();
                case 2:
                    return children.numberInYard();
                case 3:
                    return bell;
                case 4:
                    return leaves.grown;
                case 5:
                    return leaves.numberWhere(Leaves.ON_BRANCH);
                case 6:
                    return leaves.numberWhere(Leaves.ASIDE);
                case 7:
                    return leaves.numberWhere(Leaves.BURNT);
                case 8:
                    return hooks.pins();
                case 9:
                    return hooks.notes();
                case 10:
                    return rakings;
                case 11:
                    return lookedThrough;
                case 12:
                    return failedPins;
                case 13:
                    return dangers;
                default:
                    return mostAside;
            }
        }
    }

    /** The latest saved states; made once and written over, as all calls of a run share one room. */
    private static final class SavedYards {
        private final Yard[] yards = new Yard[SAVED];
        private int next;
        private int size;

        SavedYards() {
            for (int index = 0; index < yards.length; index++) {
                yards[index] = new Yard();
            }
        }

        int number() {
            return size;
        }

        void push(Yard yard) {
            Yard place = placeAt(next);
            if (place != null) {
                place.copyFrom(yard);
                next = next + 1 < SAVED ? next + 1 : 0;
                size = Math.min(size + 1, SAVED);
            }
        }

        void popInto(Yard yard) {
            int latest = next > 0 ? next - 1 : SAVED - 1;
            Yard place = placeAt(latest);
            if (size > 0 && place != null) {
                yard.copyFrom(place);
                next = latest;
                size--;
            }
        }

        private Yard placeAt(int index) {
            return index >= 0 && index < yards.length ? yards[index] : null;
        }
    }

    /** The buffer, read as orders. */
    private static final class OrderText {
        private static final int NOTHING = 0;
        private static final int CHILD = 1;
        private static final int HOOK = 2;
        private static final int BRANCH = 3;
        private static final int COLOUR = 4;

        private final Row signs = new Row(SIGNS);
        private int length;

        int length() {
            return length;
        }

        int add(int code) {
            signs.put(length, code);
            length++;
            return length;
        }

        int empty() {
            int before = length;
            length = 0;
            return before;
        }

        int signAt(int at) {
            return at < length ? signs.get(at) : NONE;
        }

        int digitAt(int at) {
            return signAt(at) - '0';
        }

        int branchAt(int at) {
            return signAt(at) - 'a';
        }

        boolean startsPart(int at) {
            return at == 0 || signAt(at - 1) == ';';
        }

        int firstWrong() {
            int start = 0;
            for (int at = 0; at < length; at++) {
                if (!fits(start, at)) {
                    return at;
                }
                if (signAt(at) == ';') {
                    start = at + 1;
                }
            }
            return length;
        }

        boolean isComplete() {
            int start = 0;
            for (int at = 0; at < length; at++) {
                start = startsPart(at) ? at : start;
            }
            boolean ends = length > 0 && signAt(length - 1) != ';'
                    && operandAt(signAt(start), length - start) == NOTHING;
            return ends && firstWrong() == length;
        }

        private boolean fits(int start, int at) {
            if (at == start) {
                return isOrder(signAt(at));
            }
            return isOperand(signAt(at), operandAt(signAt(start), at - start));
        }

        private static boolean isOrder(int sign) {
            return sign == 'b' || operandAt(sign, 1) != NOTHING;
        }

        private static boolean isOperand(int sign, int operand) {
            switch (operand) {
                case CHILD:
                    return sign >= '0' && sign < '0' + CHILDREN;
                case HOOK:
                    return sign >= '0' && sign < '0' + HOOKS;
                case BRANCH:
                    return sign >= 'a' && sign < 'a' + BRANCHES;
                case COLOUR:
                    return sign >= '0' && sign < '0' + COLOURS;
                default:
                    return sign == ';';
            }
        }

        /** What stands in an order at a place behind its letter, which has the place 0. */
        private static int operandAt(int letter, int place) {
            switch (letter) {
                case 'e':
                case 'z':
                case 'k':
                    return operandOf(place, CHILD, NOTHING, NOTHING);
                case 'n':
                    return operandOf(place, CHILD, HOOK, BRANCH);
                case 'p':
                case 'x':
                    return operandOf(place, CHILD, HOOK, NOTHING);
                case 't':
                    return operandOf(place, CHILD, BRANCH, NOTHING);
                case 'w':
                    return operandOf(place, CHILD, BRANCH, COLOUR);
                case 'g':
                    return operandOf(place, BRANCH, COLOUR, NOTHING);
                default:
                    return NOTHING;
            }
        }

        private static int operandOf(int place, int first, int second, int third) {
            switch (place) {
                case 1:
                    return first;
                case 2:
                    return second;
                case 3:
                    return third;
                default:
                    return NOTHING;
            }
        }
    }
}
