import java.util.function.Consumer;

/** The sentences on texts, undo and exceptions, and of promises 16 to 22, that name a boundary case, each with a test. */
public final class EdgesOfTextsTest {
    private static final int NONE = PinnedLeaves.NONE;

    /** What an order is made of: its letter, and the signs that may stand at each place behind it. */
    private static final String[][] ORDERS = {{"e", "01234"}, {"z", "01234"}, {"n", "01234", "012", "abcdefghijkl"},
        {"p", "01234", "012"}, {"x", "01234", "012"}, {"t", "01234", "abcdefghijkl"},
        {"w", "01234", "abcdefghijkl", "0123456789"}, {"g", "abcdefghijkl", "0123456789"}, {"k", "01234"}, {"b"}};

    /** 15 complete orders: one character more has room. */
    private static final String FIFTY_NINE = "t0a;t0a;t0a;t0a;t0a;t0a;t0a;t0a;t0a;t0a;t0a;t0a;t0a;t0a;t0a";

    public static void main(String[] args) {
        syntax();
        append();
        obey();
        undoing();
        snapshot();
        exceptions();
        Due.end("EdgesOfTextsTest");
    }

    private static void syntax() {
        String terms = "Input text";
        Due.sentence(terms, "The buffer has at most 60 characters.", EdgesOfTextsTest::sixtyCharacters);
        Due.sentence(terms, "Orders as a text are one or more parts with \";\" between them",
                EdgesOfTextsTest::oneOrMoreParts);
        Due.sentence(terms, "where C is a child, 0 to 4, H a hook, 0 to 2, B a branch, \"a\" to \"l\" (for 0 to 11), and "
                + "D a colour, 0 to 9", EdgesOfTextsTest::eachSignOfEachOrder);
        Due.sentence(terms, "\"eC\" (goes into the yard), \"zC\" (rests), \"nCHB\" (notes), \"pCH\" (pins), \"xCH\" "
                + "(loosens), \"tCB\" (takes off), \"wCBD\" (swaps), \"gBD\" (a leaf grows), \"kC\" (the child's heap is "
                + "raked), and \"b\" (the bell rings).", EdgesOfTextsTest::tenOrders);
        Due.sentence(terms, "The buffer is read from left to right", EdgesOfTextsTest::leftToRight);
        Due.sentence(terms, "a character is a syntax error if no orders as a text, of any length, begin with the "
                + "characters before it and this character.", EdgesOfTextsTest::ofAnyLength);
    }

    private static void append() {
        Due.sentence("Promise 16", "- `code`: the character code, 33 to 126", EdgesOfTextsTest::eachCode);
        Due.sentence("Promise 16", "Returns the new length of the buffer.", EdgesOfTextsTest::newLength);
        Due.sentence("Promise 16", "Throws `IllegalArgumentException` if code is not 33 to 126",
                EdgesOfTextsTest::noSuchCode);
        Due.sentence("Promise 16", "Throws `IllegalStateException` if the buffer has 60 characters",
                EdgesOfTextsTest::bufferIsFull);
        Due.sentence("Promise 17", "Clears the buffer.", EdgesOfTextsTest::clears);
        Due.sentence("Promise 17", "Returns the length that it had.", EdgesOfTextsTest::lengthItHad);
        Due.sentence("Promise 18", "Finds the first syntax error of the buffer.", EdgesOfTextsTest::firstOfSeveral);
        Due.sentence("Promise 18", "Returns the index of the first character that is a syntax error; the length of the "
                + "buffer if there is none.", EdgesOfTextsTest::indexOrLength);
    }

    private static void obey() {
        Due.sentence("Promise 19", "Does the orders in the buffer as the methods enter(), rest(), note(), pin(), "
                + "loosen(), take(), swap(), grow(), rake() and ring() do", EdgesOfTextsTest::asTheMethodsDo);
        Due.sentence("Promise 19", "one after the other", EdgesOfTextsTest::oneAfterTheOther);
        Due.sentence("Promise 19", "up to the first one that would throw an exception", EdgesOfTextsTest::upToTheFirst);
        Due.sentence("Promise 19", "and clears the buffer.", EdgesOfTextsTest::obeyClears);
        Due.sentence("Promise 19", "Undoable, as one call, also if none is done.", EdgesOfTextsTest::asOneCall);
        Due.sentence("Promise 19", "Returns how many are done.", EdgesOfTextsTest::howManyAreDone);
        Due.sentence("Promise 19", "Throws `IllegalArgumentException` if the buffer is not complete orders as a text",
                EdgesOfTextsTest::notComplete);
        Due.sentence("Promise 19", "(an empty one is not)", EdgesOfTextsTest::emptyIsNotComplete);
    }

    private static void undoing() {
        Due.sentence("Undo", "Each method that is marked \"undoable\" and does not throw an exception saves the state "
                + "from before it", EdgesOfTextsTest::savesTheStateBefore);
        Due.sentence("Undo", "(also if it changes nothing)", EdgesOfTextsTest::savesThoughNothingChanges);
        Due.sentence("Undo", "all, also what is counted so far", EdgesOfTextsTest::allIsSaved);
        Due.sentence("Undo", "but the buffer, the snapshot and the saved states.", EdgesOfTextsTest::butNotThese);
        Due.sentence("Undo", "At most 6 states are saved; the oldest one is dropped first.",
                EdgesOfTextsTest::sixAreSaved);
        Due.sentence("Promise 22", "Restores the latest saved state, and drops it.", EdgesOfTextsTest::latestFirst);
        Due.sentence("Promise 22", "Returns how many saved states are left.", EdgesOfTextsTest::howManyAreLeft);
        Due.sentence("Promise 22", "Throws `IllegalStateException` if there is none", EdgesOfTextsTest::noneToUndo);
    }

    private static void snapshot() {
        Due.sentence("Promise 20", "Takes a snapshot of the state (of all that undo() would restore), in place of the "
                + "one that was.", EdgesOfTextsTest::inPlaceOfTheOne);
        Due.sentence("Promise 20", "Returns the number of the bell.", EdgesOfTextsTest::keepTellsTheBell);
        Due.sentence("Promise 21", "Goes back to the snapshot, which stays.", EdgesOfTextsTest::snapshotStays);
        Due.sentence("Promise 21", "Undoable.", EdgesOfTextsTest::goBackUndone);
        Due.sentence("Promise 21", "Returns the number of the bell then.", EdgesOfTextsTest::goBackTellsTheBell);
        Due.sentence("Promise 21", "Throws `IllegalStateException` if there is no snapshot",
                EdgesOfTextsTest::noSnapshot);
    }

    private static void exceptions() {
        Due.sentence("Exceptions", "A call that throws an exception changes nothing.",
                EdgesOfTextsTest::refusedCallsChangeNothing);
        Due.sentence("Exceptions", "If several exceptions apply, the one that is named first in the throws clause is "
                + "thrown.", EdgesOfTextsTest::firstNamedIsThrown);
        Due.sentence("Exceptions", "\"There is no such child\" also means that there is none at this place.",
                EdgesOfTextsTest::noneAtThisPlace);
    }

    private static PinnedLeaves with(String text) {
        PinnedLeaves x = new PinnedLeaves();
        Due.write(x, text);
        return x;
    }

    /** Whether obey() takes the buffer as complete orders. */
    private static int isComplete(PinnedLeaves x) {
        try {
            x.obey();
            return 1;
        } catch (IllegalArgumentException e) {
            return 0;
        }
    }

    private static void firstError(String text, int due) {
        Due.is("firstError of " + text, with(text).firstError(), due);
    }

    // ---- the syntax

    private static void sixtyCharacters() {
        PinnedLeaves x = with(FIFTY_NINE);
        Due.is("the last one", x.append(';'), 60);
        Due.state(x, "one more", () -> x.append('b'));
        Due.is("its length", x.clearBuffer(), 60);
    }

    private static void oneOrMoreParts() {
        String[] right = {"b", "b;b", "b;b;b", FIFTY_NINE, "b;" + FIFTY_NINE.substring(4)};
        for (String text : right) {
            Due.is(text, isComplete(with(text)), 1);
        }
        String[] wrong = {"", ";", "b;", ";b", "b;;b", "bb", "b;b;", ";;", "b,b", "b;" + FIFTY_NINE.substring(3)};
        for (String text : wrong) {
            Due.is(text, isComplete(with(text)), 0);
        }
    }

    /** Each place of each order with each sign, and the order before it and behind it as a whole. */
    private static void eachSignOfEachOrder() {
        for (String[] order : ORDERS) {
            for (int place = 1; place < order.length; place++) {
                for (char sign = 33; sign <= 126; sign++) {
                    int right = order[place].indexOf(sign) >= 0 ? 1 : 0;
                    String before = beginning(order, place) + sign;
                    String whole = before + rest(order, place + 1);
                    PinnedLeaves x = with(whole);
                    Due.is("firstError of " + whole, x.firstError(), right == 1 ? whole.length() : place);
                    Due.is("obey() of " + whole, isComplete(x), right);
                    firstError("e0;" + before, 3 + place + right);
                }
            }
        }
    }

    private static String beginning(String[] order, int places) {
        StringBuilder text = new StringBuilder(order[0]);
        for (int place = 1; place < places; place++) {
            text.append(order[place].charAt(order[place].length() - 1));
        }
        return text.toString();
    }

    private static String rest(String[] order, int from) {
        StringBuilder text = new StringBuilder();
        for (int place = from; place < order.length; place++) {
            text.append(order[place].charAt(0));
        }
        return text.toString();
    }

    private static void tenOrders() {
        for (String[] order : ORDERS) {
            String whole = beginning(order, order.length);
            Due.is(whole, isComplete(with(whole)), 1);
            for (int length = 1; length < whole.length(); length++) {
                String part = whole.substring(0, length);
                firstError(part, length);
                Due.is(part, isComplete(with(part)), 0);
            }
            for (char sign = 33; sign <= 126; sign++) {
                firstError(whole + sign, sign == ';' ? whole.length() + 1 : whole.length());
            }
        }
        for (char sign = 33; sign <= 126; sign++) {
            boolean isOrder = "eznpxtwgkb".indexOf(sign) >= 0;
            firstError(String.valueOf(sign), isOrder ? 1 : 0);
            firstError("b;" + sign, isOrder ? 3 : 2);
        }
    }

    private static void leftToRight() {
        firstError("e5;z5", 1);
        firstError("b;h;b", 2);
        firstError("n0a", 2);
        firstError("?e0", 0);
        firstError("e0e1;e2", 2);
        Due.is("a later order does not mend it", isComplete(with("e5;b")), 0);
    }

    private static void ofAnyLength() {
        firstError("", 0);
        firstError(FIFTY_NINE + ";", 60);
        String sixty = "b;" + FIFTY_NINE.substring(0, 55) + ";w0";
        Due.is("its length", sixty.length(), 60);
        firstError(sixty, 60);
        Due.is("orders that it begins are longer than 60", isComplete(with(sixty)), 0);
        firstError(FIFTY_NINE + "b", 59);
        firstError("b;" + FIFTY_NINE.substring(0, 55) + ";w5", 59);
    }

    // ---- promises 16 to 18

    private static void eachCode() {
        for (int code = 33; code <= 126; code++) {
            PinnedLeaves x = new PinnedLeaves();
            Due.is("append(" + code + ")", x.append(code), 1);
        }
    }

    private static void newLength() {
        PinnedLeaves x = new PinnedLeaves();
        for (int length = 1; length <= 60; length++) {
            Due.is("append", x.append('b'), length);
        }
        x.clearBuffer();
        Due.is("behind clearBuffer", x.append('b'), 1);
        x.obey();
        Due.is("behind obey", x.append('b'), 1);
    }

    private static void noSuchCode() {
        PinnedLeaves x = new PinnedLeaves();
        Due.argumentOutside(x, "append", 33, 126, code -> x.append(code));
        Due.argument(x, "append(354), 98 in a byte", () -> x.append(98 + 256));
        Due.argument(x, "append(65634), 98 in a char", () -> x.append(98 + 65536));
        Due.write(x, FIFTY_NINE + ";");
        Due.argumentOutside(x, "append to a full buffer", 33, 126, code -> x.append(code));
    }

    private static void bufferIsFull() {
        PinnedLeaves x = with(FIFTY_NINE);
        x.append(';');
        Due.state(x, "60 characters", () -> x.append(33));
        Due.state(x, "60 characters", () -> x.append(126));
        x.clearBuffer();
        Due.is("it is not full", x.append(126), 1);
    }

    private static void clears() {
        PinnedLeaves x = with("e5");
        Due.is("its error", x.firstError(), 1);
        x.clearBuffer();
        Due.is("no error", x.firstError(), 0);
        Due.is("what is written then stands at the beginning", x.append('b'), 1);
        Due.is("not undoable", x.count(15), 0);
        Due.is("obey", x.obey(), 1);
    }

    private static void lengthItHad() {
        PinnedLeaves x = new PinnedLeaves();
        Due.is("empty", x.clearBuffer(), 0);
        x.append('?');
        Due.is("one", x.clearBuffer(), 1);
        Due.is("cleared", x.clearBuffer(), 0);
        Due.write(x, FIFTY_NINE + "!");
        Due.is("full", x.clearBuffer(), 60);
    }

    private static void firstOfSeveral() {
        firstError("b!!", 1);
        firstError("e0;;;", 3);
        firstError("e0;e5;e6", 4);
        firstError("g0;z", 1);
    }

    private static void indexOrLength() {
        firstError("!", 0);
        firstError(FIFTY_NINE.substring(0, 58) + "m", 58);
        firstError(FIFTY_NINE + ".", 59);
        firstError("b", 1);
        firstError("w0l", 3);
        firstError("w0l9;", 5);
        firstError(FIFTY_NINE, 59);
        PinnedLeaves x = with("zz");
        Due.is("the buffer stays", x.firstError(), 1);
        Due.is("the buffer stays", x.firstError(), 1);
        Due.is("the buffer stays", x.clearBuffer(), 2);
    }

    // ---- promise 19

    private static void same(String what, PinnedLeaves x, PinnedLeaves y) {
        Due.is(what, x.digest(), y.digest());
    }

    /** An object with 6 saved states, so that the two ways to do something save alike. */
    private static PinnedLeaves begun() {
        PinnedLeaves x = new PinnedLeaves();
        x.come();
        x.come();
        x.come();
        x.set(0, 2);
        Due.orders(x, "ga1;gl2;gc3;gd4;e4;n40c;n42a;p40");
        x.ring();
        x.set(0, 3);
        return x;
    }

    private static void alike(String orders, Consumer<PinnedLeaves> calls) {
        PinnedLeaves x = begun();
        calls.accept(x);
        PinnedLeaves y = begun();
        Due.orders(y, orders);
        same(orders, y, x);
    }

    private static void asTheMethodsDo() {
        alike("e0", x -> x.enter(0));
        alike("z4", x -> x.rest(4));
        alike("n41l", x -> x.note(4, 1, 11));
        alike("p42", x -> x.pin(4, 2));
        alike("x40", x -> x.loosen(4, 0));
        alike("t4a", x -> x.take(4, 0));
        alike("w4l9", x -> x.swap(4, 11, 9));
        alike("gk0", x -> x.grow(10, 0));
        alike("t4c;k4", x -> {
            x.take(4, 2);
            x.rake(4);
        });
        alike("z4;b", x -> {
            x.rest(4);
            x.ring();
        });
    }

    private static void oneAfterTheOther() {
        PinnedLeaves x = with("e0;ga1;n00a;p00;t0a;x00;k0;z0;b;e0");
        Due.is("each needs the one before it", x.obey(), 10);
        Due.is("the leaf is burnt", x.leaf(0, 1), 2);
        Due.is("the bell of the last coming in", x.child(0, 1), 1);
        Due.is("most aside, behind an order", x.count(14), 1);
        PinnedLeaves y = with("e0;ga1;gb2;gc3;t0a;t0b;t0c;k0");
        Due.is("done", y.obey(), 8);
        Due.is("most aside, behind an order, not behind the call", y.count(14), 3);
        Due.is("aside behind the call", y.count(6), 0);
    }

    private static void upToTheFirst() {
        String[] refused = {"e4", "z0", "n40a", "n10b", "p40", "x40", "t1b", "t0a", "w1b0", "w0a0", "ga0", "k0", "k1",
            "b", "e1", "n10a", "p11", "x11", "z2", "t2a"};
        for (String order : refused) {
            PinnedLeaves x = new PinnedLeaves();
            Due.orders(x, "ga1;e1;n10a;b");
            long before = x.digest();
            Due.write(x, order);
            x.append(';');
            x.append('g');
            x.append('k');
            x.append('7');
            Due.is("done of " + order + ";gk7", x.obey(), 0);
            Due.is("the order behind it is not done", x.branch(10), NONE);
            x.undo();
            Due.is("nothing is changed by " + order, x.digest(), before);
        }
    }

    private static void obeyClears() {
        PinnedLeaves x = with("b;b");
        x.obey();
        Due.is("all done", x.clearBuffer(), 0);
        Due.write(x, "b;z0;b");
        x.obey();
        Due.is("some done", x.clearBuffer(), 0);
        Due.write(x, "z0");
        x.obey();
        Due.is("none done", x.clearBuffer(), 0);
        Due.write(x, "z");
        Due.argument(x, "refused", () -> x.obey());
        Due.is("refused, it is not cleared", x.clearBuffer(), 1);
    }

    private static void asOneCall() {
        PinnedLeaves x = new PinnedLeaves();
        long before = x.digest();
        Due.orders(x, "ga1;e0;n00a;b");
        Due.is("saved states", x.count(15), 1);
        Due.is("undo", x.undo(), 0);
        Due.is("all is as it was", x.digest(), before);
        Due.write(x, "z0;b");
        Due.is("none is done", x.obey(), 0);
        Due.is("saved states", x.count(15), 1);
        Due.is("undo", x.undo(), 0);
        Due.is("all is as it was", x.digest(), before);
    }

    private static void howManyAreDone() {
        String[] texts = {"z0", "b", "e0;e0", "b;b", "ga0;gb0;gc0;ga0;gd0",
            "b;b;b;b;b;b;b;b;b;b;b;b;b;b;b;b;b;b;b;b;b;b;b;b;b;b;b;b;b;b"};
        int[] done = {0, 1, 1, 2, 3, 30};
        for (int run = 0; run < texts.length; run++) {
            Due.is(texts[run], with(texts[run]).obey(), done[run]);
        }
        PinnedLeaves x = new PinnedLeaves();
        Due.orders(x, "ga1;e0;n00a;t0a");
        Due.write(x, "p00;x00");
        Due.is("a pin that fails is done, then the hook is empty", x.obey(), 1);
    }

    private static void notComplete() {
        String[] wrong = {"e", "n00", "g", "ga", "w0a", "t", "p0", "b;e", "b;", "e5", "b;?", "e0;n0"};
        for (String text : wrong) {
            PinnedLeaves x = with(text);
            Due.argument(x, text, () -> x.obey());
            Due.is("the buffer stays", x.clearBuffer(), text.length());
            Due.is("the bell does not ring", x.count(3), 0);
            Due.is("nothing is saved", x.count(15), 0);
        }
        Due.is("complete, though nothing can be done", isComplete(with("k4")), 1);
    }

    private static void emptyIsNotComplete() {
        PinnedLeaves x = new PinnedLeaves();
        Due.argument(x, "as at first", () -> x.obey());
        Due.orders(x, "b");
        Due.argument(x, "behind obey", () -> x.obey());
        Due.write(x, "b");
        x.clearBuffer();
        Due.argument(x, "behind clearBuffer", () -> x.obey());
        Due.is("saved states", x.count(15), 1);
    }

    // ---- undo

    private static void savesTheStateBefore() {
        PinnedLeaves x = new PinnedLeaves();
        Due.undoable(x, "come", () -> x.come());
        Due.undoable(x, "leave", () -> x.leave(1));
        Due.undoable(x, "enter", () -> x.enter(1));
        Due.undoable(x, "ring", () -> x.ring());
        Due.undoable(x, "grow", () -> x.grow(3, 3));
        Due.orders(x, "ga1;gb2;e0;e1;n00a;n01b;p01;t1b");
        Due.undoable(x, "rest", () -> x.rest(0));
        Due.undoable(x, "note", () -> x.note(0, 2, 0));
        Due.undoable(x, "pin", () -> x.pin(0, 0));
        Due.undoable(x, "loosen", () -> x.loosen(0, 1));
        Due.undoable(x, "look", () -> x.look(0, 1));
        Due.undoable(x, "take", () -> x.take(0, 0));
        Due.undoable(x, "swap", () -> x.swap(0, 0, 5));
        Due.undoable(x, "rake", () -> x.rake(1));
        Due.undoable(x, "set", () -> x.set(0, 1));
        x.keep();
        x.ring();
        Due.undoable(x, "goBack", () -> x.goBack());
        int saved = x.count(15);
        Due.state(x, "it throws", () -> x.rake(0));
        Due.is("a call that throws saves nothing", x.count(15), saved);
        x.append('b');
        x.keep();
        x.clearBuffer();
        Due.is("others save nothing", x.count(15), saved);
    }

    private static void savesThoughNothingChanges() {
        PinnedLeaves x = new PinnedLeaves();
        Due.orders(x, "ga1;e0;n00a");
        Due.undoable(x, "set of what it is", () -> x.set(1, 0));
        Due.undoable(x, "look", () -> x.look(0, 0));
        x.keep();
        Due.undoable(x, "goBack to what is", () -> x.goBack());
        Due.write(x, "e0");
        x.obey();
        Due.is("obey of no order", x.count(15), 2);
    }

    /** Each number that is told anywhere differs between the two states. */
    private static PinnedLeaves rich() {
        PinnedLeaves x = new PinnedLeaves();
        Due.orders(x, "ga1;gb2;gc3;gd4;ge5;e0;e1;n00a;n01b;n02c;p02;n10d");
        Due.orders(x, "t1a;k1;t1b;t0c;b");
        x.look(0, 0);
        x.pin(0, 1);
        return x;
    }

    private static void allIsSaved() {
        PinnedLeaves x = rich();
        int[] before = new int[16];
        for (int what = 0; what < 16; what++) {
            before[what] = x.count(what);
        }
        long digest = x.digest();
        Due.orders(x, "x02;k0;k1;z0;z1;b;b;e0;e1;gl9;n00l;n01d;p01;t0d;w0e3;t0l;p00");
        Due.is("all the counts are others", x.count(12) > before[12] && x.count(10) > before[10]
                && x.count(11) > before[11] && x.count(14) > before[14] ? 1 : 0, 1);
        x.undo();
        for (int what = 0; what < 16; what++) {
            Due.is("count(" + what + ")", x.count(what), before[what]);
        }
        Due.is("digest", x.digest(), digest);
        x.look(0, 0);
        x.undo();
        Due.is("dangers", x.count(13), before[13]);
        PinnedLeaves y = new PinnedLeaves();
        y.grow(0, 5);
        y.keep();
        y.undo();
        y.grow(1, 7);
        y.goBack();
        y.undo();
        Due.is("the colour of a leaf whose number was given twice", y.leaf(0, 0), 7);
        Due.is("its branch", y.leaf(0, 2), 1);
    }

    private static void butNotThese() {
        PinnedLeaves x = new PinnedLeaves();
        Due.write(x, "b");
        x.ring();
        x.append(';');
        x.keep();
        x.ring();
        x.append('b');
        x.undo();
        x.undo();
        Due.is("the bell", x.count(3), 0);
        Due.is("the buffer stays", x.firstError(), 3);
        Due.is("the snapshot stays, though it was taken later", x.goBack(), 1);
        Due.is("the buffer stays at goBack", x.clearBuffer(), 3);
        Due.is("saved states are not saved", x.count(15), 1);
        x.keep();
        x.ring();
        x.ring();
        x.goBack();
        Due.is("saved states are not in the snapshot", x.count(15), 4);
    }

    private static void sixAreSaved() {
        PinnedLeaves x = new PinnedLeaves();
        for (int bell = 1; bell <= 15; bell++) {
            x.ring();
            Due.is("saved states", x.count(15), Math.min(bell, 6));
        }
        for (int bell = 14; bell >= 9; bell--) {
            x.undo();
            Due.is("the bell", x.count(3), bell);
        }
        Due.state(x, "older ones are dropped", () -> x.undo());
        for (int bell = 10; bell <= 16; bell++) {
            x.ring();
        }
        for (int bell = 15; bell >= 10; bell--) {
            x.undo();
            Due.is("the bell", x.count(3), bell);
        }
        Due.state(x, "the oldest one is dropped", () -> x.undo());
    }

    private static void latestFirst() {
        PinnedLeaves x = new PinnedLeaves();
        x.ring();
        x.grow(0, 1);
        x.come();
        x.undo();
        Due.is("come is undone", x.count(1), 2);
        Due.is("grow is not", x.count(4), 1);
        x.set(0, 7);
        x.undo();
        Due.is("set is undone", x.setting(0), 4);
        x.undo();
        Due.is("grow is undone", x.count(4), 0);
        Due.is("ring is not", x.count(3), 1);
        x.undo();
        Due.is("ring is undone", x.count(3), 0);
    }

    private static void howManyAreLeft() {
        PinnedLeaves x = new PinnedLeaves();
        x.ring();
        Due.is("one was saved", x.undo(), 0);
        for (int call = 0; call < 8; call++) {
            x.ring();
        }
        for (int left = 5; left >= 0; left--) {
            Due.is("undo", x.undo(), left);
            Due.is("count(15)", x.count(15), left);
        }
    }

    private static void noneToUndo() {
        PinnedLeaves x = new PinnedLeaves();
        Due.state(x, "as at first", () -> x.undo());
        x.keep();
        x.append('b');
        Due.state(x, "these save none", () -> x.undo());
        x.ring();
        x.undo();
        Due.state(x, "it was dropped", () -> x.undo());
    }

    // ---- the snapshot

    private static void inPlaceOfTheOne() {
        PinnedLeaves x = rich();
        x.keep();
        x.look(0, 0);
        x.set(0, 9);
        x.keep();
        int[] counts = new int[15];
        for (int what = 0; what < 15; what++) {
            counts[what] = x.count(what);
        }
        Due.orders(x, "x02;k0;k1;z0;z1;b;b;e0;e1;gl9;n00l;n01d;p01;t0d;w0e3;t0l;p00");
        x.set(0, 2);
        x.set(1, 1);
        x.come();
        x.goBack();
        for (int what = 0; what < 15; what++) {
            Due.is("count(" + what + ")", x.count(what), counts[what]);
        }
        Due.is("setting 0, of the later one", x.setting(0), 9);
        Due.is("setting 1", x.setting(1), 0);
        Due.is("a pin", x.hook(0, 2, 1), 2);
        Due.is("a note", x.hook(1, 0, 2), 3);
        Due.is("a heap", x.heap(1, 0), 1);
    }

    private static void keepTellsTheBell() {
        PinnedLeaves x = new PinnedLeaves();
        Due.is("at first", x.keep(), 0);
        x.ring();
        x.ring();
        Due.is("now", x.keep(), 2);
        Due.is("not undoable", x.count(15), 2);
    }

    private static void snapshotStays() {
        PinnedLeaves x = new PinnedLeaves();
        x.grow(0, 1);
        x.keep();
        for (int again = 0; again < 3; again++) {
            x.grow(1, 2);
            x.set(0, 1 + again);
            x.goBack();
            Due.is("leaves", x.count(4), 1);
            Due.is("setting 0", x.setting(0), 4);
        }
        x.undo();
        x.undo();
        Due.is("also behind undo", x.goBack(), 0);
        Due.is("leaves", x.count(4), 1);
        PinnedLeaves y = new PinnedLeaves();
        y.grow(0, 5);
        y.keep();
        y.undo();
        y.grow(1, 7);
        y.goBack();
        Due.is("the colour of a leaf whose number was given twice", y.leaf(0, 0), 5);
        Due.is("its branch", y.leaf(0, 2), 0);
    }

    private static void goBackUndone() {
        PinnedLeaves x = rich();
        x.keep();
        Due.orders(x, "z0;z1;b");
        Due.undoable(x, "goBack", () -> x.goBack());
        Due.is("the bell", x.count(3), 2);
    }

    private static void goBackTellsTheBell() {
        PinnedLeaves x = new PinnedLeaves();
        x.ring();
        x.keep();
        x.ring();
        Due.is("that of the snapshot", x.goBack(), 1);
        Due.is("it is the bell", x.count(3), 1);
    }

    private static void noSnapshot() {
        PinnedLeaves x = new PinnedLeaves();
        Due.state(x, "as at first", () -> x.goBack());
        x.ring();
        Due.state(x, "a saved state is none", () -> x.goBack());
        x.keep();
        x.undo();
        Due.is("undo takes none away", x.goBack(), 1);
    }

    // ---- exceptions

    private static void refusedCallsChangeNothing() {
        PinnedLeaves x = rich();
        PinnedLeaves y = rich();
        for (PinnedLeaves each : new PinnedLeaves[] {x, y}) {
            each.keep();
            Due.write(each, "e0;e");
        }
        Due.state(x, "leave", () -> onlyChild().leave(1));
        Due.state(x, "enter", () -> x.enter(0));
        Due.state(x, "ring", () -> x.ring());
        Due.state(x, "grow", () -> x.grow(3, 0));
        Due.state(x, "note", () -> x.note(0, 0, 4));
        Due.state(x, "pin", () -> x.pin(0, 2));
        Due.state(x, "loosen", () -> x.loosen(0, 1));
        Due.state(x, "look", () -> x.look(0, 1));
        Due.state(x, "take", () -> x.take(0, 0));
        Due.state(x, "swap", () -> x.swap(0, 0, 0));
        Due.argument(x, "set", () -> x.set(0, 0));
        Due.argument(x, "append", () -> x.append(32));
        Due.argument(x, "obey", () -> x.obey());
        Due.argument(x, "leaf", () -> x.leaf(0, 8));
        Due.index(x, "rake", () -> x.rake(2));
        same("all looks", x, y);
        for (int saved = x.count(15); saved > 0; saved--) {
            x.undo();
            y.undo();
            same("a saved state", x, y);
        }
        x.goBack();
        y.goBack();
        same("the snapshot", x, y);
    }

    private static PinnedLeaves onlyChild() {
        PinnedLeaves x = new PinnedLeaves();
        x.leave(0);
        return x;
    }

    private static void firstNamedIsThrown() {
        PinnedLeaves x = new PinnedLeaves();
        x.leave(0);
        Due.index(x, "leave: no such child, only one child", () -> x.leave(0));
        Due.index(x, "grow: no branch, no colour", () -> x.grow(12, 10));
        x.grow(0, 1);
        Due.argument(x, "grow: no colour, there is a leaf", () -> x.grow(0, 10));
        Due.index(x, "note: no hook, it rests", () -> x.note(1, 3, 0));
        Due.index(x, "note: no branch, it rests", () -> x.note(1, 0, 12));
        Due.index(x, "pin: no hook, no note", () -> x.pin(1, 3));
        Due.index(x, "loosen: no hook, empty", () -> x.loosen(1, -1));
        Due.index(x, "look: no child, empty", () -> x.look(0, 0));
        Due.index(x, "take: no branch, it rests", () -> x.take(1, 12));
        Due.index(x, "swap: no branch, no colour, it rests", () -> x.swap(1, -1, -1));
        Due.argument(x, "swap: no colour, it rests", () -> x.swap(1, 0, 10));
        Due.argument(x, "swap: no colour, no leaf", () -> x.swap(1, 1, -1));
        Due.index(x, "rake: no child, no heap", () -> x.rake(0));
        Due.index(x, "set: no setting, no value", () -> x.set(2, 21));
        Due.index(x, "leaf: no leaf, no what", () -> x.leaf(1, 8));
        Due.index(x, "child: no child, no what", () -> x.child(0, 8));
        Due.index(x, "hook: no child, no what", () -> x.hook(0, 0, 3));
        Due.index(x, "hook: no hook, no what", () -> x.hook(1, 3, 3));
        Due.index(x, "heap: no child, no place", () -> x.heap(0, -1));
        Due.index(x, "ifRaked: no child, no setting", () -> x.ifRaked(0, 2));
        Due.write(x, FIFTY_NINE + ";");
        Due.argument(x, "append: no code, full", () -> x.append(127));
    }

    private static void noneAtThisPlace() {
        PinnedLeaves x = new PinnedLeaves();
        Due.orders(x, "ga1;gb2;e0;e1;n00a;p00;t0a;n01b");
        x.come();
        x.leave(0);
        for (int place : new int[] {0, 3, 4}) {
            Due.index(x, "leave", () -> x.leave(place));
            Due.index(x, "enter", () -> x.enter(place));
            Due.index(x, "rest", () -> x.rest(place));
            Due.index(x, "note", () -> x.note(place, 2, 1));
            Due.index(x, "pin", () -> x.pin(place, 1));
            Due.index(x, "loosen", () -> x.loosen(place, 0));
            Due.index(x, "look", () -> x.look(place, 0));
            Due.index(x, "take", () -> x.take(place, 1));
            Due.index(x, "swap", () -> x.swap(place, 1, 0));
            Due.index(x, "rake", () -> x.rake(place));
            Due.index(x, "child", () -> x.child(place, 0));
            Due.index(x, "hook", () -> x.hook(place, 0, 0));
            Due.index(x, "heap", () -> x.heap(place, 0));
            Due.index(x, "ifRaked", () -> x.ifRaked(place, 0));
            Due.index(x, "ifLoosened", () -> x.ifLoosened(place, 0));
            Due.index(x, "ifRested", () -> x.ifRested(place));
        }
        x.come();
        Due.is("who came is there", x.child(0, 0), 0);
    }
}
