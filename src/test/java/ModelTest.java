import java.lang.reflect.InvocationTargetException;
import java.lang.reflect.Method;
import java.util.Arrays;

/** Runs of calls, drawn from fixed seeds, on the class and on the model beside it. */
public final class ModelTest {
    private static final int RUNS = 300;
    private static final int CALLS = 512;

    /** A name, how often it is drawn, and the least and the largest of each argument as it is mostly drawn. */
    private static final String[] CALLS_BY_WEIGHT = {
        "come 3", "leave 1 0 4", "enter 14 0 4", "rest 7 0 4", "ring 12", "grow 22 0 11 0 9",
        "note 24 0 4 0 2 0 11", "pin 20 0 4 0 2", "loosen 6 0 4 0 2", "look 8 0 4 0 2", "take 16 0 4 0 11",
        "swap 16 0 4 0 11 0 9", "rake 6 0 4", "set 2 0 1 0 12", "text 10", "clearBuffer 2", "firstError 2",
        "obey 2", "keep 6", "goBack 1", "undo 2", "branch 1 0 11", "leaf 2 0 119 0 7", "child 2 0 4 0 7",
        "hook 2 0 4 0 2 0 2", "heap 2 0 4 0 4", "count 2 0 15", "setting 1 0 1", "why 2 0 119",
        "ifRaked 2 0 4 0 1", "bestRake 1", "ifLoosened 2 0 4 0 2", "late 1", "ifRested 2 0 4",
        "ifAllRested 1", "mostHeld 1", "burntShare 1", "fullness 1"};

    private static final int[] STRANGE = {-1, 2, 3, 5, 6, 8, 10, 12, 16, 20, 21, 120, 121, Integer.MIN_VALUE,
        Integer.MAX_VALUE, -2, 1 << 30, 715827883, 1431655766};

    private final Drawn random;
    private final PinnedLeaves it = new PinnedLeaves();
    private final Model model = new Model();
    private final int seed;
    private final int width;
    private int calls;
    private boolean differs;

    private ModelTest(int seed) {
        this.seed = seed;
        this.random = new Drawn(seed);
        this.width = 1 + seed % 4;
    }

    public static void main(String[] args) {
        for (int seed = 0; seed < RUNS; seed++) {
            new ModelTest(seed).run();
        }
        Due.end("ModelTest");
    }

    private void run() {
        int weights = 0;
        for (String call : CALLS_BY_WEIGHT) {
            weights += Integer.parseInt(call.split(" ")[1]);
        }
        while (calls < CALLS && !differs) {
            int drawn = random.nextInt(weights);
            for (String call : CALLS_BY_WEIGHT) {
                String[] words = call.split(" ");
                drawn -= Integer.parseInt(words[1]);
                if (drawn < 0) {
                    draw(words);
                    break;
                }
            }
        }
    }

    private void draw(String[] words) {
        if (words[0].equals("text")) {
            text();
            return;
        }
        int[] numbers = numbers(words);
        String due = answer(model, words[0], numbers);
        // A call that throws changes nothing: so most of them are drawn anew, and the runs get on.
        for (int again = 0; again < 6 && due.endsWith("Exception") && random.nextInt(6) != 0; again++) {
            numbers = numbers(words);
            due = answer(model, words[0], numbers);
        }
        compare(words[0], numbers, due);
    }

    private int[] numbers(String[] words) {
        int[] numbers = new int[(words.length - 2) / 2];
        for (int at = 0; at < numbers.length; at++) {
            int least = Integer.parseInt(words[2 + 2 * at]);
            int largest = Integer.parseInt(words[3 + 2 * at]);
            // Few branches and leaves in some runs, so that children meet on them.
            int most = largest == 11 ? 3 * width - 1 : largest == 119 ? 40 : largest;
            numbers[at] = random.nextInt(60) == 0 ? STRANGE[random.nextInt(STRANGE.length)]
                    : least + random.nextInt(most - least + 1);
        }
        return numbers;
    }

    private void text() {
        String shapes = "eC zC nCHB nCHB pCH pCH xCH tCB wCBD gBD gBD kC b b";
        StringBuilder text = new StringBuilder();
        int parts = random.nextInt(12);
        for (int part = 0; part <= parts; part++) {
            String[] all = shapes.split(" ");
            text.append(part == 0 ? "" : ";").append(part(all[random.nextInt(all.length)]));
        }
        if (random.nextInt(4) == 0) {
            text.setCharAt(random.nextInt(text.length()), "abelmxz01235;9"
                    .charAt(random.nextInt(14)));
        }
        if (random.nextInt(8) == 0) {
            text.append((char) (33 + random.nextInt(94)));
        }
        if (random.nextInt(8) != 0) {
            both("clearBuffer");
        }
        for (int at = 0; at < text.length(); at++) {
            both("append", text.charAt(at));
        }
        both("firstError");
        both("obey");
    }

    private String part(String shape) {
        return shape.replace('C', (char) ('0' + random.nextInt(random.nextInt(6) == 0 ? 5 : 2)))
                .replace('H', (char) ('0' + random.nextInt(3)))
                .replace('B', (char) ('a' + random.nextInt(3 * width)))
                .replace('D', (char) ('0' + random.nextInt(10)));
    }

    private void both(String name, int... numbers) {
        compare(name, numbers, answer(model, name, numbers));
    }

    private void compare(String name, int[] numbers, String due) {
        if (calls >= CALLS || differs) {
            return;
        }
        calls++;
        String call = "run " + seed + ", call " + calls + ": " + name + Arrays.toString(numbers);
        same(call, answer(it, name, numbers), due);
        same(call + ", then digest", String.valueOf(it.digest()), String.valueOf(model.digest()));
    }

    private void same(String call, String got, String due) {
        Due.isText(call, got, due);
        differs = differs || !got.equals(due);
    }

    private static String answer(Object object, String name, int[] numbers) {
        Class<?>[] types = new Class<?>[numbers.length];
        Object[] given = new Object[numbers.length];
        for (int at = 0; at < numbers.length; at++) {
            types[at] = int.class;
            given[at] = numbers[at];
        }
        try {
            Method method = object.getClass().getMethod(name, types);
            return String.valueOf(method.invoke(object, given));
        } catch (InvocationTargetException e) {
            return e.getCause().getClass().getName();
        } catch (ReflectiveOperationException e) {
            return "no such method";
        }
    }

    /** Numbers that follow from the seed alone: the same runs at all times and on all machines. */
    private static final class Drawn {
        private long state;

        Drawn(int seed) {
            state = seed * 2654435761L + 12345;
        }

        int nextInt(int bound) {
            state = state * 6364136223846793005L + 1442695040888963407L;
            return (int) ((state >>> 33) % bound);
        }
    }
}
