import java.lang.reflect.InvocationTargetException;
import java.lang.reflect.Method;
import java.util.Arrays;
import java.util.Map;
import java.util.Random;
import java.util.TreeMap;

/** Runs of random calls, each answer held against the model's; the seeds are fixed. */
public final class RandomRunsTest {
    private static final int RUNS = 1200;
    // What an object answers later is free.
    private static final int MOST_CALLS = 512;
    private static final String[] CHANGES = {"query", "query", "query", "query", "insert", "insert", "delete", "mergeAll",
        "set", "sort", "crack", "drop", "undo"};
    private static final int[] COUNTS = {12, 4, 6, 9, 5};

    private final Random random;
    private final Map<String, Method> calls = new TreeMap<>();
    private final Map<String, Method> modelCalls = new TreeMap<>();
    private final CrackedColumn column = new CrackedColumn();
    private final Model model = new Model();
    // Keys from a small range meet the bounds more often.
    private final int keys;
    private final StringBuilder told = new StringBuilder();
    private boolean wrong = false;
    private int made = 0;

    private RandomRunsTest(int seed) {
        random = new Random(seed);
        keys = new int[] {10, 60, 1000, 10000}[seed % 4];
        for (Method method : CrackedColumn.class.getDeclaredMethods()) {
            if (java.lang.reflect.Modifier.isPublic(method.getModifiers())) {
                calls.put(method.getName(), method);
            }
        }
        for (Method method : Model.class.getDeclaredMethods()) {
            if (calls.containsKey(method.getName())) {
                method.setAccessible(true);
                modelCalls.put(method.getName(), method);
            }
        }
    }

    public static void main(String[] args) throws IllegalAccessException {
        for (int seed = 0; seed < RUNS; seed++) {
            new RandomRunsTest(seed).run(seed);
        }
        Checks.finish();
    }

    private void run(int seed) throws IllegalAccessException {
        String[] names = calls.keySet().toArray(new String[0]);
        int looked = 60 + random.nextInt(400);
        for (int i = 0; made < looked && !wrong; i++) {
            int kind = random.nextInt(100);
            if (i == 0 && seed % 8 != 7 || kind < 2) {
                loadText();
            } else if (kind < 55) {
                randomCall(CHANGES[random.nextInt(CHANGES.length)]);
            } else {
                randomCall(names[random.nextInt(names.length)]);
            }
        }
        lookAtAll();
        if (wrong) {
            Checks.tell("run of seed " + seed + ":\n" + told);
        }
    }

    private int call(String name, int... args) throws IllegalAccessException {
        if (made >= MOST_CALLS) {
            return -1;
        }
        made++;
        Object[] objects = Arrays.stream(args).boxed().toArray();
        Object got = answer(calls.get(name), column, objects);
        Object due = answer(modelCalls.get(name), model, objects);
        if (!got.equals(due) && !wrong) {
            wrong = true;
            told.append(name).append(Arrays.toString(args)).append(" answered ").append(got);
            told.append(", due is ").append(due).append('\n');
        }
        if (!wrong) {
            told.append(name).append(Arrays.toString(args)).append(" -> ").append(got).append('\n');
        }
        return due instanceof Integer ? (Integer) due : -1;
    }

    private static Object answer(Method method, Object object, Object[] args) throws IllegalAccessException {
        try {
            return method.invoke(object, args);
        } catch (InvocationTargetException e) {
            return e.getCause().getClass().getName();
        }
    }

    /** As much of it as the last calls tell. */
    private void lookAtAll() throws IllegalAccessException {
        int end = told.length();
        for (int what = 0; what <= 11; what++) {
            call("count", what);
        }
        for (int place = 0; place <= model.count(2); place++) {
            call("entry", place);
        }
        for (int place = 0; place <= model.count(3); place++) {
            call("pending", place);
        }
        for (int what = 0; what <= 8; what++) {
            call("answer", what);
        }
        String[] tables = {"piece", "asked", "row"};
        int[] sizes = {model.count(4), model.count(11), model.count(0)};
        int[] whats = {5, 4, 3};
        for (int t = 0; t < tables.length; t++) {
            for (int i = 0; i < sizes[t]; i++) {
                for (int what = 0; what <= whats[t]; what++) {
                    call(tables[t], i, what);
                }
            }
        }
        if (!wrong) {
            told.setLength(end);
        }
    }

    private void randomCall(String name) throws IllegalAccessException {
        boolean wild = random.nextInt(25) == 0;
        int[] args = new int[calls.get(name).getParameterCount()];
        for (int i = 0; i < args.length; i++) {
            args[i] = wild ? wildNumber() : random.nextInt(14) - 1;
        }
        if (!wild) {
            choose(name, args);
        }
        call(name, args);
    }

    private int wildNumber() {
        int[] numbers = {-1, 0, 1, 100, 120, 9999, 10000, 10001, Integer.MIN_VALUE, Integer.MAX_VALUE};
        return random.nextInt(4) == 0 ? random.nextInt() : numbers[random.nextInt(numbers.length)];
    }

    private void choose(String name, int[] args) {
        switch (name) {
            case "query": case "costOf": case "scan": case "mean": case "nearest":
                chooseSpan(args);
                break;
            case "insert":
                args[0] = random.nextInt(keys);
                args[1] = random.nextInt(199) - 99;
                break;
            case "crack": case "pieceOf":
                args[0] = random.nextInt(Math.min(keys + 2, 10001));
                break;
            case "delete": case "row":
                args[0] = random.nextInt(model.count(0) + 1);
                break;
            case "entry": case "ordered":
                args[0] = random.nextInt(model.count(2) + 1);
                break;
            case "piece": case "sort": case "drop":
                args[0] = random.nextInt(model.count(4) + 1);
                break;
            case "set":
                args[0] = random.nextInt(4);
                args[1] = 1 + random.nextInt(new int[] {6, 40, 40, 10}[args[0]]);
                break;
            case "writtenByte":
                args[0] = random.nextInt(60);
                break;
            case "asked":
                args[0] = random.nextInt(model.count(11) + 1);
                args[1] = random.nextInt(5);
                break;
            default:
                break;
        }
        if (name.equals("scan")) {
            args[2] = random.nextInt(4);
        }
    }

    private void chooseSpan(int[] args) {
        args[0] = random.nextInt(keys);
        args[1] = random.nextInt(12) == 0 ? 10000 : args[0] + 1 + random.nextInt(keys - args[0]);
        if (random.nextInt(3) == 0 && model.count(4) > 1) {
            // A span of pieces that are there makes them hot.
            int first = random.nextInt(model.count(4) - 1);
            int end = first + 1 + random.nextInt(model.count(4) - 1 - first);
            args[0] = model.piece(first, 0);
            args[1] = model.piece(end, 0);
        }
    }

    private void loadText() throws IllegalAccessException {
        String text = text();
        for (int from = 0; from < text.length(); from += 20) {
            int[] words = new int[5];
            for (int i = 0; i < 20; i++) {
                int value = from + i < text.length() ? text.charAt(from + i) : 32 + random.nextInt(90);
                words[i / 4] = words[i / 4] << 8 | value;
            }
            call("append", words);
        }
        call("load", random.nextInt(10) == 0 ? random.nextInt(text.length() + 2) : text.length());
        call("errorPosition");
    }

    private String text() {
        StringBuilder text = new StringBuilder();
        int statements = random.nextInt(6) == 0 ? 125 : random.nextInt(70);
        for (int i = 0; i < statements && text.length() < 860; i++) {
            int kind = random.nextInt(40);
            if (kind < 4) {
                text.append(new String[] {"hot", "size", "pieces", "pending"}[kind]).append(spaces());
                text.append(2 + random.nextInt(new int[] {4, 30, 20, 8}[kind]));
            } else {
                text.append("row").append(spaces()).append(random.nextInt(keys));
                text.append(random.nextBoolean() ? "-" : " ").append(spaces()).append(random.nextInt(100));
            }
            text.append(spaces()).append(';').append(spaces());
        }
        if (random.nextInt(4) == 0 && text.length() > 0) {
            String bytes = " ;-0159rowhtsizepcnd+\u00ffA";
            for (int i = random.nextInt(3); i >= 0; i--) {
                int at = random.nextInt(text.length());
                text.setCharAt(at, bytes.charAt(random.nextInt(bytes.length())));
            }
        }
        return text.substring(0, Math.min(text.length(), 900));
    }

    private String spaces() {
        return random.nextInt(5) == 0 ? " ".repeat(random.nextInt(3)) : "";
    }
}
