import java.lang.reflect.InvocationTargetException;
import java.lang.reflect.Method;
import java.util.Arrays;
import java.util.HashMap;
import java.util.Map;
import java.util.Random;
import java.util.TreeMap;

/** Random runs of calls, the same ones each time, of the class and of Oracle. */
public final class OracleTests {
    private static final int RUNS = 1000;
    private static final int CALLS = 512;
    /** Each call with the sorts of its arguments: see argument. */
    private static final String[] CALLS_AND_ARGUMENTS = {"count S", "letter SKI", "size G", "times GEE", "inverse GE",
        "orderOf GE", "centre G", "conjugacy G", "generated GT", "normal GT", "groupOf MB", "boundary ME", "act MEE",
        "why M", "lawful ", "kernel M", "image M", "isCentral M", "fixed ME", "orbit ME", "classes M", "classOf ME",
        "classTimes MCC", "classAct MCE", "profile MBO", "areAlike MM", "kinds ", "firstAlike M", "largeTimes MXX",
        "target MX", "largeOrder MX", "between MEE", "end WB", "top WE", "bottom WE", "arrowWhy W", "isEquivalence W",
        "equivalences ", "ladder MM", "joined M", "through WWE", "account S", "writeModule M", "writeTable G",
        "textByte I", "setBoundary MEE", "setAct MEEE", "rest M", "conjugate M", "setTop WEE", "setBottom WEE",
        "undo ", "undoable ", "save L", "restore L", "parseError ", "errorPosition ", "buffered "};

    private static final Map<String, Method> METHODS = new HashMap<>();
    /** How often each answer that matters was met, so that a run that meets none of them is seen. */
    private static final Map<String, Integer> MET = new TreeMap<>();

    private final Random random;
    private final Texts texts;
    private final CrossedModules real = new CrossedModules();
    private final Oracle oracle = new Oracle();
    private final StringBuilder told = new StringBuilder();
    private int calls = 0;
    private boolean same = true;

    private OracleTests(int seed) {
        random = new Random(seed);
        texts = new Texts(random);
    }

    public static void main(String[] args) {
        for (Method method : CrossedModules.class.getDeclaredMethods()) {
            METHODS.put(method.getName(), method);
        }
        int from = args.length > 2 ? Integer.parseInt(args[2]) : 0;
        for (int seed = from; seed < from + RUNS; seed++) {
            new OracleTests(seed).run(seed % 4 == 3);
        }
        if (args.length > 1) {
            System.out.println(MET);
        }
        mustMeet();
        Checks.finish("OracleTests");
    }

    private void run(boolean spoil) {
        if (random.nextInt(10) == 0) {
            for (int i = 0; i < 5; i++) {
                anyCall();
            }
        }
        loadText(spoil);
        for (int tries = 0; tries < 4 && oracle.call("lawful").equals(Oracle.STATE); tries++) {
            loadText(false);
        }
        int reload = spoil ? 60 : 400;
        while (same && calls < CALLS - 60) {
            if (random.nextInt(reload) == 0) {
                loadText(random.nextInt(3) > 0);
            } else {
                anyCall();
            }
        }
        Checks.judge("a run", "the same answers", same ? "the same answers" : told.toString());
    }

    private void loadText(boolean spoil) {
        String text = texts.make();
        for (int i = 0; i < 40 && text.length() > 880; i++) {
            text = texts.make();
        }
        text = spoil ? texts.spoiled(text) : text;
        text = text.substring(0, Math.min(880, text.length()));
        while (same && calls < CALLS - 60 && random.nextInt(20) == 0) {
            compare("load", argument('A'));
        }
        for (int from = 0; from < text.length(); from += 20) {
            int[] words = new int[5];
            for (int i = 0; i < 20; i++) {
                int sign = from + i < text.length() ? text.charAt(from + i) : random.nextInt(256);
                words[i / 4] = words[i / 4] << 8 | sign & 255;
            }
            compare("append", words);
        }
        compare("load", text.length());
        compare("parseError");
        compare("errorPosition");
    }

    private void anyCall() {
        String call = CALLS_AND_ARGUMENTS[random.nextInt(CALLS_AND_ARGUMENTS.length)];
        String name = call.substring(0, call.indexOf(' '));
        char[] sorts = call.substring(call.indexOf(' ') + 1).toCharArray();
        int[] arguments = new int[sorts.length];
        for (int i = 0; i < sorts.length; i++) {
            arguments[i] = argument(sorts[i]);
        }
        compare(name, arguments);
    }

    private int argument(char sort) {
        if (random.nextInt(120) == 0 && sort != 'B') {
            int[] wild = {Integer.MIN_VALUE, Integer.MAX_VALUE, -1, 8, 64, 255, 256, -256, 1 << 16, 31, 32};
            return wild[random.nextInt(wild.length)];
        }
        boolean edge = random.nextInt(15) == 0;
        switch (sort) {
            case 'B':
                return random.nextInt(2);
            case 'S':
                return random.nextInt(edge ? 5 : 3) - (edge ? 1 : 0);
            case 'L':
                return random.nextInt(edge ? 4 : 2) - (edge ? 1 : 0);
            case 'G':
            case 'M':
            case 'W':
            case 'K':
                return random.nextInt(edge ? 9 : 4) - (edge ? 1 : 0);
            case 'E':
                return random.nextInt(edge ? 10 : random.nextInt(3) == 0 ? 8 : 3) - (edge ? 1 : 0);
            case 'C':
                return random.nextInt(edge ? 10 : 3) - (edge ? 1 : 0);
            case 'O':
                return random.nextInt(11) - 1;
            case 'T':
                return random.nextInt(random.nextBoolean() ? 256 : 16);
            case 'X':
                return random.nextInt(edge ? 67 : random.nextBoolean() ? 64 : 16) - (edge ? 1 : 0);
            case 'A':
                return random.nextBoolean() ? -1 : 900 + random.nextInt(3);
            default:
                return random.nextInt(12) - 1;
        }
    }

    private void compare(String name, int... arguments) {
        if (!same) {
            return;
        }
        calls++;
        String due = oracle.call(name, arguments);
        String got = answer(name, arguments);
        told.append(name).append(Arrays.toString(arguments)).append(" -> ").append(got).append('\n');
        MET.merge(name + (due.matches("-?[0-9]+") ? "" : " " + due), 1, Integer::sum);
        MET.merge(name + " is " + due, 1, Integer::sum);
        if (!due.equals(got)) {
            same = false;
            told.append("  but due is ").append(due);
        }
    }

    private String answer(String name, int[] arguments) {
        Method method = METHODS.get(name);
        Object[] boxed = new Object[arguments.length];
        for (int i = 0; i < arguments.length; i++) {
            boolean flag = method.getParameterTypes()[i] == boolean.class;
            boxed[i] = flag ? (Object) (arguments[i] == 1) : (Object) arguments[i];
        }
        try {
            Object got = method.invoke(real, boxed);
            return got instanceof Boolean ? (Boolean) got ? "1" : "0" : got.toString();
        } catch (InvocationTargetException e) {
            return e.getCause().getClass().getSimpleName();
        } catch (IllegalAccessException e) {
            return e.toString();
        }
    }

    /** The runs are worth something only if they meet these often. */
    private static void mustMeet() {
        String[] due = {"why is 0", "why is 1", "why is 2", "why is 3", "why is 4", "why is 5", "arrowWhy is 0",
            "arrowWhy is 1", "arrowWhy is 2", "arrowWhy is 3", "arrowWhy is 4", "arrowWhy is 5", "isEquivalence is 1",
            "isEquivalence is 0", "ladder is 1", "ladder is 2", "ladder is -1", "parseError is 1", "parseError is 2",
            "parseError is 3", "parseError is 4", "classTimes is 1", "classAct is 1", "kinds is 3", "firstAlike is 1",
            "areAlike is 1", "through", "conjugate", "conjugate IllegalArgumentException", "restore", "undo is 7",
            "account is 3", "load IllegalArgumentException", "load IndexOutOfBoundsException", "isCentral is 0",
            "load is 6", "classes is 2", "classes is 8", "largeOrder is 12"};
        for (String what : due) {
            Checks.judge("met: " + what, "true", String.valueOf(MET.getOrDefault(what, 0) >= 3));
        }
    }
}
