import java.lang.reflect.InvocationTargetException;
import java.lang.reflect.Method;
import java.util.ArrayList;
import java.util.Arrays;
import java.util.HashMap;
import java.util.List;
import java.util.Map;

/** Plays the steps of a sentence's test on new objects of a class, and keeps what was answered wrongly. */
final class Player {
    private static final int MOST_CALLS = 512;
    private static final int BYTES_OF_APPEND = 20;
    private static final Map<String, String> EXCEPTIONS = Map.of("State", "IllegalStateException",
            "Index", "IndexOutOfBoundsException", "Argument", "IllegalArgumentException");

    /** An object with the calls made on it, so that another one can be brought to the same state. */
    private final class Played {
        final Object object = made();
        final List<String[]> calls = new ArrayList<>();

        String answer(String... call) {
            calls.add(call);
            if (calls.size() > MOST_CALLS) {
                throw new IllegalStateException("more than " + MOST_CALLS + " calls of one object");
            }
            Method method = methods.get(call[0]);
            if (method == null || method.getParameterCount() != call.length - 1) {
                throw new IllegalStateException("there is no such call: " + String.join(" ", call));
            }
            Object[] arguments = new Object[call.length - 1];
            for (int i = 1; i < call.length; i++) {
                boolean flag = method.getParameterTypes()[i - 1] == boolean.class;
                arguments[i - 1] = flag ? (Object) Boolean.valueOf(call[i]) : (Object) number(call[i]);
            }
            try {
                return String.valueOf(method.invoke(object, arguments));
            } catch (InvocationTargetException e) {
                return e.getCause().getClass().getSimpleName();
            } catch (IllegalAccessException e) {
                return e.toString();
            }
        }

        int count(String... call) {
            String told = answer(call);
            return told.matches("\\d+") ? Integer.parseInt(told) : 0;
        }
    }

    private final Class<?> type;
    private final Map<String, Method> methods = new HashMap<>();
    final List<String> faults = new ArrayList<>();
    int right;
    private Played played;
    /** The object that the refused calls are kept from. */
    private Played twin;

    Player(Class<?> type) {
        this.type = type;
        for (Method method : type.getMethods()) {
            if (method.getDeclaringClass() == type) {
                methods.put(method.getName(), method);
            }
        }
    }

    void play(List<String> steps) {
        for (String step : steps) {
            try {
                playStep(step);
            } catch (RuntimeException e) {
                faults.add(step + ": " + e);
            }
        }
        compareTwins();
    }

    private Object made() {
        try {
            return type.getConstructor().newInstance();
        } catch (ReflectiveOperationException e) {
            throw new IllegalStateException(e);
        }
    }

    private void begin() {
        compareTwins();
        played = new Played();
    }

    private void playStep(String step) {
        String[] parts = step.split(" ", 2);
        String rest = parts.length > 1 ? parts[1] : "";
        switch (parts[0]) {
            case "new":
                begin();
                break;
            case "text":
                begin();
                read(step, "load", sign(rest));
                break;
            case "good":
            case "bad":
                begin();
                readText(step, parts[0], rest);
                break;
            case "then":
                readText(step, rest.split(" ")[0], rest.split(" ", 2)[1]);
                break;
            case "feed":
                feed(sign(rest));
                break;
            case "reads":
                readWritten(step, rest);
                break;
            case "twin":
                twin = new Played();
                played.calls.forEach(twin::answer);
                break;
            case "constant":
                readConstant(step, rest);
                break;
            case "repeat":
                for (int i = 0; i < number(rest.split(" ")[0]); i++) {
                    playCalls(rest.split(" ", 2)[1]);
                }
                break;
            default:
                playCalls(step);
        }
    }

    private void judge(String what, String want, String got) {
        if (want.equals(got)) {
            right++;
        } else {
            faults.add(what + ": answered " + got + ", due is " + want);
        }
    }

    private void readConstant(String step, String rest) {
        try {
            judge(step, rest.split(" = ")[1], String.valueOf(type.getField(rest.split(" = ")[0]).get(null)));
        } catch (ReflectiveOperationException e) {
            faults.add(step + ": " + e);
        }
    }

    /** A call with lists as arguments is a call with each row of their values; the answers are due in turn. */
    private void playCalls(String step) {
        String[] sides = step.split(" [=!] ", 2);
        boolean refused = step.contains(" ! ");
        List<String[]> calls = new ArrayList<>();
        calls.add(new String[0]);
        for (String part : sides[0].split(" ")) {
            List<String[]> longer = new ArrayList<>();
            for (String[] call : calls) {
                for (String value : values(part)) {
                    String[] one = Arrays.copyOf(call, call.length + 1);
                    one[call.length] = value;
                    longer.add(one);
                }
            }
            calls = longer;
        }
        String[] due = sides.length > 1 ? sides[1].trim().split(" +") : new String[0];
        if (due.length > 0 && calls.size() % due.length != 0) {
            throw new IllegalStateException(calls.size() + " calls and " + due.length + " answers");
        }
        for (int i = 0; i < calls.size(); i++) {
            String got = played.answer(calls.get(i));
            String what = step + (calls.size() > 1 ? " (" + String.join(" ", calls.get(i)) + ")" : "");
            if (due.length == 0) {
                judge(what, "a number or boolean", got.matches("-?\\d+|true|false") ? "a number or boolean" : got);
            } else {
                judge(what, refused ? EXCEPTIONS.get(due[i % due.length]) : due[i % due.length], got);
            }
        }
    }

    private static List<String> values(String part) {
        if (!part.startsWith("{")) {
            return List.of(part);
        }
        List<String> all = new ArrayList<>();
        for (String one : part.substring(1, part.length() - 1).split(",")) {
            if (one.contains("..")) {
                for (int i = number(one.split("\\.\\.")[0]); i <= number(one.split("\\.\\.")[1]); i++) {
                    all.add(String.valueOf(i));
                }
            } else {
                all.add(one);
            }
        }
        return all;
    }

    private static int number(String told) {
        if (told.equals("MIN") || told.equals("MAX")) {
            return told.equals("MIN") ? Integer.MIN_VALUE : Integer.MAX_VALUE;
        }
        return told.startsWith("0x") ? Integer.parseUnsignedInt(told.substring(2), 16) : Integer.parseInt(told);
    }

    // ---- texts

    /** \s is a blank, \xHH a byte by its number. */
    private static String sign(String told) {
        StringBuilder text = new StringBuilder();
        for (int i = 0; i < told.length(); i++) {
            if (told.startsWith("\\s", i)) {
                text.append(' ');
                i++;
            } else if (told.startsWith("\\x", i)) {
                text.append((char) Integer.parseInt(told.substring(i + 2, i + 4), 16));
                i += 3;
            } else {
                text.append(told.charAt(i));
            }
        }
        return text.toString();
    }

    /** Appends a text, filled up to twenty bytes with letters that must not be read. */
    private void feed(String text) {
        for (int from = 0; from < text.length(); from += BYTES_OF_APPEND) {
            int[] words = new int[5];
            for (int i = 0; i < BYTES_OF_APPEND; i++) {
                int sign = from + i < text.length() ? text.charAt(from + i) : 'z';
                words[i / 4] = words[i / 4] << 8 | sign & 255;
            }
            String[] call = {"append", "", "", "", "", ""};
            for (int i = 0; i < words.length; i++) {
                call[i + 1] = String.valueOf(words[i]);
            }
            played.answer(call);
        }
    }

    private void read(String step, String call, String text) {
        feed(text);
        String got = played.answer(call, String.valueOf(text.length()));
        judge(step, "read", got.matches("\\d+") ? "read" : got);
    }

    /** good N TEXT: a text with N modules; bad C TEXT: one with the error C at the place of ^ in it. */
    private void readText(String step, String verdict, String rest) {
        String told = sign(rest.split(" ", 2)[1]);
        boolean good = verdict.equals("good");
        if (!good && told.indexOf('^') < 0) {
            throw new IllegalStateException("no ^ in a bad text");
        }
        String text = good ? told : told.replace("^", "");
        feed(text);
        String got = played.answer("load", String.valueOf(text.length()));
        judge(step + ": load", good ? rest.split(" ")[0] : EXCEPTIONS.get("Argument"), got);
        judge(step + ": parseError", good ? "0" : rest.split(" ")[0], played.answer("parseError"));
        judge(step + ": errorPosition", String.valueOf(good ? -1 : told.indexOf('^')), played.answer("errorPosition"));
    }

    private void readWritten(String step, String want) {
        StringBuilder got = new StringBuilder();
        for (int i = 0; i < want.length(); i++) {
            String told = played.answer("textByte", String.valueOf(i));
            got.append(told.matches("\\d+") ? (char) Integer.parseInt(told) : '?');
        }
        judge(step, want, got.toString());
        judge(step + ": behind it", EXCEPTIONS.get("Index"), played.answer("textByte", String.valueOf(want.length())));
    }

    // ---- twins

    private void compareTwins() {
        if (twin == null) {
            return;
        }
        String want = portrait(twin);
        String got = portrait(played);
        judge("twins, the one with the calls behind twin", want, got);
        twin = null;
    }

    /** All that can be asked of an object of few and small things; it is spent afterwards. */
    private String portrait(Played p) {
        StringBuilder told = new StringBuilder();
        for (String call : new String[] {"parseError", "errorPosition", "buffered", "undoable"}) {
            told.append(call).append(' ').append(p.answer(call)).append('\n');
        }
        told.append("text ");
        for (int i = 0; i < 72 && (i == 0 || !told.toString().endsWith("Exception ")); i++) {
            told.append(p.answer("textByte", String.valueOf(i))).append(' ');
        }
        told.append("\nstate ").append(state(p, true));
        for (int i = 0; i < 9; i++) {
            String undone = p.answer("undo");
            told.append("\nundo ").append(undone);
            if (!undone.matches("\\d+")) {
                break;
            }
            told.append(": ").append(state(p, false));
        }
        for (String slot : new String[] {"0", "1"}) {
            String restored = p.answer("restore", slot);
            told.append("\nrestore ").append(slot).append(' ').append(restored);
            told.append(restored.matches("\\d+") ? ": " + state(p, false) : "");
        }
        told.append("\nbuffer ").append(p.answer("load", p.answer("buffered")));
        told.append(' ').append(p.answer("parseError")).append(' ').append(p.answer("errorPosition"));
        return told.append(' ').append(p.answer("count", "0")).toString();
    }

    private String state(Played p, boolean whole) {
        StringBuilder told = new StringBuilder();
        int groups = p.count("count", "0");
        for (int k = 0; k < groups && whole; k++) {
            told.append(p.answer("letter", "0", k + "", "0")).append('/').append(p.answer("size", k + "")).append(' ');
        }
        int modules = p.count("count", "1");
        for (int k = 0; k < modules; k++) {
            int upper = p.count("size", p.answer("groupOf", k + "", "false"));
            int lower = p.count("size", p.answer("groupOf", k + "", "true"));
            told.append(p.answer("why", k + "")).append(' ');
            for (int h = 0; h < upper; h++) {
                told.append(p.answer("boundary", k + "", h + ""));
                for (int g = 0; g < lower; g++) {
                    told.append('.').append(p.answer("act", k + "", g + "", h + ""));
                }
            }
            told.append(' ');
        }
        int arrows = p.count("count", "2");
        for (int k = 0; k < arrows; k++) {
            String from = p.answer("end", k + "", "false");
            int upper = p.count("size", p.answer("groupOf", from, "false"));
            int lower = p.count("size", p.answer("groupOf", from, "true"));
            told.append(from).append('>').append(p.answer("end", k + "", "true")).append(' ');
            for (int h = 0; h < upper; h++) {
                told.append(p.answer("top", k + "", h + ""));
            }
            for (int g = 0; g < lower; g++) {
                told.append('.').append(p.answer("bottom", k + "", g + ""));
            }
            told.append(' ');
        }
        for (int what = 0; what < 3; what++) {
            told.append(' ').append(p.answer("account", what + ""));
        }
        return told.toString();
    }
}
