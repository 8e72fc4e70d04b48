/** What the tests share: texts into buffers, answers against what is due, a verdict at the end. */
final class Checks {
    interface Call {
        int go();
    }

    static final Class<? extends RuntimeException> STATE = IllegalStateException.class;
    static final Class<? extends RuntimeException> INDEX = IndexOutOfBoundsException.class;
    static final Class<? extends RuntimeException> ARGUMENT = IllegalArgumentException.class;

    private static int right = 0;
    private static int wrong = 0;

    private Checks() {
    }

    static void due(String what, int want, Call call) {
        String got;
        try {
            got = Integer.toString(call.go());
        } catch (RuntimeException e) {
            got = "throws " + e;
        }
        judge(what, Integer.toString(want), got);
    }

    static void refused(String what, Class<? extends RuntimeException> want, Call call) {
        String got;
        try {
            got = Integer.toString(call.go());
        } catch (RuntimeException e) {
            got = e.getClass().getName();
        }
        judge(what, want.getName(), got);
    }

    static void judge(String what, String want, String got) {
        if (want.equals(got)) {
            right++;
        } else {
            wrong++;
            System.out.println(what + ": answered " + got + ", due is " + want);
        }
    }

    static int bit(boolean told) {
        return told ? 1 : 0;
    }

    /** Appends a text, filled up to twenty bytes with letters that must not be read. */
    static void feed(CrossedModules x, String text) {
        for (int from = 0; from < text.length(); from += 20) {
            int[] words = new int[5];
            for (int i = 0; i < 20; i++) {
                int sign = from + i < text.length() ? text.charAt(from + i) : 'z';
                words[i / 4] = words[i / 4] << 8 | sign & 255;
            }
            x.append(words[0], words[1], words[2], words[3], words[4]);
        }
    }

    static int load(CrossedModules x, String text) {
        feed(x, text);
        return x.load(text.length());
    }

    static CrossedModules loaded(String text) {
        CrossedModules x = new CrossedModules();
        try {
            load(x, text);
        } catch (RuntimeException e) {
            judge("a text for a test: " + text, "no exception", e + " " + x.parseError() + " at " + x.errorPosition());
        }
        return x;
    }

    static String written(CrossedModules x, int length) {
        StringBuilder text = new StringBuilder();
        for (int i = 0; i < length; i++) {
            text.append((char) x.textByte(i));
        }
        return text.toString();
    }

    static void finish(String name) {
        System.out.println(name + ": " + right + " right, " + wrong + " wrong");
        if (wrong > 0 || right == 0) {
            System.exit(1);
        }
    }
}
