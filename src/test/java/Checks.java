import java.util.Arrays;

/** What the tests share: counting wrong answers, packing keys, making objects, reading what is shown. */
abstract class Checks {
    static final Class<IllegalStateException> STATE = IllegalStateException.class;
    static final Class<IllegalArgumentException> ARGUMENT = IllegalArgumentException.class;
    static final Class<IndexOutOfBoundsException> INDEX = IndexOutOfBoundsException.class;
    static final Class<UnsupportedOperationException> UNSUPPORTED = UnsupportedOperationException.class;

    static final int X = 10;
    static final int Y = 11;
    static final int Z = 12;
    static final int T = 13;
    static final int LAST = 14;

    private static int wrong;
    private static int right;

    /** What is told before each wrong answer. */
    private static String about = "";

    /** A call that may throw. */
    interface Call {
        Object make();
    }

    static void about(String words) {
        about = words;
    }

    static int count() {
        return right + wrong;
    }

    static void due(String what, Object got, Object want) {
        if (String.valueOf(got).equals(String.valueOf(want))) {
            right++;
        } else {
            wrong++;
            System.out.println(about + what + ": answered " + got + ", due is " + want);
        }
    }

    /** The call's answer as a text, or throws.NAME when it throws; a boolean is told as 1 or 0. */
    static String answer(Call call) {
        try {
            Object got = call.make();
            if (got instanceof Boolean) {
                return (Boolean) got ? "1" : "0";
            }
            return String.valueOf(got);
        } catch (RuntimeException e) {
            return "throws." + e.getClass().getSimpleName();
        }
    }

    static void dueThrow(String what, Class<? extends RuntimeException> want, Runnable call) {
        due(what, answer(() -> {
            call.run();
            return "nothing thrown";
        }), "throws." + want.getSimpleName());
    }

    static void end(String name) {
        System.out.println(name + ": " + right + " right, " + wrong + " wrong");
        if (wrong != 0) {
            System.exit(1);
        }
    }

    // ---- calls

    /** Up to eight characters in the bytes of a long, the first in the lowest. */
    static long pack(String keys) {
        long packed = 0;
        for (int i = keys.length() - 1; i >= 0; i--) {
            packed = packed << 8 | keys.charAt(i);
        }
        return packed;
    }

    /** Presses any number of keys: the last answer. */
    static int press(TwinEntry t, String keys) {
        int answer = 0;
        for (int i = 0; i < keys.length() && answer == 0; i += 8) {
            answer = t.press(pack(keys.substring(i, Math.min(i + 8, keys.length()))));
        }
        return answer;
    }

    static int type(TwinEntry t, String keys) {
        int answer = 0;
        for (int i = 0; i < keys.length() && answer >= 0; i += 8) {
            answer = t.type(pack(keys.substring(i, Math.min(i + 8, keys.length()))));
        }
        return answer;
    }

    /** Stores codes from a place on; the bytes behind them, up to eight, become 0. */
    static void store(TwinEntry t, int place, int... codes) {
        for (int i = 0; i < codes.length; i += 8) {
            long packed = 0;
            for (int j = Math.min(i + 8, codes.length) - 1; j >= i; j--) {
                packed = packed << 8 | codes[j];
            }
            t.store(place + i, packed);
        }
    }

    /** Codes told by numbers and by texts of keys. */
    static int[] codes(Object... parts) {
        int[] codes = new int[100];
        int count = 0;
        for (Object part : parts) {
            if (part instanceof Integer) {
                codes[count++] = (Integer) part;
            } else {
                for (char key : ((String) part).toCharArray()) {
                    codes[count++] = key;
                }
            }
        }
        return Arrays.copyOf(codes, count);
    }

    // ---- objects

    static TwinEntry keyed(String keys) {
        TwinEntry t = new TwinEntry();
        due("keys " + keys, press(t, keys), 0);
        return t;
    }

    static TwinEntry formula(String keys) {
        TwinEntry t = new TwinEntry();
        t.model(1);
        due("formula " + keys, press(t, keys), 0);
        return t;
    }

    static TwinEntry programmed(Object... parts) {
        TwinEntry t = new TwinEntry();
        store(t, 0, codes(parts));
        return t;
    }

    // ---- what is seen

    /** The line without the blanks at its end. */
    static String line(TwinEntry t) {
        return wholeLine(t).stripTrailing();
    }

    static String wholeLine(TwinEntry t) {
        StringBuilder line = new StringBuilder();
        for (int part = 0; part < 3; part++) {
            long bytes = t.shown(part);
            for (int i = 0; i < 8; i++) {
                int character = (int) (bytes >>> (8 * i)) & 255;
                if (character != 0) {
                    line.append((char) character);
                }
            }
        }
        return line.toString();
    }

    /** A number as sign * d, E, exponent. */
    static String number(TwinEntry t, int which) {
        return t.digits(which) + "E" + t.exponent(which);
    }

    /** X, Y, Z, T and LAST, when they are whole numbers below 10. */
    static String stack(TwinEntry t) {
        StringBuilder all = new StringBuilder();
        for (int i = X; i <= LAST; i++) {
            all.append(' ').append(t.digits(i) / 100000000000L);
        }
        return all.toString();
    }

    /** All numbers and states but the fault. */
    static String allBut1(TwinEntry t) {
        StringBuilder all = new StringBuilder();
        for (int i = 0; i < 15; i++) {
            all.append(' ').append(number(t, i));
        }
        for (int i = 0; i < 11; i++) {
            all.append(i == 1 ? "" : " " + t.state(i));
        }
        return all.toString();
    }

    static String outKeys(TwinEntry t, int count) {
        StringBuilder keys = new StringBuilder();
        for (int i = 0; i < count; i++) {
            keys.append((char) t.out(i));
        }
        return keys.toString();
    }

    // ---- short checks

    static void dueX(String keys, String want) {
        due("X behind " + keys, number(keyed(keys), X), want);
    }

    static void dueFormula(String keys, String want) {
        due("X behind the formula " + keys, number(formula(keys), X), want);
    }

    static void dueLine(String keys, String want) {
        due("line behind " + keys, line(keyed(keys)), want);
    }

    static void dueMode(int kind, int n, String keys, String want) {
        TwinEntry t = keyed(keys);
        t.mode(kind, n);
        due("line by mode " + kind + ", " + n + " behind " + keys, line(t), want);
    }

    /** A fault by the last key, and nothing else changed. */
    static void dueFault(TwinEntry t, String key, int fault) {
        String before = allBut1(t);
        due("fault by " + key, t.press(pack(key)), fault);
        due("state 1 behind " + key, t.state(1), fault);
        due("line behind " + key, line(t), "FAULT " + fault);
        due("nothing else changed by " + key, allBut1(t), before);
    }
}
