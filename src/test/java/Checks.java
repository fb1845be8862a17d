/** What the tests share: counting wrong answers, packing keys, reading the line. */
final class Checks {
    private static int wrong;
    private static int right;

    private Checks() {
    }

    /** A call that may throw. */
    interface Call {
        Object make();
    }

    static void due(String what, Object got, Object want) {
        if (String.valueOf(got).equals(String.valueOf(want))) {
            right++;
        } else {
            wrong++;
            System.out.println(what + ": answered " + got + ", due is " + want);
        }
    }

    /** The call's answer as a text, or throws.NAME when it throws; a boolean is told as 1 or 0. */
    static String answer(Call call) {
        try {
            Object got = call.make();
            if (got instanceof Boolean) {
                return (Boolean) got ? "1" : "0";
            }
            return String.valueOf(got);
        } catch (RuntimeException e) {
            return "throws." + e.getClass().getSimpleName();
        }
    }

    static void dueThrow(String what, Class<? extends RuntimeException> want, Runnable call) {
        due(what, answer(() -> {
            call.run();
            return "nothing thrown";
        }), "throws." + want.getSimpleName());
    }

    static void end(String name) {
        System.out.println(name + ": " + right + " right, " + wrong + " wrong");
        if (wrong != 0) {
            System.exit(1);
        }
    }

    /** Up to eight characters in the bytes of a long, the first in the lowest. */
    static long pack(String keys) {
        long packed = 0;
        for (int i = keys.length() - 1; i >= 0; i--) {
            packed = packed << 8 | keys.charAt(i);
        }
        return packed;
    }

    /** Presses any number of keys: the last answer. */
    static int press(TwinEntry t, String keys) {
        int answer = 0;
        for (int i = 0; i < keys.length() && answer == 0; i += 8) {
            answer = t.press(pack(keys.substring(i, Math.min(i + 8, keys.length()))));
        }
        return answer;
    }

    static int type(TwinEntry t, String keys) {
        int answer = 0;
        for (int i = 0; i < keys.length() && answer >= 0; i += 8) {
            answer = t.type(pack(keys.substring(i, Math.min(i + 8, keys.length()))));
        }
        return answer;
    }

    /** Stores codes from a place on; the bytes behind them, up to eight, become 0. */
    static void store(TwinEntry t, int place, int... codes) {
        for (int i = 0; i < codes.length; i += 8) {
            long packed = 0;
            for (int j = Math.min(i + 8, codes.length) - 1; j >= i; j--) {
                packed = packed << 8 | codes[j];
            }
            t.store(place + i, packed);
        }
    }

    /** The line without the blanks at its end. */
    static String line(TwinEntry t) {
        return wholeLine(t).stripTrailing();
    }

    static String wholeLine(TwinEntry t) {
        StringBuilder line = new StringBuilder();
        for (int part = 0; part < 3; part++) {
            long bytes = t.shown(part);
            for (int i = 0; i < 8; i++) {
                int character = (int) (bytes >>> (8 * i)) & 255;
                if (character != 0) {
                    line.append((char) character);
                }
            }
        }
        return line.toString();
    }

    /** A number as sign * d, E, exponent. */
    static String number(TwinEntry t, int which) {
        return t.digits(which) + "E" + t.exponent(which);
    }

    static String outKeys(TwinEntry t, int count) {
        StringBuilder keys = new StringBuilder();
        for (int i = 0; i < count; i++) {
            keys.append((char) t.out(i));
        }
        return keys.toString();
    }
}
