import java.util.Random;

/** Random runs of calls, by the class and by the Reference: all that can be seen must be the same. */
public final class ReferenceTest {
    private static final String DIGITS = "0123456789";
    private static final String ENTRY = "0123456789012345678900.E.ENNB";
    private static final String BOTH = "QSINCBabcdefghijklmnopqrst";
    private static final String[] FUNCTIONS = {
        "S2-", "S3-", "k=a*a*5-", "3-", "1E9N9-", "I2-", "Q7-", "k2-S3-a*", "L*1-", "=*=*9+", "1-2*S4-",
        "2E9N9*", "2E99*", "0*1+", "0*", "0*3N+", "154.", "a1+k0*a+6-", "N"
    };

    private final Random random;
    private TwinEntry tested;
    private Reference reference;
    private String history;

    private ReferenceTest(long seed) {
        random = new Random(seed);
    }

    public static void main(String[] args) {
        int runs = args.length > 0 ? Integer.parseInt(args[0]) : 4000;
        for (int seed = 1; seed <= runs; seed++) {
            new ReferenceTest(seed).oneRun(seed);
        }
        Checks.end("ReferenceTest");
    }

    private void oneRun(int seed) {
        tested = new TwinEntry();
        reference = new Reference();
        history = "seed " + seed + ":";
        int kind = seed % 6;
        if (random.nextInt(3) > 0) {
            randomMode();
        }
        for (int i = 0; i < 60; i++) {
            if (kind == 0) {
                keys(0);
            } else if (kind == 1) {
                keys(1);
            } else if (kind == 2) {
                programs();
            } else if (kind == 3) {
                solver();
            } else if (kind == 4) {
                translator();
            } else {
                arithmetic();
            }
            if (random.nextInt(12) == 0) {
                anything();
            }
        }
    }

    // ---- kinds of runs

    private void keys(int model) {
        int choice = random.nextInt(40);
        if (choice == 0 || tested.state(0) != model) {
            model(model);
        } else if (choice < 4) {
            undo();
        } else if (choice < 6) {
            randomMode();
        } else if (choice < 14) {
            press(numberKeys());
        } else {
            press(someKeys(1 + random.nextInt(8), model));
        }
    }

    private void programs() {
        int choice = random.nextInt(20);
        if (tested.state(2) != 0 && choice < 16) {
            run(random.nextInt(12) == 0 ? 500 : random.nextInt(20));
        } else if (choice < 2) {
            model(random.nextInt(2));
        } else if (choice < 9) {
            store(random.nextInt(4) == 0 ? 92 : random.nextInt(100), programCodes(tested.state(0)));
        } else if (choice < 14) {
            press(someKeys(random.nextInt(4), tested.state(0)) + (char) (144 + random.nextInt(4)) + "5");
        } else if (choice < 15) {
            stop();
        } else if (choice < 16) {
            undo();
        } else {
            press(someKeys(1 + random.nextInt(5), tested.state(0)));
        }
    }

    private void solver() {
        int choice = random.nextInt(20);
        if (tested.state(2) != 0 && choice < 18) {
            run(random.nextInt(3) == 0 ? random.nextInt(6) : 200 + random.nextInt(301));
        } else if (choice < 4) {
            String body = FUNCTIONS[random.nextInt(FUNCTIONS.length)];
            char label = (char) (128 + random.nextInt(2));
            store(random.nextInt(3) * 16, label + body.substring(0, Math.min(7, body.length())));
        } else if (choice < 5) {
            store(random.nextInt(93), programCodes(0));
        } else if (choice < 8) {
            press(numberKeys());
            press("=" + someKeys(2, 0));
        } else if (choice < 10) {
            press(DIGITS.charAt(random.nextInt(10)) + (random.nextBoolean() ? "N" : "") + "=" + random.nextInt(100));
        } else if (choice < 17) {
            solve(random.nextInt(3));
        } else if (choice < 18) {
            stop();
        } else {
            undo();
        }
    }

    private void translator() {
        int choice = random.nextInt(10);
        if (choice < 2) {
            wipe();
        } else if (choice < 6) {
            type(formulaKeys());
        } else if (choice < 7) {
            wipe();
            String formula = wholeFormula(3);
            for (int i = 0; i < formula.length() && i < 40; i += 8) {
                type(formula.substring(i, Math.min(i + 8, formula.length())));
            }
            translate();
            sameByOut(formula);
        } else {
            translate();
        }
    }

    /** What OUT is for: the stack comes to the same X as the formula, when nothing fails. */
    private void sameByOut(String formula) {
        int count = tested.translate();
        if (formula.length() > 40 || count < 0) {
            return;
        }
        TwinEntry byFormula = new TwinEntry();
        TwinEntry byStack = new TwinEntry();
        Checks.press(byFormula, "3k4N=Il5o");
        Checks.press(byStack, "3k4N=Il5o");
        byFormula.model(1);
        byStack.model(0);
        int faults = Checks.press(byFormula, formula + "=");
        faults += Checks.press(byStack, "W" + Checks.outKeys(tested, count));
        if (faults == 0) {
            Checks.due("X by OUT of " + formula, Checks.number(byStack, 10), Checks.number(byFormula, 10));
        }
    }

    /** Two long numbers with exponents that are near each other, so that halves and carries come up. */
    private void arithmetic() {
        int power = random.nextInt(5) == 0 ? random.nextInt(199) - 99 : random.nextInt(9) - 4;
        longNumber(power);
        press("=");
        longNumber(random.nextInt(4) == 0 ? -power : power + random.nextInt(29) - 14);
        press("" + any("+-*/+-QSI"));
        if (random.nextInt(3) == 0) {
            press("" + any("QSIL") + any("+-*/"));
        }
    }

    private void longNumber(int power) {
        StringBuilder keys = new StringBuilder();
        String digits = "" + any("19345") + any("09");
        int same = random.nextInt(12);
        for (int i = 0; i < 12; i++) {
            char other = any(i == 11 ? "0554969" : DIGITS);
            keys.append(i == 1 ? "." : "").append(i < same ? digits.charAt(Math.min(i, 1)) : other);
        }
        int limited = Math.max(-99, Math.min(99, power));
        keys.append(random.nextBoolean() ? "N" : "").append('E');
        keys.append(limited < 0 ? "N" : "").append(Math.abs(limited));
        for (int i = 0; i < keys.length(); i += 8) {
            press(keys.substring(i, Math.min(i + 8, keys.length())));
        }
    }

    private void anything() {
        int n = random.nextInt(14) - 2;
        switch (random.nextInt(14)) {
            case 0:
                model(random.nextInt(4) - 1);
                break;
            case 1:
                solve(n);
                break;
            case 2:
                run(random.nextBoolean() ? 501 : -1);
                break;
            case 3:
                stop();
                break;
            case 4:
                call("mode(" + n + ", " + n + ")", () -> {
                    tested.mode(n, n);
                    return 0;
                }, () -> {
                    reference.mode(n, n);
                    return 0;
                });
                break;
            case 5:
                store(random.nextInt(110) - 5, "" + (char) random.nextInt(256));
                break;
            case 6:
                press("" + (char) random.nextInt(256) + (char) random.nextInt(256));
                break;
            case 7:
                type("" + (char) random.nextInt(256) + "\0" + (char) random.nextInt(256));
                break;
            case 8:
                translate();
                break;
            case 9:
                wipe();
                break;
            case 10:
                press("");
                break;
            default:
                undo();
        }
    }

    // ---- what is keyed

    private char any(String keys) {
        return keys.charAt(random.nextInt(keys.length()));
    }

    private String numberKeys() {
        StringBuilder keys = new StringBuilder();
        int shape = random.nextInt(5);
        int length = shape == 0 ? 8 : 1 + random.nextInt(4);
        for (int i = 0; i < length; i++) {
            keys.append(shape == 1 ? any("0059.") : any("0123456789."));
        }
        if (shape == 2) {
            keys.append("E").append(random.nextBoolean() ? "N" : "").append(random.nextInt(100));
        } else if (shape > 2) {
            keys.append(any("N=+-*/"));
        }
        return keys.substring(0, Math.min(8, keys.length()));
    }

    private String someKeys(int count, int model) {
        StringBuilder keys = new StringBuilder();
        for (int i = 0; i < count; i++) {
            int choice = random.nextInt(20);
            if (choice < 8) {
                keys.append(any(ENTRY));
            } else if (choice < 11) {
                keys.append(any(BOTH));
            } else if (choice < 17) {
                keys.append(any(model == 0 ? "=+-*/+-*/WDL" : "=+-*/+-*/()("));
            } else if (choice < 18) {
                keys.append(any("()WDL="));
            } else {
                keys.append(any(DIGITS));
            }
        }
        return keys.toString();
    }

    private String programCodes(int model) {
        StringBuilder codes = new StringBuilder();
        for (int i = 0; i < 8; i++) {
            int choice = random.nextInt(12);
            if (choice < 2) {
                codes.append((char) (128 + random.nextInt(4)));
            } else if (choice < 4) {
                codes.append((char) (136 + random.nextInt(16)));
            } else if (choice < 6) {
                codes.append((char) (152 + random.nextInt(15)));
            } else if (choice == 6 && random.nextInt(4) == 0) {
                codes.append((char) random.nextInt(256));
            } else {
                codes.append(someKeys(1, model));
            }
        }
        return codes.toString();
    }

    private String formulaKeys() {
        StringBuilder keys = new StringBuilder();
        for (int i = 1 + random.nextInt(4); i > 0; i--) {
            int choice = random.nextInt(30);
            String from = choice == 0 ? "BCWDLkt= x" : choice < 12 ? "+-*/(" : choice < 18 ? "QSIN)" : "12.EabjN3";
            keys.append(any(from));
        }
        return keys.toString();
    }

    private String wholeFormula(int depth) {
        StringBuilder keys = new StringBuilder();
        for (int i = random.nextInt(3); i >= 0; i--) {
            int choice = random.nextInt(4);
            if (choice == 0 && depth > 0) {
                keys.append('(').append(wholeFormula(depth - 1)).append(')');
            } else if (choice == 1) {
                keys.append(any("abcdefghij"));
            } else {
                keys.append(any("123456789.")).append(any("0.EN5")).append(any("0.EN5"));
            }
            if (random.nextInt(4) == 0) {
                keys.append(any("QSINN"));
            }
            if (i > 0) {
                keys.append(any("+-*/"));
            }
        }
        return keys.toString();
    }

    // ---- calls on both

    private void call(String what, Checks.Call byTested, Checks.Call byReference) {
        history += " " + what;
        Checks.due(history, Checks.answer(byTested), Checks.answer(byReference));
        String got = seen(tested::digits, tested::exponent, tested::shown, tested::state, tested::code, tested::out);
        String want = seen(reference::digits, reference::exponent, reference::shown, reference::state,
            reference::code, reference::out);
        if (!got.equals(want)) {
            Checks.due(history, got, want);
            System.exit(1);
        }
    }

    private interface LongView {
        long at(int i);
    }

    private interface IntView {
        int at(int i);
    }

    private static String seen(
            LongView digits, IntView exponent, LongView shown, IntView state, IntView code, IntView out) {
        StringBuilder all = new StringBuilder();
        for (int i = -1; i <= 15; i++) {
            int which = i;
            all.append(' ').append(Checks.answer(() -> digits.at(which)));
            all.append('E').append(Checks.answer(() -> exponent.at(which)));
        }
        for (int i = -1; i <= 3; i++) {
            int part = i;
            all.append(" shown ").append(Checks.answer(() -> shown.at(part)));
        }
        for (int i = -1; i <= 11; i++) {
            all.append(" state ").append(state.at(i));
        }
        for (int i = 0; i < 100; i += 9) {
            all.append(' ').append(code.at(i));
        }
        for (int i = 0; i < 130; i++) {
            int index = i;
            String key = Checks.answer(() -> out.at(index));
            all.append(' ').append(key);
            if (key.startsWith("throws")) {
                break;
            }
        }
        return all.toString();
    }

    private void model(int m) {
        call("model(" + m + ")", () -> {
            tested.model(m);
            return 0;
        }, () -> {
            reference.model(m);
            return 0;
        });
    }

    private void press(String keys) {
        long packed = Checks.pack(keys.substring(0, Math.min(8, keys.length())));
        call("press(" + keys + ")", () -> tested.press(packed), () -> reference.press(packed));
    }

    private void run(int steps) {
        call("run(" + steps + ")", () -> tested.run(steps), () -> reference.run(steps));
    }

    private void stop() {
        call("stop()", () -> tested.stop(), () -> reference.stop());
    }

    private void solve(int label) {
        call("solve(" + label + ")", () -> tested.solve(label), () -> reference.solve(label));
    }

    private void randomMode() {
        int kind = random.nextInt(2);
        int n = random.nextInt(10);
        call("mode(" + kind + ", " + n + ")", () -> {
            tested.mode(kind, n);
            return 0;
        }, () -> {
            reference.mode(kind, n);
            return 0;
        });
    }

    private void store(int place, String codes) {
        long packed = Checks.pack(codes);
        call("store(" + place + ", " + codes + ")", () -> {
            tested.store(place, packed);
            return 0;
        }, () -> {
            reference.store(place, packed);
            return 0;
        });
    }

    private void type(String keys) {
        long packed = Checks.pack(keys.substring(0, Math.min(8, keys.length())));
        call("type(" + keys + ")", () -> tested.type(packed), () -> reference.type(packed));
    }

    private void wipe() {
        call("wipe()", () -> tested.wipe(), () -> reference.wipe());
    }

    private void translate() {
        call("translate()", () -> tested.translate(), () -> reference.translate());
    }

    private void undo() {
        call("undo()", () -> tested.undo(), () -> reference.undo());
    }
}
