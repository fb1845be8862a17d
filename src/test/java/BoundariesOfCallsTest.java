/** Boundary cases of the promises themselves, and of the document's terms THE FAULT and UNDOING. */
public final class BoundariesOfCallsTest extends Boundaries {
    private static final String CALL_0 = "\u0090";
    private static final int[] FAR = {Integer.MIN_VALUE, -1000, -1, 100, 1000, Integer.MAX_VALUE};

    private BoundariesOfCallsTest() {
    }

    public static void main(String[] args) {
        newObject();
        firstOfSeveral();
        modelChanges();
        modelIsRefused();
        pressing();
        pressIsRefused();
        running();
        runIsRefused();
        stopping();
        solving();
        solveIsRefused();
        numbers();
        storing();
        codes();
        undoing();
        latestFive();
        programsAndUndoing();
        undoIsRefused();
        states();
        fault();
        manyCalls();
        endOfSentences("BoundariesOfCallsTest");
    }

    // ---- objects in which something runs

    /** A program that never ends; three keys were pressed before it. */
    private static TwinEntry programRuns() {
        TwinEntry t = programmed(128, "1+", 136);
        press(t, "4=5" + CALL_0);
        t.run(2);
        type(t, "1+2");
        t.translate();
        return t;
    }

    /** The solver, in its second value. */
    private static TwinEntry solverRuns() {
        TwinEntry t = programmed(128, "kS2-", 0);
        press(t, "4k1=2");
        t.solve(0);
        t.run(7);
        type(t, "1+2");
        t.translate();
        return t;
    }

    private static TwinEntry nothingRuns() {
        TwinEntry t = programmed(128, "1+", 136);
        press(t, "4k=5.5");
        type(t, "1+2");
        t.translate();
        return t;
    }

    /** The calculator of formulas, with a row and an entry. */
    private static TwinEntry formulaRuns() {
        TwinEntry t = nothingRuns();
        t.model(1);
        press(t, "1+(2*3");
        return t;
    }

    private static void dueRefusedWhileItRuns(String what, Using call) {
        dueRefused(what + " while a program runs", STATE, BoundariesOfCallsTest::programRuns, call);
        dueRefused(what + " while the solver runs", STATE, BoundariesOfCallsTest::solverRuns, call);
    }

    private static void dueRefusedAlways(String what, Class<? extends RuntimeException> want, Using call) {
        dueRefused(what, want, BoundariesOfCallsTest::nothingRuns, call);
        dueRefused(what + " in a formula", want, BoundariesOfCallsTest::formulaRuns, call);
        dueRefused(what + " while a program runs", want, BoundariesOfCallsTest::programRuns, call);
        dueRefused(what + " while the solver runs", want, BoundariesOfCallsTest::solverRuns, call);
    }

    // ---- promises

    private static void newObject() {
        sentence(1, "All as said, nothing runs, the text and OUT are empty.");
        TwinEntry t = new TwinEntry();
        due("what runs", t.state(2), 0);
        due("nothing to stop", t.stop(), false);
        due("nothing to run", t.run(500), 0);
        due("nothing to undo", t.undo(), false);
        due("the text", t.wipe(), 0);
        dueThrow("OUT", INDEX, () -> t.out(0));
        sentence(1, "At first all numbers are 0, LIFT is off, the row is empty, the place DONE, and there is no "
            + "entry.");
        for (int which = 0; which < 15; which++) {
            due("number " + which, number(t, which), "0E0");
        }
        due("LIFT", t.state(8), 0);
        due("the row", t.state(5), 0);
        due("the place", t.state(6), 0);
        due("the entry", t.state(7), 0);
        sentence(1, "The calculator has a MODEL, 0 (STACK) or 1 (FORMULAS), at first 0");
        due("the model", t.state(0), 0);
        due("D is a key", press(t, "D"), 0);
        due("( is none", press(t, "("), 1);
    }

    private static void firstOfSeveral() {
        sentence(6, "Methods throw what their comments name, the one named first when several would do; a call that "
            + "throws changes nothing.");
        dueRefusedWhileItRuns("model 2", t -> t.model(2));
        dueRefusedWhileItRuns("store at 93", t -> t.store(93, 1));
        dueRefusedWhileItRuns("store at -1", t -> t.store(-1, 1));
        dueRefusedWhileItRuns("solve of label 8", t -> t.solve(8));
        dueRefused("solve of label 8 with formulas", UNSUPPORTED, BoundariesOfCallsTest::formulaRuns, t -> t.solve(8));
        dueRefused("solve of -1 with formulas", UNSUPPORTED, BoundariesOfCallsTest::formulaRuns, t -> t.solve(-1));
        Making program = () -> {
            TwinEntry t = programmed(128, 136);
            t.model(1);
            press(t, CALL_0);
            return t;
        };
        dueRefused("solve while a program runs with formulas", STATE, program, t -> t.solve(8));
        dueRefusedAlways("run of -1", ARGUMENT, t -> t.run(-1));
        dueRefusedAlways("mode 2", ARGUMENT, t -> t.mode(2, 2));
        dueRefusedAlways("mode 1 with 10", ARGUMENT, t -> t.mode(1, 10));
        dueRefusedAlways("shown of part 3", ARGUMENT, t -> t.shown(3));
        dueRefusedAlways("digits 15", INDEX, t -> t.digits(15));
        dueRefusedAlways("exponent 15", INDEX, t -> t.exponent(15));
        dueRefusedAlways("code 100", INDEX, t -> t.code(100));
        dueRefusedAlways("out 4", INDEX, t -> t.out(4));
    }

    private static void modelChanges() {
        sentence(2, "Changes to a model, also to the same: X, Y, Z, T and LAST are 0, LIFT is off, the row is "
            + "empty, the place DONE, there is no entry, and nothing can be undone.");
        for (int from = 0; from < 2; from++) {
            for (int to = 0; to < 2; to++) {
                TwinEntry t = new TwinEntry();
                t.model(from);
                press(t, from == 0 ? "3S4=5=6=7W8" : "3S+4*(5k+7.5");
                t.model(to);
                due("the model", t.state(0), to);
                due("X, Y, Z, T, LAST", stack(t), " 0 0 0 0 0");
                due("exponent of X", t.exponent(X), 0);
                due("LIFT", t.state(8), 0);
                due("the row", t.state(5), 0);
                due("the place", t.state(6), 0);
                due("the entry", t.state(7), 0);
                due("how many can be undone", t.state(9), 0);
                due("undo", t.undo(), false);
            }
        }
        sentence(2, "(Registers, programs, mode, text and OUT stay.)");
        TwinEntry t = nothingRuns();
        t.mode(1, 3);
        type(t, "=");
        t.model(1);
        due("register", number(t, 0), "400000000000E0");
        due("program", t.code(0) + " " + t.code(3), "128 136");
        due("mode", line(t), " 0.000E+00");
        due("OUT", outKeys(t, 4), "1=2+");
        due("text", t.wipe(), 4);
    }

    private static void modelIsRefused() {
        sentence(2, "IllegalStateException: a program or the solver runs; IllegalArgumentException: m is not 0 or 1.");
        dueRefusedWhileItRuns("model 0", t -> t.model(0));
        dueRefusedWhileItRuns("model 1", t -> t.model(1));
        for (int m : new int[] {-1, 2, 256, Integer.MAX_VALUE, Integer.MIN_VALUE}) {
            dueRefused("model " + m, ARGUMENT, BoundariesOfCallsTest::nothingRuns, t -> t.model(m));
            dueRefused("model " + m + " in a formula", ARGUMENT, BoundariesOfCallsTest::formulaRuns, t -> t.model(m));
        }
    }

    private static void pressing() {
        sentence(3, "Presses the keys in the eight bytes of a long, the lowest first, bytes 0 left out, until one "
            + "fails or starts a program: 0, or the fault. (Keys behind that one are not pressed.)");
        TwinEntry t = new TwinEntry();
        due("no key", t.press(0), 0);
        due("nothing is kept by that", t.state(9), 0);
        due("eight keys", t.press(pack("12345678")), 0);
        due("line", line(t), " 12345678");
        due("bytes 0 before, among and behind", t.press(pack("\0009\0\0008\0\0007")), 0);
        due("line", line(t), " 12345678987");
        due("a key in the highest byte alone", t.press((long) 'N' << 56), 0);
        due("line", line(t), "-12345678987");
        due("the highest byte is no sign", t.press(0xFFL << 56), 1);
        due("the keys before one that fails are pressed", t.press(pack("C5=x6=x")), 1);
        due("those behind are not", number(t, X) + " " + number(t, Y), "500000000000E0 500000000000E0");
        due("the fault of the one that fails", t.press(pack("0Ix")), 3);
        due("no key leaves the fault", t.press(0), 0);
        due("fault", t.state(1), 3);
        TwinEntry p = programmed(128, "7", 0);
        due("the keys before one that starts a program are pressed", p.press(pack("56" + CALL_0 + "9x")), 0);
        due("X", number(p, X), "560000000000E1");
        due("it runs", p.state(2), 1);
        due("no step is made", p.state(3), 1);
        p.run(500);
        due("those behind are never pressed", line(p), " 7");
        due("three keys are kept", p.state(9), 3);
        due("a program that is not there", p.press(pack("\u00915")), 7);
        due("the key behind it is not pressed", line(undone(p)), " 56");
    }

    private static TwinEntry undone(TwinEntry t) {
        due("undo", t.undo(), true);
        return t;
    }

    private static void pressIsRefused() {
        sentence(3, "IllegalStateException: a program or the solver runs.");
        dueRefusedWhileItRuns("press of no key", t -> t.press(0));
        dueRefusedWhileItRuns("press of 5", t -> t.press('5'));
        dueRefusedWhileItRuns("press of x", t -> t.press('x'));
        dueRefusedWhileItRuns("press of 144", t -> t.press(144));
    }

    private static void running() {
        sentence(4, "The program, or the one whose values the solver takes, makes at most so many steps (the solver "
            + "goes on to the next value without a step between): 1 when something still runs then, else 0.");
        TwinEntry t = programmed(128, "1+", 136);
        due("nothing runs", t.run(1), 0);
        due("nothing runs, and no steps", t.run(0), 0);
        press(t, CALL_0);
        due("no steps", t.run(0), 1);
        due("place", t.state(3), 1);
        due("one step", t.run(1), 1);
        due("place", t.state(3), 2);
        due("500 steps", t.run(500), 1);
        due("place", t.state(3), 1);
        due("X", number(t, X), "167000000000E2");
        t.stop();
        TwinEntry s = programmed(128, "5-", 0);
        press(s, "1=2");
        s.solve(0);
        due("no steps of the solver", s.run(0), 1);
        due("values", s.state(10), 1);
        due("its steps up to the end of a value", s.run(2), 1);
        due("values", s.state(10), 1);
        due("the step that sees it", s.run(1), 1);
        due("the next value has begun", s.state(10), 2);
        due("X is b", number(s, X), "200000000000E0");
        due("its first step is the next one", s.run(1), 1);
        due("line", line(s), " 5");
        due("the steps of two values are six", s.run(2), 0);
        due("over", s.state(2), 0);
        TwinEntry m = programmed(128, "S2-", 0);
        press(m, "1=2");
        m.solve(0);
        int steps = 0;
        while (m.run(1) == 1 && steps < 1000) {
            steps++;
        }
        TwinEntry once = programmed(128, "S2-", 0);
        press(once, "1=2");
        once.solve(0);
        due("as many steps at once, but one", once.run(steps), 1);
        due("and the last one", once.run(1), 0);
        due("four steps a value", steps + 1, 4 * m.state(10));
        due("found", number(once, X), number(m, X));
    }

    private static void runIsRefused() {
        sentence(4, "IllegalArgumentException: steps is not 0 .. 500.");
        for (int steps : new int[] {-1, 501, Integer.MAX_VALUE, Integer.MIN_VALUE}) {
            dueRefusedAlways("run of " + steps, ARGUMENT, t -> t.run(steps));
        }
        due("500 are not refused", new TwinEntry().run(500), 0);
        due("0 are not refused", new TwinEntry().run(0), 0);
    }

    private static void stopping() {
        sentence(5, "What runs is over: a program where it is; of the solver all is as before it began. Answers "
            + "whether something ran. (The fault that is shown stays.)");
        TwinEntry t = programmed(128, "7k8", 136);
        press(t, "5" + CALL_0);
        t.run(3);
        due("a program ran", t.stop(), true);
        due("where it is", line(t), " 8");
        due("register", number(t, 0), "700000000000E0");
        due("Y", number(t, Y), "700000000000E0");
        due("nothing runs", whatRuns(t), "0 -1 0");
        due("its start is kept", t.state(9), 2);
        due("nothing ran", t.stop(), false);
        press(t, "x");
        due("nothing ran", t.stop(), false);
        due("the fault stays", t.state(1), 1);
        due("before the first step", stoppedAtOnce(), " 5.00");
        Making before = () -> {
            TwinEntry s = programmed(128, "kl3S", 129, 137);
            press(s, "4k3S1=2");
            return s;
        };
        for (int steps : new int[] {0, 1, 4, 500}) {
            dueSame("all is as before, behind " + steps + " steps", before, s -> {
                s.solve(0);
                s.run(steps);
                due("the solver ran", s.stop(), true);
                due("nothing runs", s.state(2), 0);
                due("the fault", s.state(1), 0);
                due("nothing ran", s.stop(), false);
            });
        }
    }

    private static String stoppedAtOnce() {
        TwinEntry t = programmed(128, "7");
        press(t, "5" + CALL_0);
        t.stop();
        return line(t);
    }

    private static void solving() {
        sentence(6, "The solver begins for a label, and runs: 0; or fails at once: 7 when there is no such label. "
            + "(Then the fault alone changes.)");
        TwinEntry t = programmed(128, "5-", 0, 135, "6-", 0);
        press(t, "1=9");
        due("label 7", t.solve(7), 0);
        due("runs", t.state(2), 2);
        due("place", t.state(3), 5);
        t.stop();
        due("label 0", t.solve(0), 0);
        due("place", t.state(3), 1);
        t.stop();
        for (int label = 1; label < 7; label++) {
            int none = label;
            dueSame("label " + label + " is not there", BoundariesOfCallsTest::nothingRuns, u -> {
                due("answer", u.solve(none), 7);
                due("fault", u.state(1), 7);
                due("what runs", u.state(2), 0);
                due("values", u.state(10), 0);
            });
        }
        due("found", t.solve(0), 0);
        t.run(500);
        int values = t.state(10);
        due("fails", t.solve(3), 7);
        due("values as before", t.state(10), values);
    }

    private static void solveIsRefused() {
        sentence(6, "IllegalStateException: a program or the solver runs; UnsupportedOperationException: the model "
            + "is 1; IllegalArgumentException: label is not 0 .. 7.");
        dueRefusedWhileItRuns("solve", t -> t.solve(0));
        dueRefused("solve with formulas", UNSUPPORTED, BoundariesOfCallsTest::formulaRuns, t -> t.solve(0));
        for (int label : new int[] {-1, 8, 128, Integer.MAX_VALUE, Integer.MIN_VALUE}) {
            dueRefused("label " + label, ARGUMENT, BoundariesOfCallsTest::nothingRuns, t -> t.solve(label));
        }
    }

    private static void numbers() {
        sentence(8, "Sign * d of register which (0 .. 9), of X (10), Y (11), Z (12), T (13), LAST (14); 0 for 0.");
        TwinEntry t = keyed("1k2l3m4n5o6p7q8r9s5Nt3NE50=7Q6E5N=5=4");
        for (int register = 0; register < 9; register++) {
            due("register " + register, t.digits(register), (register + 1) * 100000000000L);
        }
        due("register 9", t.digits(9), -500000000000L);
        due("X", t.digits(10), 400000000000L);
        due("Y", t.digits(11), 500000000000L);
        due("Z", t.digits(12), 600000000000L);
        due("T", t.digits(13), 264575131106L);
        due("LAST", t.digits(14), 700000000000L);
        due("0", keyed("5NC").digits(10), 0);
        sentence(9, "Likewise the exponent; 0 for 0.");
        due("Z", t.exponent(12), -5);
        due("T", t.exponent(13), 0);
        due("the highest", keyed("9E99t").exponent(9), 99);
        due("the lowest", keyed("9E99NS9E9N9k").exponent(0), -99);
        due("of 0", keyed("0E99").exponent(10), 0);
        due("of what became 0", keyed("5E50=5E50-").exponent(10), 0);
        due("of what was too small", keyed("1E60NS").exponent(10), 0);
        sentence(8, "IndexOutOfBoundsException: another which.");
        for (int which : new int[] {-1, 15, 16, Integer.MAX_VALUE, Integer.MIN_VALUE}) {
            dueRefusedAlways("digits " + which, INDEX, u -> u.digits(which));
            dueRefusedAlways("exponent " + which, INDEX, u -> u.exponent(which));
        }
    }

    private static void storing() {
        sentence(11, "The bytes of a long, the lowest first, become the codes at the places place .. place + 7. "
            + "(Also bytes 0.)");
        TwinEntry t = new TwinEntry();
        t.store(0, 0x0807060504030201L);
        t.store(92, 0xFF00FE0080017F00L);
        String places = "";
        for (int place : new int[] {0, 7, 8, 91, 92, 93, 94, 95, 96, 97, 98, 99}) {
            places += " " + t.code(place);
        }
        due("codes", places, " 1 8 0 0 0 127 1 128 0 254 0 255");
        t.store(1, 0x0900000000000000L);
        places = "";
        for (int place = 0; place < 10; place++) {
            places += " " + t.code(place);
        }
        due("bytes 0, too", places, " 1 0 0 0 0 0 0 0 9 0");
        sentence(11, "IllegalStateException: a program or the solver runs; IndexOutOfBoundsException: place is not "
            + "0 .. 92.");
        dueRefusedWhileItRuns("store", u -> u.store(1, 0));
        for (int place : new int[] {-1, 93, 99, 100, Integer.MAX_VALUE, Integer.MIN_VALUE}) {
            dueRefused("store at " + place, INDEX, BoundariesOfCallsTest::nothingRuns, u -> u.store(place, -1));
        }
        TwinEntry u = programRuns();
        dueThrow("store while a program runs", STATE, () -> u.store(0, 0x0102030405060708L));
        TwinEntry v = nothingRuns();
        dueThrow("store at 93", INDEX, () -> v.store(93, 0x0102030405060708L));
        for (int place = 0; place < 100; place++) {
            int want = place == 0 ? 128 : place == 1 ? '1' : place == 2 ? '+' : place == 3 ? 136 : 0;
            due("the code at " + place + " has stayed", u.code(place) + " " + v.code(place), want + " " + want);
        }
    }

    private static void codes() {
        sentence(12, "The code at a place. IndexOutOfBoundsException: place is not 0 .. 99.");
        TwinEntry t = new TwinEntry();
        t.store(92, 0x0700000000000000L);
        t.store(0, 6);
        due("at 0", t.code(0), 6);
        due("at 99", t.code(99), 7);
        for (int place : FAR) {
            dueRefusedAlways("code at " + place, INDEX, u -> u.code(place));
        }
        due("while a program runs", programRuns().code(0), 128);
        due("while the solver runs", solverRuns().code(1), (int) 'k');
    }

    /** All that is kept for undoing, as it can be seen. */
    private static String kept(TwinEntry t) {
        StringBuilder seen = new StringBuilder(line(t));
        for (int which = 0; which < 15; which++) {
            seen.append(' ').append(number(t, which));
        }
        for (int what = 5; what < 9; what++) {
            seen.append(' ').append(t.state(what));
        }
        return seen.toString();
    }

    private static void dueUndone(int model, String keys) {
        TwinEntry t = new TwinEntry();
        t.model(model);
        String[] before = new String[keys.length()];
        for (int i = 0; i < keys.length(); i++) {
            before[i] = kept(t);
            due("key " + keys.charAt(i), t.press(keys.charAt(i)), 0);
            due("how many can be undone", t.state(9), Math.min(i + 1, 5));
        }
        for (int i = keys.length() - 1; i >= Math.max(keys.length() - 5, 0); i--) {
            due("undo", t.undo(), true);
            due("as before key " + keys.charAt(i), kept(t), before[i]);
        }
        due("nothing more", t.undo(), false);
        due("nothing has changed by that", t.state(9), 0);
        if (keys.length() >= 5) {
            due("as before the fifth", kept(t), before[keys.length() - 5]);
        }
    }

    /** X when the row that comes back is closed. */
    private static void dueRowUndone(String keys, String key, String want) {
        TwinEntry t = formula(keys);
        int things = t.state(5);
        due("key " + key, press(t, key), 0);
        due("undo", t.undo(), true);
        due("things of " + keys, t.state(5), things);
        due("closed", press(t, "="), 0);
        due("X by " + keys, number(t, X), want);
    }

    private static void undoing() {
        sentence(17, "Kept are numbers, registers, LIFT, row, place and entry as they were before each key pressed "
            + "that did not fail, and before the solver began when it has found; the latest five of these.");
        String[] onStack = {"5", "1=2+3", "1.5NE", "2E3NB", "5kCBa", "3S4W8", "1=2=3", "DWLQS", "+-*tj", "12BBB"};
        for (String keys : onStack) {
            dueUndone(0, keys);
        }
        for (String keys : new String[] {"1+2*3", "*3+4=", "(1)Q=", "((1))", "5k+aS", "1.E5N", "2BCNB"}) {
            dueUndone(1, keys);
        }
        dueRowUndone("1+2*(3-4", "=", "-100000000000E0");
        // The key has put another thing into the row.
        dueRowUndone("3*2", "+", "600000000000E0");
        dueRowUndone("3-2", "*", "100000000000E0");
        dueRowUndone("(1+(2+(3+(4*5", "+", "260000000000E1");
        dueRowUndone("(1+(2+(3+(4*5", "-", "260000000000E1");
        TwinEntry failed = keyed("12");
        press(failed, "x");
        press(failed, "(");
        due("keys that fail are not kept", failed.state(9), 2);
        TwinEntry solver = programmed(128, "k2-", 0);
        press(solver, "6k1=3");
        String before = kept(solver);
        int count = solver.state(9);
        solver.solve(0);
        due("not kept while it runs", solver.state(9), count);
        solver.run(500);
        due("kept when it has found", solver.state(9), Math.min(count + 1, 5));
        due("undo", solver.undo(), true);
        due("as before the solver began", kept(solver), before);
        TwinEntry few = programmed(128);
        few.solve(0);
        few.run(1);
        due("the first to be kept", few.state(9), 1);
    }

    private static void latestFive() {
        sentence(17, "What is kept latest for undoing comes back, and is not kept any more: true; false when "
            + "nothing is kept.");
        dueUndone(0, "123456");
        dueUndone(0, "1=2+3*4-5/6S7Q");
        dueUndone(1, "(1+2)*3-(4/5)+6");
        TwinEntry t = keyed("1234567");
        due("kept", t.state(9), 5);
        for (int i = 0; i < 3; i++) {
            due("undo", t.undo(), true);
        }
        due("line", line(t), " 1234");
        due("kept", t.state(9), 2);
        press(t, "89");
        due("kept", t.state(9), 4);
        press(t, "01");
        due("kept", t.state(9), 5);
        for (int i = 0; i < 5; i++) {
            due("undo", t.undo(), true);
        }
        due("line", line(t), " 123");
        due("nothing is kept", t.undo(), false);
        due("nothing is kept", t.undo(), false);
        due("line", line(t), " 123");
        press(t, "x");
        due("nothing is kept", t.undo(), false);
        due("the fault stays then", t.state(1), 1);
        press(t, "4");
        due("a key again", t.state(9), 1);
        due("line", line(undone(t)), " 123");
        sentence(17, "A key by which nothing happens is kept like others.)");
        TwinEntry none = keyed("1..E.E");
        due("kept", none.state(9), 5);
        due("undo", line(undone(none)), " 1.E+");
        due("undo", line(undone(none)), " 1.E+");
        due("undo", line(undone(none)), " 1.");
        due("undo", line(undone(none)), " 1.");
        due("undo", line(undone(none)), " 1");
        TwinEntry clear = keyed("C");
        due("a key that leaves all as it was", clear.state(9), 1);
    }

    private static void programsAndUndoing() {
        sentence(17, "(Keys of a program are not kept one by one: what was before the key that started it is, "
            + "however it ends; of a solver that fails or is stopped nothing is kept.");
        for (int end : new int[] {0, 152, 153, 200, 143, -1}) {
            TwinEntry t = programmed(128, "78k+", end < 0 ? 136 : end);
            press(t, "1=2");
            String before = kept(t);
            press(t, CALL_0);
            due("the key that started it is kept while it runs", t.state(9), 4);
            t.run(500);
            t.stop();
            due("and when it is over by " + end, t.state(9), 4);
            due("undo", t.undo(), true);
            due("as before the start", kept(t), before);
            due("three keys more", t.state(9), 3);
        }
        for (int end : new int[] {0, 200, -1}) {
            Making before = () -> {
                TwinEntry t = programmed(128, "1k", end < 0 ? 136 : end);
                press(t, "1=2");
                return t;
            };
            dueSame("nothing of the solver is kept", before, t -> {
                t.solve(0);
                t.run(500);
                due("it was stopped", t.stop(), end < 0);
            });
        }
    }

    private static void undoIsRefused() {
        sentence(17, "IllegalStateException: a program or the solver runs.");
        dueRefusedWhileItRuns("undo", t -> t.undo());
        Making nothingKept = () -> {
            TwinEntry t = programmed(128, 136);
            press(t, "1=2");
            for (int i = 0; i < 3; i++) {
                t.undo();
            }
            t.solve(0);
            return t;
        };
        dueRefused("undo of nothing while the solver runs", STATE, nothingKept, t -> t.undo());
    }

    private static String whatRuns(TwinEntry t) {
        return t.state(2) + " " + t.state(3) + " " + t.state(4);
    }

    private static void states() {
        sentence(18, "Of the calculator: 0 the model, 1 the fault that is shown");
        due("0", nothingRuns().state(0) + " " + formulaRuns().state(0), "0 1");
        TwinEntry failed = formulaRuns();
        press(failed, "(");
        due("1", formulaRuns().state(1) + " " + failed.state(1), "0 5");
        sentence(18, "5 how many things the row has, 6 the place DONE, WANTS or HAS, 7 whether there is an entry "
            + "(1) or not (0), 8 whether LIFT is on, 9 how many can be undone");
        due("5", formula("").state(5) + " " + formulaRuns().state(5) + " " + formula("((((((((").state(5), "0 3 8");
        due("6", formula("1=").state(6) + " " + formula("1+").state(6) + " " + formula("1").state(6), "0 1 2");
        due("7", keyed("5").state(7) + " " + keyed("5=").state(7), "1 0");
        due("8", keyed("5W").state(8) + " " + keyed("5=").state(8), "1 0");
        due("9", keyed("").state(9) + " " + keyed("1234").state(9) + " " + keyed("123456").state(9), "0 4 5");
        sentence(18, "2 what runs (0 nothing, 1 a program, 2 the solver), 3 the place of what runs (100 for all "
            + "behind 99, -1 when nothing runs), 4 how many calls are under way there (0 when nothing runs)");
        due("nothing runs", whatRuns(nothingRuns()), "0 -1 0");
        due("a program", whatRuns(programRuns()), "1 3 0");
        due("the solver", whatRuns(solverRuns()), "2 3 0");
        TwinEntry t = new TwinEntry();
        store(t, 92, 0, 0, 0, 0, 0, 128, 145, 129);
        press(t, "5" + CALL_0);
        due("place 98", t.state(3), 98);
        t.run(1);
        due("behind 99, in a call", t.state(3) + " " + t.state(4), "100 1");
        t.stop();
        due("stopped", t.state(3) + " " + t.state(4), "-1 0");
        store(t, 92, 0, 0, 0, 0, 0, 0, 128, 154);
        press(t, "5" + CALL_0);
        t.run(1);
        due("two behind 99", t.state(3), 100);
        sentence(18, "10 how many values the solver has begun to take since it began last (0 before); -1 for "
            + "another what.");
        TwinEntry s = programmed(128, "5-", 0);
        press(s, "1=9");
        due("before", s.state(10), 0);
        s.solve(0);
        due("the first", s.state(10), 1);
        s.run(3);
        due("the second", s.state(10), 2);
        s.run(3);
        due("the third", s.state(10), 3);
        s.run(3);
        due("found", s.state(10), 3);
        s.undo();
        due("undone", s.state(10), 3);
        s.solve(0);
        due("begun again", s.state(10), 1);
        s.stop();
        due("stopped", s.state(10), 1);
        s.model(1);
        due("another model", s.state(10), 1);
        for (int what : new int[] {-1, 11, 12, 100, Integer.MAX_VALUE, Integer.MIN_VALUE}) {
            due("state " + what, nothingRuns().state(what) + " " + solverRuns().state(what), "-1 -1");
        }
    }

    private static void fault() {
        sentence(18, "THE FAULT that is shown is at first 0; it is that by which a key, a program or the solver "
            + "failed last; a key that does not fail, undo() that answers true, model() and solve() that answers 0 "
            + "make it 0.");
        TwinEntry t = programmed(128, "0I", 0, 129, "S", 0);
        due("at first", t.state(1), 0);
        press(t, "1=2");
        press(t, "x");
        due("a key", t.state(1), 1);
        press(t, "\u0092");
        due("another key", t.state(1), 7);
        due("nothing of these makes it 0", untouched(t), 7);
        press(t, CALL_0);
        due("a key that starts a program does not fail", t.state(1), 0);
        t.run(500);
        due("a program", t.state(1), 3);
        due("undo", t.undo(), true);
        due("undo makes it 0", t.state(1), 0);
        due("solve that fails", t.solve(2), 7);
        due("fault", t.state(1), 7);
        due("solve that begins", t.solve(1), 0);
        due("makes it 0", t.state(1), 0);
        t.run(500);
        due("the solver", t.state(1), 9);
        dueThrow("model that throws", ARGUMENT, () -> t.model(2));
        dueThrow("solve that throws", ARGUMENT, () -> t.solve(8));
        due("leaves it", t.state(1), 9);
        t.model(0);
        due("model makes it 0", t.state(1), 0);
        press(t, "x");
        due("undo answers false", t.undo(), false);
        due("and leaves it", t.state(1), 1);
        due("a key by which nothing happens", press(t, "1.."), 0);
        due("makes it 0", t.state(1), 0);
    }

    /** The fault behind calls that leave it. */
    private static int untouched(TwinEntry t) {
        t.press(0);
        t.run(500);
        t.stop();
        t.mode(1, 3);
        t.store(50, 1);
        t.code(50);
        t.digits(10);
        t.exponent(10);
        t.type(pack("1+2"));
        t.translate();
        t.out(0);
        t.wipe();
        t.shown(0);
        return t.state(1);
    }

    private static void manyCalls() {
        sentence(1, "An object is used for at most 512 calls after it has been made");
        TwinEntry t = new TwinEntry();
        t.press('1');
        for (int i = 0; i < 508; i++) {
            t.press(pack("=1+"));
        }
        due("the 510th and 511th call", number(t, X), "509000000000E2");
        due("the 512th call", t.undo(), true);
    }
}
