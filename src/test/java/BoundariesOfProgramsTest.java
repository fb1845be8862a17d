/** Boundary cases of the document's terms PROGRAMS and THE SOLVER. */
public final class BoundariesOfProgramsTest extends Boundaries {
    private static final String CALL_0 = "\u0090";
    private static final String CALL_1 = "\u0091";
    private static final String CALL_7 = "\u0097";

    private BoundariesOfProgramsTest() {
    }

    public static void main(String[] args) {
        places();
        labelsAndRegisters();
        tests();
        counting();
        whereLabelsAre();
        starting();
        steps();
        calls();
        ends();
        entriesInPrograms();
        stepsThatFail();
        endsOfTheSolver();
        valuesAreTaken();
        valueOfA();
        valueOfB();
        middle();
        middleIsAnEnd();
        middleIsFound();
        middleTakesAPlace();
        hundredValues();
        fromValueToValue();
        found();
        solverFails();
        endOfSentences("BoundariesOfProgramsTest");
    }

    /** An object with the program, keyed as told, where nothing runs yet. */
    private static TwinEntry ready(String keys, Object... parts) {
        TwinEntry t = programmed(parts);
        due("keys " + keys, press(t, keys), 0);
        return t;
    }

    /** An object whose program, behind label 0, has made so many steps. */
    private static TwinEntry after(int steps, String keys, Object... parts) {
        TwinEntry t = ready(keys + CALL_0, parts);
        due("something runs still", t.run(steps), 1);
        return t;
    }

    private static void dueEnd(String what, TwinEntry t, int steps) {
        due(what + ": runs until the last step", t.run(steps - 1), 1);
        due(what + ": the last step", t.run(1), 0);
        due(what + ": nothing runs", t.state(2), 0);
        due(what + ": no fault", t.state(1), 0);
    }

    // ---- programs

    private static void places() {
        sentence(12, "There are 100 codes, at the places 0 .. 99, at first all 0.");
        TwinEntry t = new TwinEntry();
        for (int place = 0; place < 100; place++) {
            due("code at " + place, t.code(place), 0);
        }
        dueThrow("code at 100", INDEX, () -> t.code(100));
        dueThrow("code at -1", INDEX, () -> t.code(-1));
        store(t, 92, 0, 0, 0, 0, 0, 0, 128, '7');
        store(t, 0, 129, '8');
        press(t, CALL_0);
        t.run(500);
        due("the code at 99 is done", line(t), " 7");
        press(t, CALL_1);
        t.run(500);
        due("a label at the place 0", line(t), " 8");
    }

    private static void labelsAndRegisters() {
        sentence(4, "A program may have all keys, and, k being 0 .. 7 and r 0 .. 9: 128 + k LABEL k; 136 + k GO to "
            + "it; 144 + k CALL it; 152 RETURN; 153 STOP");
        for (int k = 0; k < 8; k++) {
            TwinEntry go = ready(k == 1 ? CALL_0 : CALL_1, k == 1 ? 128 : 129, 136 + k, 0, 128 + k, "6");
            due("GO to " + k, go.run(2), 1);
            due("line behind GO to " + k, line(go), " 6");
            TwinEntry call = ready(k == 1 ? CALL_0 : CALL_1, k == 1 ? 128 : 129, 144 + k, "7", 0, 128 + k, 152);
            due("CALL of " + k, call.run(1), 1);
            due("calls under way", call.state(4), 1);
            due("RETURN and a key", call.run(2), 1);
            due("line behind CALL of " + k, line(call), " 7");
            due("label " + k, ready(String.valueOf((char) (144 + k)), 0, 0, 128 + k).state(3), 3);
        }
        String keys = "5.0EN1BCQSNab=jkt+-*WDL";
        TwinEntry t = ready(CALL_0, 128, keys);
        due("all keys", t.run(keys.length()), 1);
        due("to the last", t.state(3), keys.length() + 1);
    }

    private static int placeBehindTest(String keys, int code) {
        return after(1, keys, 128, code, "1", "2").state(3);
    }

    private static void tests() {
        sentence(4, "154 a TEST whether X is 0; 155 a TEST whether X is below 0");
        due("0 is 0", placeBehindTest("0", 154), 2);
        due("the least above 0 is not 0", placeBehindTest("1E99N", 154), 3);
        due("the greatest below 0 is not 0", placeBehindTest("1NE99N", 154), 3);
        due("what is too small is 0", placeBehindTest(".9E9N9", 154), 2);
        due("0 is not below 0", placeBehindTest("0", 155), 3);
        due("-0 is not below 0", placeBehindTest("0N", 155), 3);
        due("the least above 0 is not below", placeBehindTest("1E99N", 155), 3);
        due("the greatest below 0 is", placeBehindTest("1NE99N", 155), 2);
    }

    private static void dueCount(String keys, int place, String register) {
        TwinEntry t = after(1, keys + "k", 128, 156, "1", "2");
        due("place behind COUNT of " + keys, t.state(3), place);
        due("register behind COUNT of " + keys, number(t, 0), register);
    }

    private static void counting() {
        sentence(4, "156 + r COUNT: register r becomes 1 less, rounded, and it is a TEST whether it is above 0 then.");
        dueCount("2", 2, "100000000000E0");
        dueCount("1", 3, "0E0");
        dueCount("0", 3, "-100000000000E0");
        dueCount("1N", 3, "-200000000000E0");
        dueCount("1.00000000001", 2, "100000000000E-11");
        dueCount(".999999999999", 3, "-100000000000E-12");
        dueCount("1E99N", 3, "-100000000000E0");
        dueCount("1E99", 2, "100000000000E99");
        dueCount("9.99999999999NE99", 3, "-999999999999E99");
        dueCount("1E12", 2, "999999999999E11");
        dueCount("1E13", 2, "100000000000E13");
        for (int r = 0; r < 10; r++) {
            TwinEntry t = after(1, "5" + (char) ('k' + r), 128, 156 + r, "1", "2");
            due("register " + r, number(t, r), "400000000000E0");
            due("X is left by COUNT", number(t, X), "500000000000E0");
        }
    }

    private static void whereLabelsAre() {
        sentence(4, "Where label k is: at the least place with the code 128 + k; fault 7 if there is none.");
        due("the first of two", ready(CALL_0, "5", 128, "6", 0, 128, "7").state(3), 2);
        due("GO to the first of two", after(1, "", 128, 137, 0, 129, "6", 0, 129, "7").state(3), 4);
        due("GO back to the first of two", after(1, "", 129, 128, 137, 129, "7").state(3), 1);
        due("CALL of the first of two", after(1, "", 128, 145, 0, 129, "6", 0, 129, "7").state(3), 4);
        TwinEntry last = new TwinEntry();
        store(last, 92, 0, 0, 0, 0, 0, 0, 0, 135);
        due("a label at 99", press(last, CALL_7), 0);
        due("the place behind it", last.state(3), 100);
        dueFails(() -> programmed(128, 129, 130, 131, 132, 133, 134), CALL_7, 7);
        dueFails(() -> programmed(136, 144, 152), CALL_0, 7);
        dueStepFails(() -> after(0, "5", 128, 143), 7);
        dueStepFails(() -> after(0, "5", 128, 151), 7);
        TwinEntry solver = ready("1=2", 128);
        due("the solver's label", solver.solve(7), 7);
        TwinEntry behind = ready("", 128);
        store(behind, 0, 0);
        due("a label that is written over is none", press(behind, CALL_0), 7);
    }

    private static void starting() {
        sentence(3, "144 + k, pressed, ends the entry, and a program RUNS, from the place behind the label, with no "
            + "calls under way.");
        TwinEntry t = ready("C5N" + CALL_0, 0, 128, "7");
        due("no entry", t.state(7), 0);
        due("X stays", number(t, X), "-500000000000E0");
        due("LIFT", t.state(8), 1);
        due("a program runs", t.state(2), 1);
        due("place", t.state(3), 2);
        due("no calls", t.state(4), 0);
        due("without an entry LIFT stays off", ready("C" + CALL_0, 128).state(8), 0);
        due("without an entry LIFT stays on", ready("W" + CALL_0, 128).state(8), 1);
        TwinEntry u = after(1, "", 128, 145, 129, "8", 153);
        due("a call is under way", u.state(4), 1);
        due("STOP in the call", u.run(500), 0);
        due("started again", press(u, CALL_1), 0);
        due("no calls of the one before", u.state(4), 0);
        TwinEntry f = formula("1+(2");
        store(f, 0, 128, '3', ')', '=');
        due("started in a formula", press(f, CALL_0), 0);
        due("no entry", f.state(7), 0);
        due("LIFT", f.state(8), 1);
        due("row and place stay", f.state(5) + " " + f.state(6), "2 2");
    }

    private static void steps() {
        sentence(4, "A STEP does the code at its place, and goes on to the next place: a key does what it does when "
            + "it is pressed; a label does nothing; GO goes on behind the label");
        TwinEntry t = after(0, "3=4", 128, "+", 130, 131, 137, "9", 129, "S");
        int[] place = {2, 3, 4, 7, 8};
        for (int i = 0; i < place.length; i++) {
            due("step " + i, t.run(1), 1);
            due("place behind step " + i, t.state(3), place[i]);
            due("X behind step " + i, number(t, X), i < 4 ? "700000000000E0" : "490000000000E1");
        }
        dueEnd("at the end", t, 1);
        due("GO to the label just before", after(3, "", 128, 136).state(3), 1);
        sentence(4, "a test that does not hold leaves out the next place.");
        due("a key is left out", line(after(2, "5", 128, 154, "6", "7")), " 7");
        due("a key is not left out", line(after(2, "0", 128, 154, "6", "7")), " 6");
        due("GO is left out", after(1, "5", 128, 154, 136, "7").state(3), 3);
        due("a 0 is left out", after(1, "5", 128, 154, 0, "7").state(3), 3);
        due("a label is left out", after(1, "5", 128, 155, 129, "7").state(3), 3);
        due("a test is left out", after(1, "5", 128, 155, 154, "7").state(3), 3);
    }

    private static void calls() {
        sentence(4, "CALL does, too, and is under way then (fault 8, told behind fault 7, if 4 are already); RETURN "
            + "goes on behind the latest call under way, which is over then");
        Object[] chain = {128, 145, 0, 129, 146, 152, 130, 147, 152, 131, 148, 152, 132, 144, 152};
        TwinEntry t = after(4, "", chain);
        due("four calls are under way", t.state(4), 4);
        due("place", t.state(3), 13);
        dueStepFails(() -> after(4, "", chain), 8);
        TwinEntry back = after(0, "", 128, 145, 0, 129, 146, 152, 130, 147, 152, 131, 148, 152, 132, 152);
        int[] places = {4, 7, 10, 13, 11, 8, 5, 2};
        for (int i = 0; i < places.length; i++) {
            back.run(1);
            due("place behind step " + i, back.state(3), places[i]);
            due("calls behind step " + i, back.state(4), i < 4 ? i + 1 : 7 - i);
        }
        dueEnd("all are back", back, 1);
        TwinEntry again = after(9, "", 128, 145, 146, 147, 148, 145, 0, 129, 152, 130, 152, 131, 152, 132, 152);
        due("calls that are over do not count", again.state(3) + " " + again.state(4), "8 1");
        // Four are under way, and there is no such label: 7 is told, not 8.
        dueStepFails(() -> after(4, "", 128, 145, 129, 146, 130, 147, 131, 148, 132, 151), 7);
        TwinEntry last = new TwinEntry();
        store(last, 0, 129, 152);
        store(last, 92, 0, 0, 0, 0, 0, 0, 128, 145);
        press(last, CALL_0);
        due("a call at 99, and RETURN", last.run(2), 1);
        due("behind 99", last.state(3), 100);
        dueEnd("over", last, 1);
    }

    private static void ends() {
        sentence(4, "The program is over, and nothing more is done, at a code 0, behind the place 99, at STOP, and "
            + "at RETURN when no call is under way; to see that is a step, too.");
        TwinEntry zero = ready(CALL_0, 128, "1", 0, "2");
        dueEnd("a code 0", zero, 2);
        due("nothing more is done", line(zero), " 1");
        TwinEntry stop = ready(CALL_0, 128, "1", 153, "2");
        dueEnd("STOP", stop, 2);
        due("nothing more is done", line(stop), " 1");
        TwinEntry back = ready(CALL_0, 128, "1", 152, "2");
        dueEnd("RETURN", back, 2);
        due("nothing more is done", line(back), " 1.00");
        dueEnd("at once", ready(CALL_0, 128), 1);
        dueEnd("STOP in a call", ready(CALL_0, 128, 145, "1", 0, 129, 153), 2);
        dueEnd("a code 0 in a call", ready(CALL_0, 128, 145, "1", 0, 129, 0), 2);
        TwinEntry t = new TwinEntry();
        store(t, 92, 0, 0, 0, 128, '3', 129, '1', 154);
        press(t, CALL_0);
        due("four steps, the last one at 99", t.run(4), 1);
        due("a test that does not hold goes far behind 99", t.state(3), 100);
        dueEnd("behind 99", t, 1);
        due("no entry, by the test", line(t), " 31.00");
        store(t, 92, 0, 0, 0, 0, 128, 154, '8', '9');
        press(t, CALL_0);
        due("the test leaves out 98", t.run(1), 1);
        due("place", t.state(3), 99);
        due("the key at 99", t.run(1), 1);
        due("place", t.state(3), 100);
        dueEnd("behind 99", t, 1);
        due("the entry is left", line(t), " 9");
        store(t, 92, 0, 0, 0, 0, 0, 0, 0, 130);
        press(t, "\u0092");
        dueEnd("a label at 99", t, 1);
        due("nothing is done when it is over", t.run(500), 0);
    }

    private static void entriesInPrograms() {
        sentence(4, "GO, CALL, RETURN (also without a call under way), TEST and COUNT first end an entry; a label, "
            + "STOP and 0 leave it.");
        for (int code : new int[] {136, 137, 144, 145, 152, 154, 155, 156, 165}) {
            TwinEntry t = ready("C" + CALL_0, 128, "5", code, 0, 129);
            t.run(2);
            due("no entry behind " + code, t.state(7), 0);
            due("LIFT behind " + code, t.state(8), 1);
            due("X behind " + code, number(t, X), "500000000000E0");
        }
        for (int code : new int[] {128, 131, 153, 0}) {
            TwinEntry t = ready("C" + CALL_0, 128, "5", code, 0);
            t.run(2);
            due("the entry behind " + code, line(t), " 5");
            due("LIFT behind " + code, t.state(8), 0);
        }
        TwinEntry called = after(3, "C", 128, 145, 0, 129, "5", 152);
        due("no entry behind RETURN of a call", called.state(7), 0);
        due("entries go on over labels", line(after(3, "", 128, "5", 129, "6")), " 56");
        due("X is what the entry is worth when it is tested", after(2, "1", 128, "0", 154, "6").state(3), 3);
        TwinEntry over = ready("C" + CALL_0, 128, "5", 0);
        over.run(500);
        due("an entry goes on when the program is over", press(over, "6"), 0);
        due("line", line(over), " 56");
    }

    /** The next step fails, and what it would have changed is not changed. */
    private static void dueStepFails(Making making, int fault) {
        TwinEntry failed = making.make();
        TwinEntry stopped = making.make();
        due("the program is over", failed.run(1), 0);
        due("what runs", failed.state(2), 0);
        due("its place", failed.state(3), -1);
        due("its calls", failed.state(4), 0);
        due("fault", failed.state(1), fault);
        stopped.stop();
        due("as before the step", allButFault(failed), allButFault(stopped));
    }

    private static void stepsThatFail() {
        sentence(4, "When a step fails by a fault, also by 1 for codes above 165 and those that are no keys, the "
            + "program is over, and what the step would have changed is not changed.");
        for (int code : new int[] {166, 167, 200, 255, 1, ' ', 'A', '`', 'u', 'x', 127, '(', ')'}) {
            dueStepFails(() -> after(1, "C", 128, "5", code, "6"), 1);
        }
        dueStepFails(() -> after(5, "C", 128, "9E99=", "S"), 2);
        dueStepFails(() -> after(5, "C", 128, "9E99=", "+"), 2);
        dueStepFails(() -> after(4, "C", 128, "99E9", "9"), 2);
        dueStepFails(() -> after(3, "C", 128, "5=0", "/"), 3);
        dueStepFails(() -> after(2, "C", 128, "5N", "Q"), 4);
        dueStepFails(() -> after(1, "C", 128, "5", 143), 7);
        dueStepFails(() -> after(1, "C", 128, "5", 151), 7);
        dueStepFails(() -> after(9, "C", 128, "5", 144), 8);
        dueStepFails(() -> inFormula("1+", 128, "2)"), 5);
        dueStepFails(() -> inFormula("1+", 128, "2W"), 1);
        dueStepFails(() -> inFormula("((((((((", 128, "2+"), 6);
        dueStepFails(() -> inFormula("1+2*3/", 128, "0="), 3);
        TwinEntry t = after(1, "", 128, "5", 200, "6");
        t.run(500);
        due("nothing more is done", line(t), "FAULT 1");
        due("X", number(t, X), "500000000000E0");
        due("what was before the start is kept", t.state(9), 1);
    }

    /** The program's first step is made. */
    private static TwinEntry inFormula(String keys, Object... parts) {
        TwinEntry t = formula(keys);
        store(t, 0, codes(parts));
        press(t, CALL_0);
        due("something runs still", t.run(1), 1);
        return t;
    }

    // ---- the solver

    /** The solver has begun between a and b, for label 0, and made so many steps. */
    private static TwinEntry solving(int steps, String keys, Object... parts) {
        TwinEntry t = ready(keys, parts);
        due("the solver begins", t.solve(0), 0);
        due("something runs still", t.run(steps), 1);
        return t;
    }

    /** The solver has found. */
    private static TwinEntry solved(String keys, Object... parts) {
        TwinEntry t = ready(keys, parts);
        due("the solver begins", t.solve(0), 0);
        due("it is over", t.run(500), 0);
        due("no fault", t.state(1), 0);
        return t;
    }

    private static void endsOfTheSolver() {
        sentence(6, "finds where its program comes to 0, between a, which is Y as it begins, and b, which is X.");
        TwinEntry t = solving(0, "7=3", 128, "5-", 0);
        due("a is Y", stack(t), " 7 7 7 7 0");
        t.run(3);
        due("b is X, also an entry", stack(t), " 3 3 3 3 5");
        due("b is X, without an entry", stack(solving(3, "7=3W", 128, "5-", 0)), " 7 7 7 7 5");
        due("found between them", number(solved("7=3", 128, "5-", 0), X), "500000000000E0");
        due("found, the ends exchanged", number(solved("3=7", 128, "5-", 0), X), "500000000000E0");
    }

    private static void valuesAreTaken() {
        sentence(6, "X, Y, Z, T become v, LIFT is on, there is no entry, and the program runs from the place behind "
            + "label k, with no calls under way, until it is over; the value is X then.");
        // The program is over in a call, with an entry and LIFT off.
        TwinEntry t = solving(0, "C1=2=3=4", 0, 128, 145, 0, 129, "CC", "5", 153);
        for (int value = 1; value <= 2; value++) {
            String v = value == 1 ? " 3" : " 4";
            due("numbers of value " + value, stack(t), v + v + v + v + " 0");
            due("LIFT", t.state(8), 1);
            due("no entry", t.state(7), 0);
            due("place behind the label", t.state(3), 2);
            due("no calls under way", t.state(4), 0);
            due("in the call", t.run(1), 1);
            due("calls under way", t.state(4), 1);
            due("LIFT is off, and an entry there", t.run(3), 1);
            due("LIFT", t.state(8), 0);
            due("entry", t.state(7), 1);
            due("the value's last step", t.run(1), value == 1 ? 1 : 0);
        }
        due("the values of both were what the entry was worth", t.state(1), 9);
        for (int end : new int[] {0, 152, 153}) {
            due("a value's end by " + end, solving(2, "7=3", 128, "5", end, "6").state(10), 2);
        }
        TwinEntry last = keyed("7=3");
        store(last, 92, 0, 0, 0, 0, 0, 0, 128, '5');
        last.solve(0);
        last.run(2);
        due("a value's end behind 99", last.state(10), 2);
    }

    private static void valueOfA() {
        sentence(6, "First the value of a is taken. If it is 0, a is FOUND, and both ends are a.");
        TwinEntry t = solved("5=9", 128, "5-", 0);
        due("X, Y, Z, T", stack(t), " 5 0 5 5 5");
        due("one value", t.state(10), 1);
        TwinEntry same = solved("5=5", 128, "5-", 0);
        due("X, Y, Z, T", stack(same), " 5 0 5 5 5");
        due("one value", same.state(10), 1);
        due("0 is found", stack(solved("0=9", 128, 0)), " 0 0 0 0 0");
    }

    private static void valueOfB() {
        sentence(6, "Otherwise that of b; if it is 0, b is found, and both ends are b; if it has the same sign as "
            + "the other one, that is fault 9.");
        TwinEntry t = solved("9=5", 128, "5-", 0);
        due("X, Y, Z, T", stack(t), " 5 0 5 5 5");
        due("two values", t.state(10), 2);
        for (String keys : new String[] {"7=9", "9=7", "1=3", "3=1", "7=7"}) {
            TwinEntry none = ready(keys, 128, "5-", 0);
            none.solve(0);
            due("it is over", none.run(6), 0);
            due("the same sign at " + keys, none.state(1), 9);
            due("two values at " + keys, none.state(10), 2);
        }
    }

    /** By the program a N k the sign changes from value to value, whatever the number. */
    private static void dueMiddle(String keys, String want) {
        due("m between " + keys, number(solving(8, "1k" + keys, 128, "aNk", 0), X), want);
    }

    private static void middle() {
        sentence(6, "m is a + (b - a) / 2, each of the three operations being rounded.");
        dueMiddle("1=2", "150000000000E0");
        dueMiddle("2=1", "150000000000E0");
        dueMiddle("3N=9", "300000000000E0");
        // b - a, 1.000000000001, is rounded down to 1.
        dueMiddle("1NE12N=1", "499999999999E-1");
        // .666666666667 / 2 is rounded up to an even digit.
        dueMiddle(".333333333333=1", "666666666667E-1");
        // 1.000000000015 is rounded up to an even digit.
        dueMiddle("1=1.00000000003", "100000000002E0");
        TwinEntry wide = ready("9NE99=9E99", 128);
        wide.solve(0);
        due("b - a is too large", wide.run(500), 0);
        due("fault 2", wide.state(1), 2);
        TwinEntry close = solving(2, "1NE99N=1E99N", 128, 0);
        due("0 is between the least numbers", stack(close), " 0 0 0 0 0");
    }

    private static void middleIsAnEnd() {
        sentence(6, "If m is a or b: the end whose value is less in size is found, a if neither is.");
        due("a and b are the same", stack(solved("5k2=2", 128, "aNk", 0)), " 2 -5 2 2 0");
        TwinEntry isA = solved("5k1=1.00000000001", 128, "aNk", 0);
        due("m is a: X", number(isA, X), "100000000000E0");
        due("m is a: T", number(isA, T), "100000000001E0");
        due("m is a: two values", isA.state(10), 2);
        TwinEntry isB = solved("5k1.00000000001=1.00000000002", 128, "aNk", 0);
        due("m is b, and a is found: X", number(isB, X), "100000000001E0");
        due("m is b, and a is found: Y", number(isB, Y), "-500000000000E0");
        due("m is b: T", number(isB, T), "100000000002E0");
        due("m is b: two values", isB.state(10), 2);
        due("(b - a) / 2 is 0", number(solved("5k1E99N=2E99N", 128, "aNk", 0), X), "100000000000E-99");
        due("that of b is less", stack(solved("8k2=2", 128, "a2N/k", 0)), " 2 2 2 2 -2");
        due("that of a is less", stack(solved("1k2=2", 128, "a2N*k", 0)), " 2 -2 2 2 -2");
        TwinEntry nine = solved("9k1.00000000001=1.00000000002", 128, "aN1-k", 0);
        due("9 is less than 10", number(nine, X), "100000000002E0");
        due("its value", number(nine, Y), "900000000000E0");
        TwinEntry ten = solved("10Nk1=1.00000000001", 128, "aN1-k", 0);
        due("9 is less than 10", number(ten, X), "100000000000E0");
        due("its value", number(ten, Y), "900000000000E0");
    }

    private static void middleIsFound() {
        sentence(6, "Otherwise the value of m is taken; if it is 0, m is found, and both ends are m");
        TwinEntry t = solved("0=4", 128, "2-", 0);
        due("X, Y, Z, T", stack(t), " 2 0 2 2 2");
        due("three values", t.state(10), 3);
    }

    private static void middleTakesAPlace() {
        sentence(6, "otherwise m takes the place of that end whose value has the same sign.");
        due("that of b", number(solving(9, "0=4", 128, "1-", 0), X), "100000000000E0");
        due("that of a", number(solving(9, "0=4", 128, "3-", 0), X), "300000000000E0");
        due("that of a, which is above", number(solving(9, "4=0", 128, "1-", 0), X), "100000000000E0");
        due("that of b, which is below", number(solving(9, "4=0", 128, "3-", 0), X), "300000000000E0");
        TwinEntry t = solved("1=2", 128, "S2-", 0);
        due("a in the end", number(t, Z), "141421356237E0");
        due("b in the end", number(t, T), "141421356238E0");
        due("the value that came with a", number(t, Y), "-100000000000E-11");
    }

    /** Values are the numbers themselves, but the one when register 0 has come to 0 is 0. */
    private static TwinEntry counting(String values) {
        return ready(values + "k1N=2", 128, 156, 137, "C", 0, 129, 0);
    }

    private static void hundredValues() {
        sentence(6, "When it would take its 101st value, that is fault 9 instead.");
        TwinEntry hundred = counting("100");
        hundred.solve(0);
        due("over", hundred.run(500), 0);
        due("found by the 100th value", hundred.state(1), 0);
        due("100 values", hundred.state(10), 100);
        due("its value is Y", number(hundred, Y), "0E0");
        TwinEntry more = counting("101");
        more.solve(0);
        due("297 steps for 99 values, and two of the next", more.run(299), 1);
        due("the 100th value", more.state(10), 100);
        due("it is not found by this one", more.run(1), 0);
        due("fault 9", more.state(1), 9);
        due("100 values", more.state(10), 100);
        dueSame("all is as before", () -> counting("101"), t -> {
            t.solve(0);
            t.run(500);
        });
    }

    private static void fromValueToValue() {
        sentence(6, "Registers and LAST are as the programs left them, from value to value, and when an end is "
            + "found.");
        TwinEntry t = solving(0, "8k9=5", 128, "k5-", 0);
        due("register before", number(t, 0), "800000000000E0");
        t.run(4);
        due("register at the second value", number(t, 0), "900000000000E0");
        due("LAST at the second value", number(t, LAST), "500000000000E0");
        due("found", t.run(4), 0);
        due("register when b is found", number(t, 0), "500000000000E0");
        due("LAST when b is found", number(t, LAST), "500000000000E0");
        TwinEntry m = solved("0=4", 128, "kS4-", 0);
        due("register when m is found", number(m, 0), "200000000000E0");
        due("LAST when m is found", number(m, LAST), "400000000000E0");
    }

    private static void found() {
        sentence(6, "When an end is found: X becomes it, Y its value, Z a, T b (the ends as they are then); LIFT is "
            + "on, there is no entry, and it is over.");
        TwinEntry t = solved("5=9", 128, "C0", 0);
        due("X, Y, Z, T", stack(t), " 5 0 5 5 0");
        due("LIFT", t.state(8), 1);
        due("no entry", t.state(7), 0);
        due("it is over", t.state(2), 0);
        due("no place", t.state(3), -1);
        due("no calls", t.state(4), 0);
        TwinEntry halves = solved("1=2", 128, "S2-C.0E", 0);
        due("an entry was under way", stack(halves), " 1 0 1 1 2");
        TwinEntry b = solved("2=1", 128, "S2-", 0);
        due("b is X", number(b, X), "141421356237E0");
        due("its value is Y", number(b, Y), "-100000000000E-11");
        due("Z is a", number(b, Z), "141421356238E0");
        due("T is b", number(b, T), "141421356237E0");
        due("LIFT", b.state(8), 1);
    }

    private static void dueSolverFails(int fault, String keys, Object... parts) {
        dueSame("fault " + fault + ", all is as before", () -> ready(keys, parts), t -> {
            due("begins", t.solve(0), 0);
            due("it is over", t.run(500), 0);
            due("what runs", t.state(2), 0);
            due("fault", t.state(1), fault);
        });
    }

    private static void solverFails() {
        sentence(6, "When it fails, by any fault, it is over, and all numbers, registers, LIFT, row, place and "
            + "entry are as they were before it began.");
        String keys = "7k8l3S1=2";
        dueSolverFails(1, keys, 128, "kSl", 200);
        dueSolverFails(2, keys, 128, "kSl9E99S");
        dueSolverFails(3, keys, 128, "kSlCI");
        dueSolverFails(4, keys, 128, "kSl5NQ");
        dueSolverFails(7, keys, 128, "kSl", 143);
        dueSolverFails(8, keys, 128, "kSl", 144);
        dueSolverFails(9, keys, 128, "kSl", 0);
        dueSolverFails(9, "3kW", 128, "kC4", 0);
        // The value of a is there, and that of b fails.
        dueSolverFails(3, "7k1N=0", 128, "kIl", 0);
        dueSolverFails(2, "7k9NE99=9E99", 128, "l", 0);
    }
}
