/** The promises of the document, by number: ordinary inputs, edges, wrong inputs. */
public final class PromisesTest extends Checks {
    private PromisesTest() {
    }

    public static void main(String[] args) {
        promise1NewObject();
        promise2Model();
        promise3Entry();
        promise3EntryFaults();
        promise3Stack();
        promise3Lift();
        promise3Formulas();
        promise3FormulaFaults();
        promise3Rounding();
        promise3Press();
        promise4Run();
        promise4Codes();
        promise4ProgramFaults();
        promise5Stop();
        promise6Solve();
        promise6SolverEnds();
        promise6SolverFaults();
        promise7Shown();
        promise7Fixed();
        promise7Scientific();
        promise8And9Numbers();
        promise10Mode();
        promise11And12Codes();
        promise13And14Text();
        promise15Translate();
        promise15Refusals();
        promise15SameResult();
        promise16Out();
        promise17Undo();
        promise18State();
        end("PromisesTest");
    }

    // ---- promises

    private static void promise1NewObject() {
        TwinEntry t = new TwinEntry();
        int[] want = {0, 0, 0, -1, 0, 0, 0, 0, 0, 0, 0};
        for (int i = 0; i < want.length; i++) {
            due("state " + i + " of a new object", t.state(i), want[i]);
        }
        for (int i = 0; i < 15; i++) {
            due("number " + i + " of a new object", number(t, i), "0E0");
        }
        for (int i = 0; i < 100; i++) {
            due("code " + i + " of a new object", t.code(i), 0);
        }
        due("line of a new object", wholeLine(t), " 0.00               ");
        due("text of a new object", t.wipe(), 0);
        dueThrow("OUT of a new object", INDEX, () -> t.out(0));
        due("nothing runs", t.run(500), 0);
        due("nothing to stop", t.stop(), false);
        due("nothing to undo", t.undo(), false);
    }

    private static void promise2Model() {
        TwinEntry t = keyed("7k2=3=4+5");
        store(t, 3, 128, 'N');
        t.mode(1, 3);
        type(t, "1+2");
        t.translate();
        press(t, "x");
        t.model(1);
        due("model", t.state(0), 1);
        due("numbers", stack(t), " 0 0 0 0 0");
        due("the register stays", number(t, 0), "700000000000E0");
        due("program stays", t.code(4), (int) 'N');
        due("mode stays", line(t), " 0.000E+00");
        due("OUT stays", t.out(3), (int) '+');
        due("nothing to undo", t.state(9), 0);
        due("the fault is 0", t.state(1), 0);
        due("no entry", t.state(7), 0);
        due("LIFT off", t.state(8), 0);
        press(t, "2*(3");
        t.model(1);
        due("row is empty", t.state(5), 0);
        due("place DONE", t.state(6), 0);
        due("X is 0, in the same model", number(t, X), "0E0");
        due("text stays", t.wipe(), 3);
        dueThrow("model 2", ARGUMENT, () -> t.model(2));
        dueThrow("model -1", ARGUMENT, () -> t.model(-1));
        press(t, "\u0090");
        due("a program runs", t.state(2), 1);
        dueThrow("model when a program runs", STATE, () -> t.model(0));
        dueThrow("wrong model when a program runs", STATE, () -> t.model(2));
    }

    private static void promise3Entry() {
        dueX("123456789012", "123456789012E11");
        dueX("1234567890123", "123456789012E11");
        dueX(".5", "500000000000E-1");
        dueX("0.05", "500000000000E-2");
        dueX("000000000009", "900000000000E0");
        dueX("0000000000099", "900000000000E0");
        dueX("5.", "500000000000E0");
        dueX("1.2.3", "123000000000E0");
        dueX("E", "100000000000E0");
        dueX("E5", "100000000000E5");
        dueX(".E5", "100000000000E5");
        dueX("0E5", "0E0");
        dueX("2E5N", "200000000000E-5");
        dueX("2E5NN", "200000000000E5");
        dueX("2NE5", "-200000000000E5");
        dueX("2E123", "200000000000E12");
        dueX("2E.5", "200000000000E5");
        dueX("2E3E4", "200000000000E34");
        dueX("1E9N9", "100000000000E-99");
        dueX(".9E9N9", "0E0");
        dueX("9NBB", "0E0");
        dueX("9.99999999999E99", "999999999999E99");
        dueLine("1.50N", "-1.50");
        dueLine(".", " .");
        dueLine(".N", "-.");
        dueLine("007", " 007");
        dueLine("12.5E3N", " 12.5E-3");
        dueLine("12.5E", " 12.5E+");
        dueLine("12.5E0", " 12.5E+0");
        dueLine("12.5E12B", " 12.5E+1");
        dueLine("12.5E12BB", " 12.5E+");
        dueLine("12.5E1NBB", " 12.5");
        dueLine("12.5E1NBBE", " 12.5E+");
        dueLine("12.5B", " 12.");
        dueLine("12.5BB", " 12");
        dueLine("123456789012.E9B", " 123456789012.E+");
        dueLine("123456789012.5B", " 123456789012");
        TwinEntry t = keyed("4=5NBB");
        due("B left no digit, but there was one before: no entry", t.state(7), 0);
        due("X and Y then", stack(t), " 0 4 0 0 0");
        due("LIFT is off then", t.state(8), 0);
        press(t, "8");
        due("the next entry takes the place of 0", stack(t), " 8 4 0 0 0");
        dueLine(".B", " 0.00");
        dueLine("5N=", "-5.00");
    }

    private static void promise3EntryFaults() {
        TwinEntry t = new TwinEntry();
        due("the key that makes it too large", press(t, "99E99"), 2);
        due("X stays", number(t, X), "990000000000E10");
        due("the entry stays", t.press(pack("8")), 0);
        due("X then", number(t, X), "990000000000E99");
        due("line then", line(t), " 99E+98");
        TwinEntry u = keyed("123456789012E9N9");
        due("X with a low exponent", number(u, X), "123456789012E-88");
        dueFault(u, "N", 2);
        due("a key that does not fail", press(u, "B"), 0);
        due("the fault goes", u.state(1), 0);
        due("line then", line(u), " 123456789012E-9");
        TwinEntry v = keyed("5");
        dueFault(v, "(", 1);
        due("the failing key did not end the entry", press(v, "5"), 0);
        due("X then", number(v, X), "550000000000E1");
    }

    private static void promise3Stack() {
        TwinEntry t = keyed("1=2=3=4");
        due("four numbers", stack(t), " 4 3 2 1 0");
        press(t, "-");
        due("Y - X", stack(t), " -1 2 1 1 4");
        press(t, "D");
        due("D", stack(t), " 2 1 1 -1 4");
        press(t, "W");
        due("W", stack(t), " 1 2 1 -1 4");
        press(t, "L");
        due("L", stack(t), " 4 1 2 1 4");
        press(t, "=");
        due("=", stack(t), " 4 4 1 2 4");
        press(t, "L");
        due("L behind =", stack(t), " 4 4 1 2 4");
        press(t, "Q");
        due("Q", stack(t), " 2 4 1 2 4");
        press(t, "S");
        due("S", stack(t), " 4 4 1 2 2");
        press(t, "8*");
        due("*", number(t, X), "320000000000E1");
        dueX("8=2/", "400000000000E0");
        dueX("8=2+", "100000000000E1");
        dueX("8=2-", "600000000000E0");
        dueX("8I", "125000000000E-1");
        dueX("8NI", "-125000000000E-1");
        dueX("8=N", "-800000000000E0");
        dueX("0=N", "0E0");
        dueX("8kCa", "800000000000E0");
        dueX("8t3j*", "240000000000E1");
        dueX("8=B", "0E0");
        TwinEntry faults = keyed("1=0");
        dueFault(faults, "/", 3);
        dueFault(faults, "I", 3);
        dueFault(faults, "(", 1);
        dueFault(faults, ")", 1);
        press(faults, "C1N");
        dueFault(faults, "Q", 4);
        press(faults, "C9E99=");
        dueFault(faults, "S", 2);
        dueFault(faults, "+", 2);
        press(faults, "N");
        dueFault(faults, "-", 2);
        dueFault(faults, "*", 2);
        press(faults, "1E99N");
        dueFault(faults, "/", 2);
    }

    private static void promise3Lift() {
        TwinEntry t = new TwinEntry();
        String keys = "5=WCDBLCNCaCkCQ6.NBB7S=+";
        String want = "001010101010101111100101";
        for (int i = 0; i < keys.length(); i++) {
            press(t, keys.substring(i, i + 1));
            due("LIFT behind key " + i + " of " + keys, t.state(8), want.charAt(i) - '0');
        }
        due("without LIFT X is replaced", stack(keyed("5=6")), " 6 5 0 0 0");
        due("with LIFT X is pushed", stack(keyed("5=W6")), " 6 5 5 0 0");
        due("recalling with LIFT", stack(keyed("5ka")), " 5 5 0 0 0");
        due("recalling behind =", stack(keyed("5k=a")), " 5 5 0 0 0");
        TwinEntry f = formula("5");
        due("LIFT in an entry of a formula", f.state(8), 0);
        press(f, "+");
        due("LIFT when the entry has ended", f.state(8), 1);
        press(f, "CB=");
        due("LIFT stays on in a formula", f.state(8), 1);
        press(f, "7B");
        due("LIFT when B leaves nothing", f.state(8), 0);
        press(f, "QakN=");
        due("LIFT stays off in a formula", f.state(8), 0);
    }

    private static void promise3Formulas() {
        dueFormula("1+2*3=", "700000000000E0");
        dueFormula("(1+2)*3=", "900000000000E0");
        dueFormula("10-2-3=", "500000000000E0");
        dueFormula("16/4/2=", "200000000000E0");
        dueFormula("2*3+4*5=", "260000000000E1");
        dueFormula("2*(3+4*(5-1=", "380000000000E1");
        dueFormula("5=+1=", "600000000000E0");
        dueFormula("+1=", "100000000000E0");
        dueFormula("2+3Q=", "373205080757E0");
        dueFormula("(2+7)Q=", "300000000000E0");
        dueFormula("5N*2=", "-100000000000E1");
        dueFormula("(5)N*2=", "-100000000000E1");
        dueFormula("4k+a=", "800000000000E0");
        dueFormula("3+C=", "300000000000E0");
        dueFormula("3+5B=", "300000000000E0");
        dueFormula("(3)5+1=", "600000000000E0");
        dueFormula("=", "0E0");
        TwinEntry t = formula("1+2*3");
        due("things", t.state(5), 2);
        due("place HAS", t.state(6), 2);
        press(t, "-");
        due("things behind -", t.state(5), 1);
        due("place WANTS", t.state(6), 1);
        due("X is what was closed", number(t, X), "700000000000E0");
        press(t, "k");
        due("k leaves the place", t.state(6), 1);
        due("k stores X", number(t, 0), "700000000000E0");
        press(t, "N");
        due("N without an entry: HAS", t.state(6), 2);
        press(t, "=");
        due("7 - -7", number(t, X), "140000000000E1");
        due("place DONE", t.state(6), 0);
        press(t, "5B");
        due("B leaves the place", t.state(6), 2);
        press(t, "=S");
        due("LAST stays", stack(t), " 0 0 0 0 0");
        for (String key : new String[] {"Q", "S", "N", "C", "B", "a"}) {
            due("place behind " + key, formula(key).state(6), 2);
        }
    }

    private static void promise3FormulaFaults() {
        TwinEntry t = formula("1+");
        dueFault(t, "*", 5);
        dueFault(t, ")", 5);
        dueFault(t, "=", 5);
        dueFault(t, "W", 1);
        dueFault(t, "D", 1);
        dueFault(t, "L", 1);
        press(t, "2");
        dueFault(t, "(", 5);
        dueFault(t, ")", 5);
        press(t, "=");
        dueFault(t, ")", 5);
        TwinEntry deep = formula("((((((((");
        dueFault(deep, "(", 6);
        press(deep, "1");
        dueFault(deep, "+", 6);
        press(deep, ")+");
        due("seven brackets and a number", deep.state(5), 8);
        press(deep, "2");
        dueFault(deep, "*", 6);
        due("+ closes first", press(deep, "+"), 0);
        dueFault(deep, "(", 6);
        TwinEntry full = formula("((((((1+2*3");
        due("six brackets and two numbers", full.state(5), 8);
        due("a key that closes first", press(full, "*4"), 0);
        due("eight again", full.state(5), 8);
        due("closes both", press(full, "+"), 0);
        due("seven", full.state(5), 7);
        TwinEntry zero = formula("2+1/0");
        dueFault(zero, "+", 3);
        dueFault(zero, "=", 3);
        TwinEntry large = formula("1+9E99*9E99");
        dueFault(large, "=", 2);
        dueFault(large, "-", 2);
        dueFault(large, "*", 2);
    }

    private static void promise3Rounding() {
        dueX("2=3/", "666666666667E-1");
        dueX("1=3/", "333333333333E-1");
        dueX("100000000000=.5+", "100000000000E11");
        dueX("100000000001=.5+", "100000000002E11");
        dueX("999999999999=.5+", "100000000000E12");
        dueX("999999999998=.5+", "999999999998E11");
        // Half a unit of the last digit: the even one of two.
        dueX("123456789012=10*5+", "123456789012E12");
        dueX("123456789013=10*5+", "123456789014E12");
        dueX("123456789012=10*4.99999999999+", "123456789012E12");
        dueX("123456789012=10*5.00000000001+", "123456789013E12");
        // A bit far behind the half decides.
        dueX("100000000000=10000.5000001+", "100000010001E11");
        dueX("500000000000=10000.5000001-", "499999989999E11");
        dueX("3.14159265359=5.34989167117*", "168071803717E1");
        // Just below a power of ten the digits are finer.
        dueX("1=1E13N-", "100000000000E0");
        dueX("1=6E13N-", "999999999999E-1");
        dueX("1=5E13N-", "100000000000E0");
        dueX("1=5.00000000001E13N-", "999999999999E-1");
        dueX("1=1E99N-", "100000000000E0");
        dueX("1=1E12N-", "999999999999E-1");
        dueX("1=1N+", "0E0");
        dueX("1E99N=2/", "0E0");
        dueX("9E99N=9E99N-", "0E0");
        dueX("9.99999999998E50N=1E50N*", "0E0");
        dueX("2Q", "141421356237E0");
        dueX("20Q", "447213595500E0");
        dueX("1E99NQ", "316227766017E-50");
        dueX("9.99999999999E99Q", "999999999999E49");
        dueX("9.99999999998E98Q", "316227766017E49");
        dueX("0Q", "0E0");
        dueX("99999999999.9Q", "316227766017E5");
        // The product is just below 1E-99, and is rounded up to it before that is looked at.
        dueX("3.00000000000E50N=3.33333333333E50N*", "0E0");
        dueX("3.00000000002E50N=3.33333333331E50N*", "100000000000E-99");
        dueX("1E99N=1-1+", "0E0");
    }

    private static void promise3Press() {
        TwinEntry t = new TwinEntry();
        due("no key", t.press(0), 0);
        due("bytes 0 between", t.press(0x3200003100000000L), 0);
        due("line", line(t), " 12");
        due("two keys kept", t.state(9), 2);
        due("fails by the third", t.press(pack("3=x45")), 1);
        due("the keys before it are done, those behind not", number(t, X), "123000000000E2");
        due("no key leaves the fault", t.press(0), 0);
        due("fault", t.state(1), 1);
        due("codes above 127", t.press(0xFFL), 1);
        due("a label is no key", t.press(128L), 1);
        due("165", t.press(165L), 1);
        due("GO is no key", t.press(136L), 1);
        due("152", t.press(152L), 1);
        due("143", t.press(143L), 1);
        due("no such label", t.press(144L), 7);
        due("fault 7", t.state(1), 7);
        due("a key that does not fail", t.press(pack("N")), 0);
        due("fault 0", t.state(1), 0);
        store(t, 0, 128, 'N', 0);
        press(t, "5");
        due("starts the program, the keys behind are left", t.press(pack("6\u009077")), 0);
        due("X", number(t, X), "560000000000E1");
        due("the entry has ended", t.state(7), 0);
        due("LIFT", t.state(8), 1);
        due("runs", t.state(2), 1);
        dueThrow("press when a program runs", STATE, () -> t.press(0));
    }

    private static void promise4Run() {
        TwinEntry t = new TwinEntry();
        store(t, 0, codes(128, "1+", 156, 136, 153));
        press(t, "3k0=\u0090");
        due("place at the start", t.state(3), 1);
        due("no steps", t.run(0), 1);
        due("place stays", t.state(3), 1);
        due("three steps", t.run(3), 1);
        due("place behind COUNT", t.state(3), 4);
        due("register", number(t, 0), "200000000000E0");
        due("on", t.run(1), 1);
        due("place behind the label", t.state(3), 1);
        due("seven steps more", t.run(7), 1);
        due("the test did not hold", t.state(3), 5);
        due("to see the end is a step", t.run(1), 0);
        due("X", number(t, X), "300000000000E0");
        due("nothing runs", t.state(3), -1);
        due("nothing runs, nothing is done", t.run(500), 0);
        dueThrow("501 steps", ARGUMENT, () -> t.run(501));
        dueThrow("-1 steps", ARGUMENT, () -> t.run(-1));
        store(t, 8, codes(129, 137));
        press(t, "\u0091");
        due("a loop without end", t.run(500), 1);
        due("goes on", t.run(500), 1);
        TwinEntry f = formula("2*(");
        store(f, 0, codes(128, "3+4)="));
        press(f, "\u0090");
        due("a program of formulas", f.run(500), 0);
        due("X", number(f, X), "140000000000E1");
    }

    private static void promise4Codes() {
        TwinEntry t = new TwinEntry();
        // 0: calls 1, which calls 2; the tests leave out a place.
        store(t, 0, codes(128, 145, "7", 153, 129, "2", 146, "+", 152, 130, "3", 152));
        press(t, "\u0090");
        t.run(1);
        due("one call", t.state(4), 1);
        due("place", t.state(3), 5);
        t.run(2);
        due("two calls", t.state(4), 2);
        due("the entry has ended", t.state(7), 0);
        t.run(1);
        due("an entry", t.state(7), 1);
        t.run(1);
        due("RETURN", t.state(3), 7);
        due("one call", t.state(4), 1);
        due("RETURN ended the entry", t.state(7), 0);
        due("STOP", t.run(4), 0);
        due("STOP leaves the entry", line(t), " 7");
        due("Y", number(t, Y), "500000000000E0");
        due("the entry goes on", press(t, "5"), 0);
        due("X", number(t, X), "750000000000E1");
        TwinEntry u = new TwinEntry();
        store(u, 0, codes(128, 154, "1", 155, "2", 0, 129, "4", 152, 130, "5", 131));
        press(u, "0\u0090");
        due("X is 0, and not below", u.run(4), 0);
        due("the test ended the entry", line(u), " 1.00");
        press(u, "C3N\u0090");
        due("X is below 0, and not 0", u.run(4), 0);
        due("line", line(u), " 2");
        press(u, "\u0091");
        due("RETURN without a call is the end", u.run(2), 0);
        due("and ends the entry", line(u), " 4.00");
        press(u, "\u0092");
        due("a label leaves the entry, 0 does", u.run(3), 0);
        due("line", line(u), " 5");
        store(u, 92, codes(0, 0, 0, 0, 0, 0, 132, 154));
        press(u, "\u0094");
        due("place 99", u.state(3), 99);
        due("the test leaves out the place 100", u.run(1), 1);
        due("all behind 99", u.state(3), 100);
        due("the end", u.run(1), 0);
        due("no fault there", u.state(1), 0);
        store(u, 92, codes(0, 0, 0, 0, 0, 0, 0, 133));
        press(u, "\u0095");
        due("a label at 99", u.state(3), 100);
        due("the end", u.run(1), 0);
        due("no fault there", u.state(1), 0);
        store(u, 40, codes(134, 159, "8", "9", 0));
        press(u, "2n0\u0096");
        due("COUNT ends the entry", u.run(1), 1);
        due("entry", u.state(7), 0);
        due("COUNT: 1 is above 0", u.state(3), 42);
        u.stop();
        press(u, "\u0096");
        u.run(1);
        due("COUNT: 0 is not", u.state(3), 43);
        due("register 3", number(u, 3), "0E0");
        u.stop();
        press(u, "\u0096");
        u.run(1);
        due("COUNT: -1 is not", u.state(3), 43);
        due("register 3", number(u, 3), "-100000000000E0");
    }

    private static void promise4ProgramFaults() {
        TwinEntry t = new TwinEntry();
        store(t, 0, codes(128, "5", 143, 0, 129, 145, 0, 130, "6", 200, 0, 131, "0I", 0, 132, "7", 151));
        press(t, "\u0090");
        due("GO to no label", t.run(2), 0);
        due("fault 7", t.state(1), 7);
        due("the entry stays", t.state(7), 1);
        due("nothing runs", t.state(2), 0);
        press(t, "\u0091");
        due("the fault is gone", t.state(1), 0);
        due("four calls", t.run(4), 1);
        due("under way", t.state(4), 4);
        due("the fifth", t.run(1), 0);
        due("fault 8", t.state(1), 8);
        due("none under way", t.state(4), 0);
        press(t, "\u0092");
        due("no code", t.run(2), 0);
        due("fault 1", t.state(1), 1);
        press(t, "\u0093");
        due("a key that fails", t.run(2), 0);
        due("fault 3", t.state(1), 3);
        due("X", number(t, X), "0E0");
        due("the entry", t.state(7), 1);
        press(t, "\u0094");
        due("CALL of no label", t.run(2), 0);
        due("fault 7", t.state(1), 7);
        due("the program's start can be undone", t.undo(), true);
        due("X before it", number(t, X), "0E0");
        // Fault 7 is told before fault 8.
        store(t, 0, codes(128, 145, 129, 146, 130, 147, 131, 148));
        store(t, 8, codes(132, 151, 0, 0, 0, 0, 0, 0));
        press(t, "\u0090");
        due("four calls, then one of no label", t.run(500), 0);
        due("fault 7", t.state(1), 7);
    }

    private static void promise5Stop() {
        TwinEntry t = new TwinEntry();
        store(t, 0, codes(128, "12k34"));
        press(t, "9\u0090");
        t.run(2);
        due("something ran", t.stop(), true);
        due("where it is", line(t), " 12");
        due("nothing runs", t.state(2), 0);
        due("nothing ran", t.stop(), false);
        due("X", number(t, X), "120000000000E1");
        due("start is kept", t.undo(), true);
        due("entry before it", line(t), " 9");
        TwinEntry s = keyed("3k1=5");
        store(s, 0, codes(128, "7k", 129, 137));
        int kept = s.state(9);
        s.solve(0);
        s.run(5);
        due("the register has changed", number(s, 0), "700000000000E0");
        due("the solver ran", s.stop(), true);
        due("register as before", number(s, 0), "300000000000E0");
        due("entry as before", line(s), " 5");
        due("Y as before", number(s, Y), "100000000000E0");
        due("nothing kept", s.state(9), kept);
        due("LIFT as before", s.state(8), 0);
        press(s, "x");
        s.stop();
        due("the fault stays", s.state(1), 1);
    }

    private static void promise6Solve() {
        TwinEntry t = new TwinEntry();
        store(t, 0, codes(128, "S2-", 0));
        press(t, "1=2");
        due("begins", t.solve(0), 0);
        due("runs", t.state(2), 2);
        due("the first value", t.state(10), 1);
        due("numbers are a", stack(t), " 1 1 1 1 0");
        due("no entry", t.state(7), 0);
        due("LIFT", t.state(8), 1);
        due("place", t.state(3), 1);
        due("three steps", t.run(3), 1);
        due("still the first value", t.state(10), 1);
        due("the fourth step sees its end", t.run(1), 1);
        due("the second value", t.state(10), 2);
        due("at its start", t.state(3), 1);
        due("numbers are b", stack(t), " 2 2 2 2 2");
        due("to the end", t.run(500), 0);
        due("found", number(t, X), "141421356237E0");
        due("its value", number(t, Y), number(keyed("1.41421356237S2-"), X));
        due("Z", number(t, Z), "141421356237E0");
        due("T", number(t, T), "141421356238E0");
        due("LIFT", t.state(8), 1);
        due("can be undone", t.undo(), true);
        due("as before", line(t), " 2");
        due("Y as before", number(t, Y), "100000000000E0");
        press(t, "C2=1");
        t.solve(0);
        t.run(500);
        due("b is found, whose value is less", number(t, X), "141421356237E0");
        due("Z is a", number(t, Z), "141421356238E0");
        due("T is b", number(t, T), "141421356237E0");
        press(t, "5");
        dueThrow("label 8", ARGUMENT, () -> t.solve(8));
        dueThrow("label -1", ARGUMENT, () -> t.solve(-1));
        int values = t.state(10);
        due("no such label", t.solve(1), 7);
        due("fault 7", t.state(1), 7);
        due("values as before", t.state(10), values);
        due("the entry is still there", t.state(7), 1);
        due("begins again", t.solve(0), 0);
        due("the fault is 0", t.state(1), 0);
        dueThrow("solve when the solver runs", STATE, () -> t.solve(9));
        dueThrow("press when the solver runs", STATE, () -> t.press(0));
        dueThrow("model when the solver runs", STATE, () -> t.model(0));
        dueThrow("store when the solver runs", STATE, () -> t.store(0, 0));
        dueThrow("undo when the solver runs", STATE, () -> t.undo());
        t.stop();
        t.model(1);
        dueThrow("solve with formulas", UNSUPPORTED, () -> t.solve(0));
        dueThrow("wrong label with formulas", UNSUPPORTED, () -> t.solve(9));
        press(t, "\u0090");
        dueThrow("solve when a program runs", STATE, () -> t.solve(0));
    }

    private static void promise6SolverEnds() {
        TwinEntry t = new TwinEntry();
        store(t, 0, codes(128, "1-", 0));
        press(t, "1=9");
        t.solve(0);
        due("a is found", t.run(500), 0);
        due("after one value", t.state(10), 1);
        due("numbers", stack(t), " 1 0 1 1 1");
        press(t, "C9=1");
        t.solve(0);
        due("b is found", t.run(500), 0);
        due("after two values", t.state(10), 2);
        due("numbers", stack(t), " 1 0 1 1 1");
        press(t, "C0=2");
        t.solve(0);
        due("m is found", t.run(9), 0);
        due("after three values", t.state(10), 3);
        due("numbers", stack(t), " 1 0 1 1 1");
        press(t, "C0=4");
        t.solve(0);
        due("m takes the place of b", t.run(9), 1);
        due("the fourth value", t.state(10), 4);
        due("X is 1", number(t, X), "100000000000E0");
        due("found", t.run(3), 0);
        // Registers go from value to value: the same a and b, but another sign each time.
        TwinEntry r = new TwinEntry();
        store(r, 0, codes(128, "aNka", 0));
        press(r, "5k2=2");
        r.solve(0);
        due("found between 2 and 2", r.run(500), 0);
        due("a, as neither value is less", stack(r), " 2 -5 2 2 0");
        due("register as the programs left it", number(r, 0), "500000000000E0");
        due("undo", r.undo(), true);
        // The value of b is less in size.
        store(r, 0, codes(128, "a2N/k", 0));
        press(r, "C8k2=2");
        r.solve(0);
        r.run(500);
        due("b, whose value is less", stack(r), " 2 2 2 2 -2");
    }

    private static void promise6SolverFaults() {
        TwinEntry t = new TwinEntry();
        store(t, 0, codes(128, "S1+", 0, 129, "kI", 0, 130, "k1E99N-", 0));
        press(t, "1=2");
        String before = allBut1(t);
        t.solve(0);
        due("the same sign", t.run(500), 0);
        due("fault 9", t.state(1), 9);
        due("nothing is found", t.state(9), 3);
        due("two values", t.state(10), 2);
        due("as before but for the values", allBut1(t).replaceAll("2$", "0"), before);
        press(t, "C0=5");
        t.solve(1);
        due("a program that fails", t.run(500), 0);
        due("fault 3", t.state(1), 3);
        due("register as before", number(t, 0), "0E0");
        due("entry as before", t.state(7), 1);
        press(t, "C0=9E9");
        t.solve(2);
        due("a hundred values are too few", t.run(500), 1);
        due("62 are over, and 4 steps of the next one", t.state(10), 63);
        due("299 steps more", t.run(299), 1);
        due("the last one", t.state(10), 100);
        due("no other is taken", t.run(1), 0);
        due("fault 9", t.state(1), 9);
        due("a hundred values", t.state(10), 100);
        due("X as before", number(t, X), "900000000000E9");
        TwinEntry wide = new TwinEntry();
        store(wide, 0, codes(128, 0));
        press(wide, "9NE99=9E99");
        wide.solve(0);
        due("b - a is too large", wide.run(500), 0);
        due("fault 2", wide.state(1), 2);
        due("X as before", number(wide, X), "900000000000E99");
    }

    private static void promise7Shown() {
        TwinEntry t = keyed("12345678");
        due("part 0", t.shown(0), pack(" 1234567"));
        due("part 1", t.shown(1), pack("8       "));
        due("part 2", t.shown(2), pack("    \0\0\0\0"));
        dueThrow("part 3", ARGUMENT, () -> t.shown(3));
        dueThrow("part -1", ARGUMENT, () -> t.shown(-1));
        press(t, "x");
        due("a fault", wholeLine(t), "FAULT 1             ");
        due("the fault first", t.shown(0), pack("FAULT 1 "));
        TwinEntry u = keyed("123456.789012NE9N9");
        due("the longest entry", wholeLine(u), "-123456.789012E-99  ");
    }

    private static void promise7Fixed() {
        dueMode(0, 2, "1.005=", " 1.00");
        dueMode(0, 2, "1.015=", " 1.02");
        dueMode(0, 2, "1.025=", " 1.02");
        dueMode(0, 2, "1.0250001=", " 1.03");
        dueMode(0, 0, "2.5=", " 2.");
        dueMode(0, 0, "3.5=", " 4.");
        dueMode(0, 0, "0=", " 0.");
        dueMode(0, 9, "0=", " 0.000000000");
        dueMode(0, 2, "999.995=", " 1000.00");
        dueMode(0, 2, "999.995N=", "-1000.00");
        dueMode(0, 9, "123456789012=", " 123456789012.");
        dueMode(0, 9, "12345678901.2=", " 12345678901.2");
        dueMode(0, 9, "123.456789012=", " 123.456789012");
        dueMode(0, 9, "12.3456789012=", " 12.345678901");
        dueMode(0, 2, "1E12=", " 1.00E+12");
        dueMode(0, 2, "999999999999=", " 999999999999.");
        dueMode(0, 0, "99999999999.5=", " 100000000000.");
        dueMode(0, 2, ".004=", " 4.00E-03");
        dueMode(0, 2, ".005=", " 5.00E-03");
        dueMode(0, 2, ".00500000001=", " 0.01");
        dueMode(0, 2, ".005N=", "-5.00E-03");
        dueMode(0, 2, ".015=", " 0.02");
        dueMode(0, 0, ".5=", " 5.E-01");
        dueMode(0, 0, ".51=", " 1.");
        dueMode(0, 2, "1E99N=", " 1.00E-99");
        dueMode(0, 9, ".1=", " 0.100000000");
    }

    private static void promise7Scientific() {
        dueMode(1, 4, "1=9/", " 1.1111E-01");
        dueMode(1, 0, "25=", " 2.E+01");
        dueMode(1, 0, "35=", " 4.E+01");
        dueMode(1, 2, "9.995=", " 1.00E+01");
        dueMode(1, 2, "9.985=", " 9.98E+00");
        dueMode(1, 2, ".9996=", " 1.00E+00");
        dueMode(1, 2, "9.996E99=", " 9.99E+99");
        dueMode(1, 2, "9.996E98=", " 1.00E+99");
        dueMode(1, 0, "9.9E99N=", " 1.E-98");
        dueMode(1, 3, "0=", " 0.000E+00");
        dueMode(1, 3, "7N=", "-7.000E+00");
        dueMode(1, 9, "123456789012=", " 1.234567890E+11");
        dueMode(1, 9, "1E99N=", " 1.000000000E-99");
    }

    private static void promise8And9Numbers() {
        TwinEntry t = keyed("1k2l3m4n5o6p7q8r9s.5Nt");
        for (int i = 0; i < 9; i++) {
            due("register " + i, number(t, i), (i + 1) + "00000000000E0");
        }
        due("register 9", number(t, 9), "-500000000000E-1");
        due("X", number(t, X), "-500000000000E-1");
        due("Y", number(t, Y), "900000000000E0");
        due("Z", number(t, Z), "800000000000E0");
        due("T", number(t, T), "700000000000E0");
        press(t, "+");
        due("LAST", number(t, LAST), "-500000000000E-1");
        dueThrow("digits 15", INDEX, () -> t.digits(15));
        dueThrow("digits -1", INDEX, () -> t.digits(-1));
        dueThrow("exponent 15", INDEX, () -> t.exponent(15));
        dueThrow("exponent -1", INDEX, () -> t.exponent(-1));
        due("an exponent below 0", keyed("1E99N").exponent(X), -99);
        due("the exponent of 0", keyed("0E50").exponent(X), 0);
    }

    private static void promise10Mode() {
        TwinEntry t = keyed("2=3/");
        t.mode(1, 9);
        due("scientific", line(t), " 6.666666667E-01");
        t.mode(0, 0);
        due("fixed", line(t), " 1.");
        t.mode(0, 9);
        due("fixed 9", line(t), " 0.666666667");
        dueThrow("kind 2", ARGUMENT, () -> t.mode(2, 0));
        dueThrow("kind -1", ARGUMENT, () -> t.mode(-1, 0));
        dueThrow("n 10", ARGUMENT, () -> t.mode(1, 10));
        dueThrow("n -1", ARGUMENT, () -> t.mode(1, -1));
        due("as before", line(t), " 0.666666667");
        press(t, "x");
        t.mode(1, 1);
        due("the fault stays", t.state(1), 1);
        store(t, 0, 128);
        press(t, "\u0090");
        t.mode(1, 1);
        due("also when a program runs", line(t), " 6.7E-01");
    }

    private static void promise11And12Codes() {
        TwinEntry t = new TwinEntry();
        t.store(92, 0xFF00807F01020304L);
        int[] want = {4, 3, 2, 1, 127, 128, 0, 255};
        for (int i = 0; i < 8; i++) {
            due("code " + (92 + i), t.code(92 + i), want[i]);
        }
        due("code before", t.code(91), 0);
        t.store(88, -1L);
        t.store(90, 0);
        due("what stays", t.code(89), 255);
        due("bytes 0, too", t.code(90), 0);
        due("bytes 0, to the eighth", t.code(97), 0);
        due("behind it", t.code(98), 0);
        due("the last", t.code(99), 255);
        dueThrow("store at 93", INDEX, () -> t.store(93, 1));
        dueThrow("store at -1", INDEX, () -> t.store(-1, 1));
        dueThrow("code 100", INDEX, () -> t.code(100));
        dueThrow("code -1", INDEX, () -> t.code(-1));
        store(t, 0, 128, 136);
        press(t, "\u0090");
        dueThrow("store when a program runs", STATE, () -> t.store(0, 0));
        dueThrow("store at a wrong place then", STATE, () -> t.store(93, 0));
        due("code when a program runs", t.code(1), 136);
    }

    private static void promise13And14Text() {
        TwinEntry t = new TwinEntry();
        due("no key", t.type(0), 0);
        due("three keys", t.type(0x0033002B00310000L), 3);
        due("nine more", type(t, "*23456789"), 12);
        due("all", type(t, "0".repeat(24)), 36);
        due("five are too many", t.type(pack("12345")), -1);
        due("none was added, four are not", t.type(pack("1\0002\0003\0004")), 40);
        due("none is not too many", t.type(0), 40);
        due("one is", t.type(pack("1")), -1);
        due("wiped", t.wipe(), 40);
        due("empty", t.wipe(), 0);
        due("any code", t.type(-1L), 8);
    }

    private static void dueOut(String text, String want) {
        TwinEntry t = new TwinEntry();
        type(t, text);
        int count = t.translate();
        due("keys of " + text, count, want.length());
        due("OUT of " + text, outKeys(t, Math.max(count, 0)), want);
    }

    private static void dueRefused(String text, int code) {
        TwinEntry t = new TwinEntry();
        type(t, "1");
        t.translate();
        t.wipe();
        type(t, text);
        due("text " + text, t.translate(), -code);
        dueThrow("OUT is empty behind " + text, INDEX, () -> t.out(0));
        due("the text stays", t.wipe(), text.length());
    }

    private static void promise15Translate() {
        dueOut("1+2", "1=2+");
        dueOut("1+2=", "1=2+");
        dueOut("1+2*3", "1=2=3*+");
        dueOut("1*2+3", "1=2*3+");
        dueOut("(1+2)*3=", "1=2+3*");
        dueOut("12.5E3N", "12.5E3N");
        dueOut("a+b", "ab+");
        dueOut("1+a", "1a+");
        dueOut("a+1", "a1+");
        dueOut("1-2-3", "1=2-3-");
        dueOut("2Q+3S", "2Q3S+");
        dueOut("(3)N", "3WWN");
        dueOut("(3)NN", "3WWNN");
        dueOut("3NN", "3NN");
        dueOut("(3N)N", "3NWWN");
        dueOut("(1+2)N", "1=2+N");
        dueOut("aN", "aN");
        dueOut("3QN", "3QN");
        dueOut("((3))NQ+1", "3WWNQ1+");
        dueOut("1+(2*(3-4))", "1=2=3=4-*+");
        dueOut("((((((((1))))))))", "1");
        dueOut("1+2*3+4*5", "1=2=3*+4=5*+");
        dueOut("E5+.", "E5=.+");
        dueOut("1..2", "1..2");
    }

    private static void promise15Refusals() {
        dueRefused("", 5);
        dueRefused("=", 5);
        dueRefused("1+", 5);
        dueRefused("1+=", 5);
        dueRefused("(1", 5);
        dueRefused("(1=", 5);
        dueRefused("1=2", 1);
        dueRefused("1==", 1);
        dueRefused("1B", 1);
        dueRefused("1C", 1);
        dueRefused("1k", 1);
        dueRefused("W", 1);
        dueRefused("1+x", 1);
        dueRefused("+1", 5);
        dueRefused("1++x", 5);
        dueRefused("N", 5);
        dueRefused("Q", 5);
        dueRefused("1+N", 5);
        dueRefused("1a", 5);
        dueRefused("a1", 5);
        dueRefused("(1)2", 5);
        dueRefused("1(", 5);
        dueRefused("1)", 5);
        dueRefused("()", 5);
        dueRefused("(((((((((", 6);
        dueRefused("((((((((1+", 6);
        dueRefused("1+(2+(3+(4+(5", 6);
        dueRefused("1+(2+(3+(4+(a", 6);
        dueRefused("1+(2+(3+(4+(", 5);
        dueRefused("1+(2+(3+(4+5", 6);
        dueRefused("\u00901", 1);
        dueOut("1+(2+(3+4))", "1=2=3=4+++");
        dueOut("1+(2*(3+4))", "1=2=3=4+*+");
    }

    private static void promise15SameResult() {
        String[] texts = {
            "1+2*3", "(1.5E1N-4)N/7", "((2Q))N*(3-5I)", "(2E3)N+1", "8/(2/(3/7))", "a*b-(a)N", "1+(2*(3+4))S",
            "(.5)NS-E2", "3SN"
        };
        for (String text : texts) {
            TwinEntry t = keyed("7k3l");
            t.model(1);
            press(t, text + "=");
            String want = number(t, X);
            type(t, text);
            int count = t.translate();
            t.model(0);
            press(t, "W" + outKeys(t, count));
            due("the stack by OUT of " + text, number(t, X), want);
        }
    }

    private static void promise16Out() {
        TwinEntry t = new TwinEntry();
        type(t, "1+2");
        dueThrow("before translate", INDEX, () -> t.out(0));
        t.translate();
        due("key 0", t.out(0), (int) '1');
        due("key 3", t.out(3), (int) '+');
        dueThrow("key 4", INDEX, () -> t.out(4));
        dueThrow("key -1", INDEX, () -> t.out(-1));
        t.wipe();
        due("OUT stays when the text goes", t.out(1), (int) '=');
    }

    private static void promise17Undo() {
        TwinEntry t = keyed("1=2=3+");
        due("five at most", t.state(9), 5);
        due("undo +", t.undo(), true);
        due("numbers", stack(t), " 3 2 1 0 0");
        due("the entry is back", line(t), " 3");
        due("and goes on", press(t, "4"), 0);
        due("undo 4", t.undo(), true);
        due("undo 3", t.undo(), true);
        due("numbers", stack(t), " 2 2 1 0 0");
        due("LIFT", t.state(8), 0);
        due("undo =", t.undo(), true);
        due("undo 2", t.undo(), true);
        due("undo =, the fifth", t.undo(), true);
        due("line", line(t), " 1");
        press(t, "x");
        due("nothing is kept", t.undo(), false);
        due("the fault stays", t.state(1), 1);
        press(t, "5x");
        due("a key that fails is not kept", t.state(9), 1);
        due("undo", t.undo(), true);
        due("the fault is 0", t.state(1), 0);
        press(t, "1..");
        due("a key by which nothing happens is kept", t.state(9), 3);
        TwinEntry r = keyed("5k6k");
        r.undo();
        due("registers come back", number(r, 0), "500000000000E0");
        TwinEntry f = formula("1+(2*3)");
        f.undo();
        due("the row comes back", f.state(5), 3);
        due("place", f.state(6), 2);
        due("its numbers, too", press(f, "="), 0);
        due("X", number(f, X), "700000000000E0");
        TwinEntry p = keyed("9");
        store(p, 0, 128, '1', '+', 'k');
        press(p, "\u0090");
        dueThrow("undo when a program runs", STATE, () -> p.undo());
        p.run(500);
        due("two keys are kept", p.state(9), 2);
        due("undo the program", p.undo(), true);
        due("as before its start", line(p), " 9");
        due("register", number(p, 0), "0E0");
        due("codes stay", p.code(1), (int) '1');
    }

    private static void promise18State() {
        TwinEntry t = formula("1+(");
        due("another", t.state(11), -1);
        due("another", t.state(-1), -1);
        due("model", t.state(0), 1);
        due("things", t.state(5), 2);
        due("place", t.state(6), 1);
        due("no entry", t.state(7), 0);
        due("kept", t.state(9), 3);
        press(t, "4");
        due("entry", t.state(7), 1);
        due("HAS", t.state(6), 2);
        due("values before the solver", t.state(10), 0);
        due("calls", t.state(4), 0);
        due("place of nothing", t.state(3), -1);
    }
}
