/** Boundary cases of the document's terms KEYS, KEYS OF BOTH MODELS, THE STACK MODEL and THE FORMULA MODEL. */
public final class BoundariesOfKeysTest extends Boundaries {
    private static final int DONE = 0;
    private static final int WANTS = 1;
    private static final int HAS = 2;

    private BoundariesOfKeysTest() {
    }

    public static void main(String[] args) {
        rowAndPlace();
        keysThatFail();
        functions();
        zeroAndBelow();
        registers();
        pushing();
        stackKeys();
        lift();
        bracketsOnTheStack();
        placeHas();
        closing();
        operationsOfFormulas();
        openBracket();
        closeBracket();
        equalSign();
        ninthThing();
        stackKeysInFormulas();
        liftInFormulas();
        otherCodes();
        endOfSentences("BoundariesOfKeysTest");
    }

    private static void rowAndPlace() {
        sentence(3, "a ROW of at most 8 things, each an open bracket, or a number with one of + - * /; a PLACE, "
            + "DONE (0), WANTS (1) or HAS (2); and perhaps an ENTRY.");
        TwinEntry t = formula("9+8*(7-6/(5+4*");
        due("things", t.state(5), 8);
        due("WANTS", t.state(6), WANTS);
        due("the last number", press(t, "3"), 0);
        due("HAS", t.state(6), HAS);
        due("an entry", t.state(7), 1);
        due("all of them", press(t, "="), 0);
        // 9 + 8 * (7 - 6 / 17)
        due("X", number(t, X), "621764705882E1");
        due("DONE", t.state(6), DONE);
        due("no things", t.state(5), 0);
        due("no entry", t.state(7), 0);
    }

    private static void keysThatFail() {
        sentence(3, "A key that FAILS by a fault changes nothing but the fault that is shown.");
        // With an entry under way, which a key that fails does not end.
        dueFails(() -> keyed("7k1=2=3=4.5"), "x", 1);
        dueFails(() -> keyed("7k1=2=3=4.5"), ")", 1);
        dueFails(() -> keyed("9E99=9E99"), "*", 2);
        dueFails(() -> keyed("1=2=0"), "/", 3);
        dueFails(() -> keyed("1=2=0"), "I", 3);
        dueFails(() -> keyed("1=2=3N"), "Q", 4);
        dueFails(() -> keyed("1=2=3N"), "\u0097", 7);
        dueFails(() -> formula("7k1+(2*3"), "(", 5);
        dueFails(() -> formula("7k1+2*(3/0"), ")", 3);
        dueFails(() -> formula("7k1+2*(3/0"), "+", 3);
        dueFails(() -> formula("7k1+2*3/0"), "=", 3);
        dueFails(() -> formula("7k=(((((((1+2"), "*", 6);
        dueFails(() -> formula("7k1+2"), "W", 1);
        dueFails(() -> formula("7k1+2"), "\u0090", 7);
        // When all but the last that is closed went well.
        dueFails(() -> formula("9E99+1*9E99"), "-", 2);
        dueFails(() -> formula("1/(2-2)"), "=", 3);
    }

    private static void functions() {
        sentence(3, "Q the square root of X, S its square, I 1 divided by X, each rounded, take the place of X; N "
            + "(without an entry) changes the sign of X; C, and B (without an entry), make X 0.");
        dueX("0Q", "0E0");
        dueX("0S", "0E0");
        dueX("1E99NQ", "316227766017E-50");
        dueX("1E98Q", "100000000000E49");
        dueX("3NS", "900000000000E0");
        dueX("3NI", "-333333333333E-1");
        dueX("0=N", "0E0");
        dueX("5=N", "-500000000000E0");
        dueX("5=NN", "500000000000E0");
        dueX("1E99N=N", "-100000000000E-99");
        due("C ends an entry, too", keyed("5C").state(7), 0);
        dueX("5C", "0E0");
        dueX("5=B", "0E0");
        dueX("B", "0E0");
        due("C leaves the others", stack(keyed("1=2=3=4C")), " 0 3 2 1 0");
        due("B leaves the others", stack(keyed("1=2=3=4=B")), " 0 4 3 2 0");
        dueFormula("0Q", "0E0");
        dueFormula("5C", "0E0");
        dueFormula("(5)B", "0E0");
        dueFormula("(5)N", "-500000000000E0");
    }

    private static void zeroAndBelow() {
        sentence(3, "A square root of a number below 0 is fault 4, a division by 0 fault 3.");
        dueFails(() -> keyed("1NE99N"), "Q", 4);
        dueFails(() -> keyed("9NE99"), "Q", 4);
        dueFails(() -> formula("1+4N"), "Q", 4);
        dueX("0NQ", "0E0");
        dueFails(() -> keyed("5=0"), "/", 3);
        dueFails(() -> keyed("0=0"), "/", 3);
        dueFails(() -> keyed("9E99=0"), "/", 3);
        dueFails(() -> keyed(""), "I", 3);
        dueFails(() -> keyed(".9E9N9"), "I", 3);
        dueFails(() -> formula(""), "I", 3);
        dueFails(() -> formula("5/0"), "*", 3);
        dueFails(() -> formula("0/0"), "=", 3);
        dueX("0=5/", "0E0");
        dueX("0=1E99N/", "0E0");
    }

    private static void registers() {
        sentence(3, "a .. j: register 0 .. 9 is RECALLED; k .. t: register 0 .. 9 becomes X (the place stays).");
        TwinEntry t = new TwinEntry();
        for (int r = 0; r < 10; r++) {
            press(t, "C" + r + (char) ('k' + r));
        }
        for (int r = 0; r < 10; r++) {
            due("register " + r, t.digits(r), r * 100000000000L);
            press(t, "C" + (char) ('a' + r));
            due("X by register " + r, t.digits(X), r * 100000000000L);
        }
        dueFails(() -> keyed("5"), "`", 1);
        dueFails(() -> keyed("5"), "u", 1);
        due("storing leaves DONE", formula("5=k").state(6), DONE);
        due("storing leaves WANTS", formula("5+t").state(6), WANTS);
        due("storing leaves HAS", formula("5t").state(6), HAS);
        due("storing leaves X", stack(keyed("1=2=3=4k")), " 4 3 2 1 0");
    }

    private static void pushing() {
        sentence(3, "if LIFT is on, T becomes Z, Z becomes Y, Y becomes X; then X becomes the number.");
        due("an entry with LIFT", stack(keyed("1=2=3=4W5")), " 5 3 4 2 0");
        due("an entry without LIFT", stack(keyed("1=2=3=4=5")), " 5 4 3 2 0");
        due("recalling with LIFT", stack(keyed("9k1=2=3=4a")), " 9 4 3 2 0");
        due("recalling without LIFT", stack(keyed("9k1=2=3=4=a")), " 9 4 3 2 0");
        due("recalling behind C", stack(keyed("9k1=2=3=4Ca")), " 9 3 2 1 0");
        due("LAST with LIFT", stack(keyed("4Q1=2=3L")), " 4 3 2 1 4");
        due("LAST without LIFT", stack(keyed("4Q1=2=3CL")), " 4 2 1 2 4");
        due("the first entry of all", stack(keyed("7")), " 7 0 0 0 0");
        sentence(3, "What an entry that begins is worth is pushed, and recalling pushes the register.");
        due("only the first key pushes", stack(keyed("1=2=3=4W5.0E0")), " 5 3 4 2 0");
        due("a point pushes 0", stack(keyed("1=2=3=4W.")), " 0 3 4 2 0");
        due("E pushes 1", stack(keyed("2=3=4=5WE")), " 1 4 5 3 0");
    }

    private static void stackKeys() {
        sentence(3, "'=': T becomes Z, Z becomes Y, Y becomes X.");
        due("=", stack(keyed("1=2=3=4=")), " 4 4 3 2 0");
        due("= again, T is lost", stack(keyed("1=2=3=4==")), " 4 4 4 3 0");
        sentence(3, "LAST becomes X, X becomes Y + X, Y - X, Y * X, Y / X, rounded, Y becomes Z, Z becomes T.");
        due("+, T stays", stack(keyed("1=2=3=4+")), " 7 2 1 1 4");
        due("-", stack(keyed("1=2=3=4-")), " -1 2 1 1 4");
        due("*", stack(keyed("1=2=3=2*")), " 6 2 1 1 2");
        due("/", stack(keyed("1=2=8=4/")), " 2 2 1 1 4");
        sentence(3, "Q, S, I: LAST becomes X as it was before.");
        due("Q", stack(keyed("1=2=3=4Q")), " 2 3 2 1 4");
        due("S", stack(keyed("1=2=3=2S")), " 4 3 2 1 2");
        due("I", stack(keyed("1=2=3=1I")), " 1 3 2 1 1");
        due("N, C, B and storing leave LAST", stack(keyed("3SNCBk=")), " 0 0 0 0 3");
        sentence(3, "W exchanges X and Y. D: X becomes Y, Y becomes Z, Z becomes T, T becomes X, all as before. L "
            + "pushes LAST.");
        due("W", stack(keyed("1=2=3=4W")), " 3 4 2 1 0");
        due("D", stack(keyed("1=2=3=4D")), " 3 2 1 4 0");
        due("D four times", stack(keyed("1=2=3=4DDDD")), " 4 3 2 1 0");
        due("L when LAST is 0", stack(keyed("1=2=3=4L")), " 0 4 3 2 0");
    }

    private static void lift() {
        sentence(3, "LIFT is off behind '=', C, and B without an entry; on behind all other keys of this paragraph "
            + "and the one above.");
        for (String key : new String[] {"=", "C", "B"}) {
            due("LIFT behind " + key + ", which was on", keyed("1W" + key).state(8), 0);
            due("LIFT behind " + key + ", which was off", keyed("1=" + key).state(8), 0);
        }
        for (char key : "+-*/QSIWDLNabcdefghijklmnopqrst".toCharArray()) {
            due("LIFT behind " + key + ", which was off", keyed("1==" + key).state(8), 1);
            due("LIFT behind " + key + ", which was on", keyed("1=W" + key).state(8), 1);
        }
    }

    private static void bracketsOnTheStack() {
        sentence(3, "(, ) are fault 1.");
        dueFails(() -> keyed(""), "(", 1);
        dueFails(() -> keyed(""), ")", 1);
        dueFails(() -> keyed("1=2"), "(", 1);
        dueFails(() -> keyed("1=2"), ")", 1);
    }

    private static void placeHas() {
        sentence(3, "When an entry begins, and with recalling, Q, S, I, N, C, B (these two without an entry), X "
            + "becomes what it must, and the place HAS.");
        for (char key : "0.EajQSINCB".toCharArray()) {
            due("place behind " + key + " from DONE", formula("1=" + key).state(6), HAS);
            due("place behind " + key + " from WANTS", formula("1+" + key).state(6), HAS);
            due("place behind " + key + " from HAS", formula("(1)" + key).state(6), HAS);
        }
        dueFormula("9=4", "400000000000E0");
        dueFormula("5+Q=", "723606797750E0");
        dueFormula("5+N=", "0E0");
        dueFormula("5+C=", "500000000000E0");
        dueFormula("5k+a=", "100000000000E1");
        dueFormula("(1)2=", "200000000000E0");
        due("N of an entry leaves HAS", formula("1+5N").state(6), HAS);
    }

    private static void closing() {
        sentence(3, "To CLOSE the last thing of the row: it goes; if it was a number with an operation, X becomes "
            + "this number with X by that operation, rounded (number - X, number / X).");
        dueFormula("5-3=", "200000000000E0");
        dueFormula("6/3=", "200000000000E0");
        dueFormula("2/3=", "666666666667E-1");
        dueFormula("(((3=", "300000000000E0");
        // Each is rounded by itself: 2 / 3 * 3 is 2, and 1 / 3 * 3 is not 1.
        dueFormula("2/3*3=", "200000000000E0");
        dueFormula("1/3*3=", "999999999999E-1");
        dueFormula("1E12+.5-1E12=", "0E0");
    }

    private static void operationsOfFormulas() {
        sentence(3, "+ - * /: fault 5 if the place is WANTS");
        for (String key : new String[] {"+", "-", "*", "/"}) {
            dueFails(() -> formula("1+"), key, 5);
            dueFails(() -> formula("("), key, 5);
            due(key + " from DONE", press(formula(""), key), 0);
            due(key + " from HAS", press(formula("1"), key), 0);
        }
        sentence(3, "as long as the last thing of the row is a number with an operation that binds as tightly as "
            + "the key's or tighter (* and / bind tighter than + and -), it is closed; then X with the key's "
            + "operation comes to the end of the row, and the place is WANTS.");
        String[] row = {
            "1+2+", "1", "1+2-", "1", "1-2+", "1", "1-2-", "1", "1+2*", "2", "1-2/", "2", "1*2+", "1", "1/2-", "1",
            "1*2*", "1", "1*2/", "1", "1/2*", "1", "1/2/", "1", "1+2*3+", "1", "1+2*3*", "2", "1+(2+", "3",
            "1*(2*", "3", "(1*2+", "2", "+", "1"
        };
        for (int i = 0; i < row.length; i += 2) {
            due("things behind " + row[i], formula(row[i]).state(5), row[i + 1]);
            due("place behind " + row[i], formula(row[i]).state(6), WANTS);
        }
        dueFormula("8-4-2=", "200000000000E0");
        dueFormula("8/4/2=", "100000000000E0");
        dueFormula("8/4*2=", "400000000000E0");
        dueFormula("8-4+2=", "600000000000E0");
        dueFormula("9-2*3-", "300000000000E0");
        dueFormula("9-2*3*", "600000000000E0");
    }

    private static void openBracket() {
        sentence(3, "(: fault 5 if the place is HAS; an open bracket comes to the end of the row, WANTS.");
        dueFails(() -> formula("1"), "(", 5);
        dueFails(() -> formula("1=2Q"), "(", 5);
        dueFails(() -> formula("(1)"), "(", 5);
        dueFails(() -> formula("1=a"), "(", 5);
        due("from DONE", formula("1=(").state(6), WANTS);
        due("from WANTS", formula("1+(").state(6), WANTS);
        due("behind another", formula("((").state(5), 2);
    }

    private static void closeBracket() {
        sentence(3, "): fault 5 if the place is not HAS, or the row has no open bracket; things are closed until an "
            + "open bracket is the last; that goes, HAS.");
        dueFails(() -> formula("("), ")", 5);
        dueFails(() -> formula("(1+"), ")", 5);
        dueFails(() -> formula(""), ")", 5);
        dueFails(() -> formula("1="), ")", 5);
        dueFails(() -> formula("1"), ")", 5);
        dueFails(() -> formula("1+2*3"), ")", 5);
        dueFails(() -> formula("(1)"), ")", 5);
        TwinEntry t = formula("1+(2+(3+4*5");
        due("things", t.state(5), 6);
        due("the inner bracket", press(t, ")"), 0);
        due("its things have gone", t.state(5), 3);
        due("X", number(t, X), "230000000000E1");
        due("place", t.state(6), HAS);
        due("the outer bracket", press(t, ")"), 0);
        due("what is before it stays", t.state(5), 1);
        due("X", number(t, X), "250000000000E1");
        due("a bracket round one number", formula("(7)").state(5), 0);
    }

    private static void equalSign() {
        sentence(3, "'=': fault 5 if the place is WANTS; all things are closed, the last one first, DONE.");
        dueFails(() -> formula("1+"), "=", 5);
        dueFails(() -> formula("("), "=", 5);
        dueFails(() -> formula("+"), "=", 5);
        due("from DONE, with an empty row", press(formula(""), "="), 0);
        TwinEntry t = formula("1+2*(3-(8/2=");
        due("the row is empty", t.state(5), 0);
        due("place", t.state(6), DONE);
        due("the last one first", number(t, X), "-100000000000E0");
        due("brackets alone", number(formula("(((5="), X), "500000000000E0");
    }

    private static void ninthThing() {
        sentence(3, "A thing that would be the 9th, behind all that the key closes, is fault 6.");
        due("eight brackets", formula("((((((((").state(5), 8);
        dueFails(() -> formula("(((((((("), "(", 6);
        dueFails(() -> formula("((((((((1"), "+", 6);
        dueFails(() -> formula("((((((((1"), "/", 6);
        due("a number as the eighth", formula("(((((((1*").state(5), 8);
        dueFails(() -> formula("(((((((1*"), "(", 6);
        dueFails(() -> formula("(((((((1+2"), "*", 6);
        due("first one is closed", formula("(((((((1+2-").state(5), 8);
        due("first one is closed", formula("(((((((1*2/").state(5), 8);
        due("first two are closed", formula("((((((1+2*3-").state(5), 7);
        due("first one of two is closed", formula("((((((1+2*3/").state(5), 8);
        due("a full row can be closed", formula("((((((((1=").state(5), 0);
        due("and its brackets", formula("((((((((1)").state(5), 7);
        // Fault 5 comes before fault 6.
        dueFails(() -> formula("((((((((1"), "(", 5);
        dueFails(() -> formula("(((((((("), "+", 5);
    }

    private static void stackKeysInFormulas() {
        sentence(3, "W, D, L are fault 1.");
        for (String key : new String[] {"W", "D", "L"}) {
            dueFails(() -> formula(""), key, 1);
            dueFails(() -> formula("1+(2"), key, 1);
            dueFails(() -> formula("1+"), key, 1);
        }
    }

    private static void liftInFormulas() {
        sentence(3, "(LIFT changes only when an entry ends, and when B leaves nothing of one; Y, Z, T and LAST "
            + "stay.)");
        TwinEntry off = formula("");
        for (char key : "CQSN=B+(akC)-t(B)*a/".toCharArray()) {
            due("key " + key, press(off, String.valueOf(key)), 0);
            due("LIFT stays off behind " + key, off.state(8), 0);
        }
        TwinEntry on = formula("1k");
        for (char key : "CQSN=B+(akC)-t(B)*a/".toCharArray()) {
            due("key " + key, press(on, String.valueOf(key)), 0);
            due("LIFT stays on behind " + key, on.state(8), 1);
        }
        press(on, "5");
        due("LIFT stays on in an entry", on.state(8), 1);
        press(on, "B");
        due("LIFT is off when B leaves nothing", on.state(8), 0);
        press(on, "56B");
        due("LIFT stays off when B leaves something", on.state(8), 0);
        press(on, "=");
        due("LIFT is on when the entry ends", on.state(8), 1);
        due("Y, Z, T and LAST", stack(formula("1=2=3+4*5=6S7Q2I+(3)=")).substring(2), " 0 0 0 0");
    }

    private static void otherCodes() {
        sentence(3, "All other codes are fault 1 when pressed, but 144 .. 151.");
        String both = "0123456789.EQSINCBabcdefghijklmnopqrst+-*/=";
        for (int code = 1; code < 256; code++) {
            int start = code >= 144 && code <= 151 ? 7 : -1;
            boolean key = both.indexOf(code) >= 0;
            boolean onStack = key || "WDL".indexOf(code) >= 0;
            // 1 at first, so that no key divides by 0.
            due("code " + code + " on the stack", keyed("1").press(code), start > 0 ? start : onStack ? 0 : 1);
            boolean inFormulas = key || code == ')';
            int want = start > 0 ? start : code == '(' ? 5 : inFormulas ? 0 : 1;
            due("code " + code + " in a formula", formula("(1").press(code), want);
        }
        sentence(3, "KEYS are codes 1 .. 255, named here by their characters.");
        due("0 is none: it is left out", keyed("5").press(0), 0);
        dueFails(() -> keyed("5"), "\u0001", 1);
        dueFails(() -> keyed("5"), "\u00ff", 1);
    }
}
