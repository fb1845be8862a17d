/** Boundary cases of the document's term THE TRANSLATOR, and of the promises 13 to 16: type, wipe, translate, out. */
public final class BoundariesOfTextTest extends Boundaries {
    private BoundariesOfTextTest() {
    }

    public static void main(String[] args) {
        fullText();
        wiped();
        keysOfTexts();
        asTheyAre();
        separators();
        operationsThatAreClosed();
        noSuchKeys();
        outOfPlace();
        tooMany();
        firstKeyDecides();
        ends();
        refused();
        outKeys();
        sameAsTheFormula();
        endOfSentences("BoundariesOfTextTest");
    }

    private static TwinEntry typed(String text) {
        TwinEntry t = new TwinEntry();
        due("typed " + text, type(t, text), text.length());
        return t;
    }

    private static void dueOut(String text, String want) {
        TwinEntry t = typed(text);
        int count = t.translate();
        due("keys of " + text, count, want.length());
        due("OUT of " + text, outKeys(t, Math.max(count, 0)), want);
    }

    private static void dueRefusedBy(String text, int code) {
        TwinEntry t = typed(text);
        due("text " + text, t.translate(), -code);
        dueThrow("OUT of " + text, INDEX, () -> t.out(0));
    }

    private static void fullText() {
        sentence(13, "The keys in the eight bytes of a long, the lowest first, bytes 0 left out, come behind the "
            + "text.");
        TwinEntry t = new TwinEntry();
        due("no key", t.type(0), 0);
        due("eight keys", t.type(pack("12+34*56")), 8);
        due("bytes 0 before, among and behind", t.type(pack("\0-\0\0007\0=\0")), 11);
        due("translated", t.translate(), 12);
        due("in their order", outKeys(t, 12), "12=34=56*+7-");
        due("any code", new TwinEntry().type(-1L), 8);
        due("the highest byte is a key, too", new TwinEntry().type(0x80_00000000000000L), 1);
        sentence(13, "Answers how many it has then; -1, adding none, when there would be more than 40.");
        String thirtyNine = "1" + "+1".repeat(19);
        due("39 keys", type(new TwinEntry(), thirtyNine), 39);
        TwinEntry full = typed(thirtyNine);
        due("two are too many", full.type(pack("N=")), -1);
        due("none was added", full.type(0), 39);
        due("one is not too many", full.type(pack("N")), 40);
        due("one is", full.type(pack("N")), -1);
        due("a byte in the eighth place is one", full.type(0x31_00000000000000L), -1);
        due("none is not", full.type(0), 40);
        due("the text that was there is whole", full.translate(), 41);
        due("OUT", outKeys(full, 41), "1=1+" + "1+".repeat(17) + "1N+");
        TwinEntry more = typed("1".repeat(33));
        due("eight behind 33 are too many", more.type(pack("11111111")), -1);
        due("seven are not", more.type(pack("1111111")), 40);
    }

    private static void wiped() {
        sentence(14, "The text is empty then. Answers how many keys it had.");
        TwinEntry t = typed("1".repeat(40));
        due("a full text", t.wipe(), 40);
        due("an empty one", t.wipe(), 0);
        due("is refused then", t.translate(), -5);
        due("can be filled again", type(t, "2".repeat(40)), 40);
        due("a new object's", new TwinEntry().wipe(), 0);
    }

    private static void keysOfTexts() {
        sentence(15, "The text's keys may be entry keys but B, + - * / ( ), Q S I, N, a .. j, and '=' at its end.");
        dueOut("0123456789.", "0123456789.");
        dueOut("1.5E2N", "1.5E2N");
        dueOut("a", "a");
        dueOut("j", "j");
        dueOut("1QSIN", "1QSIN");
        dueOut("(1+2-3)*4/5=", "1=2+3-4*5/");
        dueOut("1=", "1");
        // Keys by which nothing happens are keys like others.
        dueOut("1..E.E1", "1..E.E1");
        dueOut("12345678901234", "12345678901234");
        sentence(15, "has a TEXT of up to 40 keys, taken as those of a formula, from the place DONE on");
        dueOut("1".repeat(40), "1".repeat(40));
        dueOut("1" + "+1".repeat(19) + "=", "1=1+" + "1+".repeat(18));
        dueOut("a" + "N".repeat(39), "a" + "N".repeat(39));
        TwinEntry has = formula("5+6");
        type(has, "1+2");
        due("the calculator's own place does not matter", has.translate(), 4);
        due("nor does it change", has.state(5) + " " + has.state(6) + " " + has.state(7), "1 2 1");
    }

    private static void asTheyAre() {
        sentence(15, "The row of things, the place and whether there is an entry go as in the formula model. To OUT "
            + "come: entry keys, a .. j, Q, S, I, N, as they are");
        dueOut("12.5NE34N+a", "12.5NE34Na+");
        dueOut("jQSINNI", "jQSINNI");
        // An entry goes on behind its N, and has ended behind a bracket or a function.
        dueOut("1N2N3", "1N2N3");
        dueOut("((1)N)+2", "1WWN2+");
        dueRefusedBy("(1)2", 5);
        dueRefusedBy("1S2", 5);
        sentence(15, "Translates the text: how many keys OUT has");
        due("one key", typed("1").translate(), 1);
        due("more keys than the text has", typed("(1)N+2").translate(), 6);
        due("as many as the text has", typed("(1)N+(2)N+(3)N+(4)N+(5)N+(6)N+(7)N+(8)N").translate(), 39);
        due("fewer keys than the text has", typed("((((((((1))))))))=").translate(), 1);
    }

    private static void separators() {
        sentence(15, "but '=' before the key with which an entry begins, and W and W before N keyed without an "
            + "entry, if the last of OUT is an entry key (N keyed without an entry is none)");
        dueOut("1+2", "1=2+");
        dueOut("1+.5", "1=.5+");
        dueOut("1+E", "1=E+");
        dueOut("1N+2", "1N=2+");
        dueOut("1E+2", "1E=2+");
        dueOut("1.+2", "1.=2+");
        dueOut("1+a", "1a+");
        dueOut("a+1", "a1+");
        dueOut("1Q+2", "1Q2+");
        dueOut("1*2+3", "1=2*3+");
        dueOut("(1)N+2", "1WWN2+");
        dueOut("((1))N", "1WWN");
        dueOut("(1N)N", "1NWWN");
        dueOut("(1)NN", "1WWNN");
        dueOut("((1)N)N", "1WWNN");
        dueOut("(1)QN", "1QN");
        dueOut("(1)SNQ", "1SNQ");
        dueOut("(a)N", "aN");
        dueOut("(1+2)N", "1=2+N");
        dueOut("1+(2)N", "1=2WWN+");
        dueOut("1N", "1N");
        dueOut("(1)+2", "1=2+");
    }

    private static void operationsThatAreClosed() {
        sentence(15, "and for each number with an operation that is closed, that operation's key.");
        dueOut("1+2+3", "1=2+3+");
        dueOut("1-2-3", "1=2-3-");
        dueOut("1/2/3", "1=2/3/");
        dueOut("1*2+3*4", "1=2*3=4*+");
        dueOut("1+2*3-4", "1=2=3*+4-");
        dueOut("(1+2)*(3-4)", "1=2+3=4-*");
        dueOut("1-(2-(3-4))", "1=2=3=4---");
        dueOut("(1+2*3)/4", "1=2=3*+4/");
        // A bracket that goes brings no key.
        dueOut("((1))", "1");
        dueOut("((a))=", "a");
        sentence(15, "What is not closed at the end is closed.");
        dueOut("1+2*3", "1=2=3*+");
        dueOut("1+2*3=", "1=2=3*+");
        dueOut("1+2*(3-4)", "1=2=3=4-*+");
    }

    private static void noSuchKeys() {
        sentence(15, "1 it is none of those, or it is '=' and not the last");
        String may = "0123456789.EQSINabcdefghij+-*/()=";
        for (int code = 1; code < 256; code++) {
            if (may.indexOf(code) < 0) {
                dueRefusedBy("1" + (char) code, 1);
                dueRefusedBy("(" + (char) code, 1);
            }
        }
        dueRefusedBy("1=2", 1);
        dueRefusedBy("1==", 1);
        dueRefusedBy("==", 1);
        dueRefusedBy("1=+", 1);
        dueRefusedBy("1+2=B", 1);
    }

    private static void outOfPlace() {
        sentence(15, "5 it is out of place as in the formula model, or it is one of + - * / and the place is DONE, "
            + "or Q, S, I or N (without an entry) and the place is not HAS, or it begins an entry or is a .. j and "
            + "the place is HAS");
        for (String operation : new String[] {"+", "-", "*", "/"}) {
            dueRefusedBy(operation + "1", 5);
            dueRefusedBy("1+" + operation + "1", 5);
            dueRefusedBy("(" + operation + "1)", 5);
        }
        String[] asInFormulas = {
            "1(2)", "a(2)", "(1)(2)", "1Q(2)", ")", "()", "(1+)", "1)", "(1))", "1+2)", "1+=", "(="
        };
        for (String text : asInFormulas) {
            dueRefusedBy(text, 5);
        }
        for (String key : new String[] {"Q", "S", "I", "N"}) {
            dueRefusedBy(key, 5);
            dueRefusedBy(key + "1", 5);
            dueRefusedBy("1+" + key + "2", 5);
            dueRefusedBy("(" + key + "1)", 5);
            dueOut("a" + key, "a" + key);
        }
        for (String key : new String[] {"0", "9", ".", "E", "a", "j"}) {
            dueRefusedBy("(1)" + key, 5);
            dueRefusedBy("a" + key, 5);
            dueRefusedBy("1Q" + key, 5);
            dueOut("a+" + key, "a" + key + "+");
            dueOut("(" + key + ")", key);
        }
        dueRefusedBy("1a", 5);
        dueRefusedBy("(1)N2", 5);
    }

    private static void tooMany() {
        sentence(15, "6 the row would have more than 8 things, or there would be more than 4 VALUES: numbers in the "
            + "row, and one more if the place is HAS, as they would be behind the key.");
        dueOut("((((((((1))))))))", "1");
        dueRefusedBy("(((((((((1)))))))))", 6);
        dueRefusedBy("((((((((1+2))))))))", 6);
        dueOut("(((((((1+2)))))))", "1=2+");
        dueRefusedBy("(((((((1+2*3)))))))", 6);
        dueRefusedBy("(((((((1+(2))))))))", 6);
        dueOut("(((((((1+2+3)))))))", "1=2+3+");
        dueOut("(((((((1*2+3)))))))", "1=2*3+");
        dueOut("1+(2+(3+4))", "1=2=3=4+++");
        dueOut("1+2*(3+4)", "1=2=3=4+*+");
        dueOut("a+b*(c+d)", "abcd+*+");
        for (String fifth : new String[] {"5", ".5", "E5", "a", "j"}) {
            dueRefusedBy("1+2*(3+4*" + fifth + ")", 6);
            dueRefusedBy("1+(2+(3+(4+" + fifth + ")))", 6);
            dueRefusedBy("1+(2+(3+(4+(" + fifth + "))))", 6);
        }
        // Four numbers in the row are not too many as long as the place is not HAS.
        dueRefusedBy("1+2*(3+4*", 5);
        dueRefusedBy("1+(2+(3+(4+(", 5);
        // What is closed does not count any more.
        dueOut("1+2*(3+4)+5", "1=2=3=4+*+5+");
        dueOut("1+2*(3+4)*5", "1=2=3=4+*5*+");
    }

    private static void firstKeyDecides() {
        sentence(15, "The text is refused by its first key for which one of these holds, the first of them");
        dueRefusedBy("1++x", 5);
        dueRefusedBy("1x++", 1);
        dueRefusedBy("(((((((((x", 6);
        dueRefusedBy("((((((((x(", 1);
        dueRefusedBy("1+(2+(3+(4+5+", 6);
        dueRefusedBy("1)B", 5);
        // Two of these hold for one key.
        dueRefusedBy("1+=2", 1);
        dueRefusedBy("(=1", 1);
        dueRefusedBy("((((((((1(", 5);
        dueRefusedBy("((((((((+", 5);
    }

    private static void ends() {
        sentence(15, "A text of which no key is refused is refused by 5 when its place at the end is not HAS "
            + "(before an '=' at the end), or the row has an open bracket then.");
        String[] texts = {
            "", "=", "1+", "1+=", "(", "(1", "(1=", "1+(2", "1+(2=", "((1)", "((1)=", "(1+2)*", "(="
        };
        for (String text : texts) {
            dueRefusedBy(text, 5);
        }
        dueOut("1", "1");
        dueOut("1=", "1");
        dueOut("(1)", "1");
        dueOut("(1)=", "1");
    }

    private static void refused() {
        sentence(15, "or it is refused, (the text stays in any case) OUT is empty then: less 0 by the code (-1, -5, "
            + "-6).");
        for (String more : new String[] {"x", "+", "=2", "+(3+(4+(5+6"}) {
            TwinEntry t = typed("1+2");
            due("keys of 1+2", t.translate(), 4);
            type(t, more);
            due("refused by a code below 0", t.translate() < 0, true);
            dueThrow("OUT is empty behind " + more, INDEX, () -> t.out(0));
            due("the text stays", t.wipe(), 3 + more.length());
        }
        TwinEntry entry = typed("1");
        due("one key", entry.translate(), 1);
        due("one key again: the OUT before does not count", entry.translate(), 1);
        type(entry, ")");
        due("refused", entry.translate(), -5);
        entry.wipe();
        type(entry, "2");
        due("one key: nor does the text that was refused", entry.translate(), 1);
        TwinEntry t = typed("1+2");
        due("keys", t.translate(), 4);
        due("once more", t.translate(), 4);
        due("the text stays", t.wipe(), 3);
        due("OUT stays when the text goes", outKeys(t, 4), "1=2+");
        type(t, "a");
        due("a shorter OUT", t.translate(), 1);
        dueThrow("nothing is left of the longer one", INDEX, () -> t.out(1));
    }

    private static void outKeys() {
        sentence(16, "Key i of OUT, from 0. IndexOutOfBoundsException: there is none.");
        TwinEntry t = typed("1+a");
        dueThrow("before the text is translated", INDEX, () -> t.out(0));
        t.translate();
        due("the first", t.out(0), (int) '1');
        due("the last", t.out(2), (int) '+');
        for (int i : new int[] {-1, 3, 4, 40, 120, Integer.MAX_VALUE, Integer.MIN_VALUE}) {
            dueRefused("key " + i, INDEX, BoundariesOfTextTest::translated, u -> u.out(i));
        }
        dueThrow("of a new object", INDEX, () -> new TwinEntry().out(0));
    }

    private static TwinEntry translated() {
        TwinEntry t = typed("1+a");
        t.translate();
        return t;
    }

    private static void sameAsTheFormula() {
        sentence(15, "OUT, a row of keys by which the stack model, when LIFT is on, comes to the same X as the "
            + "formula model by the text.");
        String[] texts = {
            "1+(2-(3/7))", "a-(b-(a-b))", "(1)N-(2)N", "((2N)N)Q", "1E5N+(E)N", ".+(.)N", "8-(2)N*(3)N/(4)N",
            "2S-(3Q)S-1I", "123456789012345/(a-b*3)", "(1+2)N-(1+2)N", "1..5-..5", "(a)N*(b)N"
        };
        for (String text : texts) {
            TwinEntry t = keyed("7k3l");
            t.model(1);
            due("the formula " + text, press(t, text + "="), 0);
            String want = number(t, X);
            type(t, text);
            int count = t.translate();
            t.model(0);
            // Four numbers lie on the stack before, and W leaves LIFT on.
            due("the keys of " + text, press(t, "4=5=6=8W" + outKeys(t, count)), 0);
            due("X by the keys of " + text, number(t, X), want);
        }
    }
}
