/** Boundary cases of the document's terms NUMBERS and AN ENTRY. */
public final class BoundariesOfNumbersTest extends Boundaries {
    private BoundariesOfNumbersTest() {
    }

    public static void main(String[] args) {
        greatestAndLeast();
        ties();
        nextToTies();
        tooLarge();
        tooSmall();
        rowOfAnEntry();
        worthOfAnEntry();
        beginOfAnEntry();
        digits();
        point();
        exponentPart();
        signs();
        takingAway();
        nothingLeft();
        nothingHappens();
        entryTooSmallOrTooLarge();
        endOfAnEntry();
        endOfSentences("BoundariesOfNumbersTest");
    }

    private static void greatestAndLeast() {
        sentence(8, "NUMBERS are 0, and those with a SIGN (1 or -1), 12 DIGITS d (a whole number 10^11 .. 10^12 - "
            + "1) and an EXPONENT e (-99 .. 99), worth sign * d * 10^(e - 11).");
        dueX("9.99999999999E99", "999999999999E99");
        dueX("9.99999999999NE99", "-999999999999E99");
        dueX("1E9N9", "100000000000E-99");
        dueX("1NE9N9", "-100000000000E-99");
        dueX("0NE99=", "0E0");
        due("the exponent of the greatest is kept", number(keyed("9.99999999999E99k=a"), 0), "999999999999E99");
        due("and that of the least", number(keyed("1NE9N9t=j"), 9), "-100000000000E-99");
    }

    private static void ties() {
        sentence(3, "of the numbers with 12 digits and any exponent it becomes the one next to it, of two that are "
            + "as near the one with an even d.");
        dueX("100000000000=.5+", "100000000000E11");
        dueX("100000000001=.5+", "100000000002E11");
        dueX("100000000001=.5-", "100000000000E11");
        dueX("100000000002=.5-", "100000000002E11");
        dueX("100000000001N=.5-", "-100000000002E11");
        dueX("100000000000N=.5-", "-100000000000E11");
        dueX("100000000001=1.5*", "150000000002E11");
        dueX("100000000003=1.5*", "150000000004E11");
        dueX("100000000001=1.5N*", "-150000000002E11");
        dueX("246913578025=2/", "123456789012E11");
        dueX("246913578027=2/", "123456789014E11");
        dueX("1000005S", "100001000002E12");
        dueX("262144I", "381469726562E-6");
        // Above the greatest d is the least d of the next exponent, and that is even.
        dueX("999999999999=.5+", "100000000000E12");
        dueX("999999999998=.5+", "999999999998E11");
        dueX("100000000000=.05-", "100000000000E11");
        dueX("1=5E13N-", "100000000000E0");
    }

    private static void nextToTies() {
        sentence(3, "What an operation comes to exactly is ROUNDED: of the numbers with 12 digits and any exponent "
            + "it becomes the one next to it");
        dueX("100000000000=.500000000001+", "100000000001E11");
        dueX("100000000001=.499999999999+", "100000000001E11");
        dueX("100000000001=.499999999999-", "100000000001E11");
        dueX("100000000002=.500000000001-", "100000000001E11");
        dueX("100000000000=5.00000000001E1N+", "100000000001E11");
        dueX("1=5.00000000001E12N+", "100000000001E0");
        dueX("1=4.99999999999E12N+", "100000000000E0");
        // Below a power of ten the numbers lie closer.
        dueX("1=5.00000000001E13N-", "999999999999E-1");
        dueX("1=4.99999999999E13N-", "100000000000E0");
        dueX("100000000000=.06-", "999999999999E10");
        dueX("100000000000=.04-", "100000000000E11");
        // However far the other number lies.
        dueX("1=1E99N+", "100000000000E0");
        dueX("1=1E99N-", "100000000000E0");
        dueX("1E99=1E99N-", "100000000000E99");
        dueX("1E99N=1E99-", "-100000000000E99");
        dueX("0=1E99N-", "-100000000000E-99");
        dueX("1E99N=0+", "100000000000E-99");
        // All that cancels is 0, and what does not cancel is exact.
        dueX("1=1-", "0E0");
        dueX("1.00000000001=1-", "100000000000E-11");
        dueX("1=.999999999999-", "100000000000E-12");
        // A bit far behind the half decides, the even one notwithstanding.
        dueX("100000000000=10000.5000001+", "100000010001E11");
        dueX("100000000000=1000.50000001+", "100000001001E11");
        dueX("100000000000=1.50000000001+", "100000000002E11");
        dueX("500000000000=10001.4999999-", "499999989999E11");
        dueX("100000000001=150000000001*", "150000000003E22");
        dueX("704858496628=456514296504/", "154400092621E0");
        dueX("283818302184=894199725400/", "317399227625E-1");
        dueX("836460296986Q", "914582034039E5");
        dueX("29544561994.1Q", "171885316401E5");
        // Nothing of the operation before counts.
        dueX("100000000000k.5l1=3/ab+", "100000000000E11");
        dueX("100000000000k100000.5l1=3/ab+", "100000100000E11");
        dueX("100000000003k1.5l1=3/ab*", "150000000004E11");
        dueX("246913578025k2l1=3/ab/", "123456789012E11");
        dueX("4k3N=2*aQ", "200000000000E0");
        // Squares, roots and quotients next to halves.
        dueX("1.00000000001Q", "100000000000E0");
        dueX("1.00000000003Q", "100000000001E0");
        dueX(".999999999999Q", "999999999999E-1");
        dueX("9.99999999999E99Q", "999999999999E49");
        dueX("1E99NQ", "316227766017E-50");
        dueX("1E98NQ", "100000000000E-49");
        dueX("999999999999S", "999999999998E23");
        dueX("2=3/", "666666666667E-1");
        dueX("1=999999999999/", "100000000000E-12");
        dueX("999999999998=999999999999/", "999999999999E-1");
    }

    private static void tooLarge() {
        sentence(3, "If its exponent is above 99 then, that is FAULT 2");
        dueX("9.99999999999E99=4.99999999999E87+", "999999999999E99");
        dueX("9.99999999999NE99=4.99999999999E87-", "-999999999999E99");
        // It is rounded first, and only then looked at.
        dueFails(() -> keyed("9.99999999999E99=5E87"), "+", 2);
        dueFails(() -> keyed("9.99999999999NE99=5E87"), "-", 2);
        dueFails(() -> keyed("9E99=1E99"), "+", 2);
        dueX("8E99=1E99+", "900000000000E99");
        dueX("1E50=1E49*", "100000000000E99");
        dueFails(() -> keyed("1E50=1E50"), "*", 2);
        dueX("9.9E49=1E50*", "990000000000E99");
        dueX("1E99=1/", "100000000000E99");
        dueFails(() -> keyed("1E99=.1"), "/", 2);
        dueX("1E99=.999999999999/", "100000000000E99");
        dueX("9.99999999999E49S", "999999999998E99");
        dueFails(() -> keyed("1E50"), "S", 2);
        dueX("1E99NI", "100000000000E99");
        dueFails(() -> formula("9E99+1E99"), "=", 2);
    }

    private static void tooSmall() {
        sentence(3, "if it is below -99, it becomes 0.");
        dueX("1E99N=1/", "100000000000E-99");
        dueX("1E99N=2/", "0E0");
        dueX("9.99999999999E99N=10/", "0E0");
        dueX("9.99999999999NE99N=10/", "0E0");
        dueX("1E50N=1E49N*", "100000000000E-99");
        dueX("1E50N=1E50N*", "0E0");
        dueX("1E50NS", "0E0");
        dueX("1.00000000001E99N=1E99N-", "0E0");
        dueX("1E99N=1.00000000001E99N-", "0E0");
        dueX("1E99I", "100000000000E-99");
        dueX("9.99999999999E99I", "0E0");
        // It is rounded first: from half a unit on, up to the least number.
        dueX("1.5332E50N=6.5223062875E50N*", "100000000000E-99");
        dueX("1.5332NE50N=6.5223062875E50N*", "-100000000000E-99");
        dueX("3.00000000002E50N=3.33333333331E50N*", "100000000000E-99");
        dueX("1.5332E50N=6.52230628749E50N*", "0E0");
        due("no fault by that", keyed("1E50NS").state(1), 0);
    }

    private static void rowOfAnEntry() {
        sentence(3, "AN ENTRY has a sign, a row of up to 12 digits (0 .. 9) with perhaps a point before, among or "
            + "behind them, and perhaps an EXPONENT PART, with a sign of its own and up to two digits.");
        dueLine("123456789012", " 123456789012");
        dueLine(".123456789012", " .123456789012");
        dueLine("123456.789012", " 123456.789012");
        dueLine("123456789012.", " 123456789012.");
        dueLine("123456.789012NE9N8", "-123456.789012E-98");
        dueX(".123456789012", "123456789012E-1");
        dueX("123456.789012", "123456789012E5");
        dueX("123456789012.", "123456789012E11");
    }

    private static void worthOfAnEntry() {
        sentence(3, "It is worth the digits, read with their point (0 without digits), 0 less that if its sign is "
            + "minus, times 10 to its exponent part (to 0 without digits there).");
        dueX(".", "0E0");
        dueX(".N", "0E0");
        dueX("000000000000", "0E0");
        dueX("0N", "0E0");
        dueX("5E", "500000000000E0");
        dueX("5EN", "500000000000E0");
        dueX("5NE", "-500000000000E0");
        dueX("5E00", "500000000000E0");
        dueX("5E07", "500000000000E7");
        dueX("12.5E2N", "125000000000E-1");
        dueX("000000000012", "120000000000E1");
        dueX(".000000000012", "120000000000E-11");
        dueX("0E99", "0E0");
    }

    private static void beginOfAnEntry() {
        sentence(3, "The keys 0 .. 9 . E begin an entry, with nothing in it and the sign plus, when there is none.");
        for (char key : "0123456789.E".toCharArray()) {
            TwinEntry t = keyed(String.valueOf(key));
            due("an entry by " + key, t.state(7), 1);
            due("line by " + key, line(t), key == 'E' ? " 1E+" : " " + key);
        }
        for (char key : "NBCQSWDL=+-*abjkt".toCharArray()) {
            due("no entry by " + key, keyed(String.valueOf(key)).state(7), 0);
        }
        due("the sign is plus again", line(keyed("5NE3N=7")), " 7");
        due("nothing is left of the entry before", line(keyed("5.5NE3N=7E")), " 7E+");
        due("the sign of X is not the entry's", line(keyed("5=N3")), " 3");
        due("an undone B brings the entry back", line(undone(keyed("3B"))), " 3");
        sentence(3, "When there is one, they and N and B are ENTRY KEYS");
        due("N", line(keyed("5N")), "-5");
        due("B", line(keyed("55B")), " 5");
        due("entry keys go on with the same entry", stack(keyed("5NN.BE1B")), " 5 0 0 0 0");
    }

    private static TwinEntry undone(TwinEntry t) {
        due("undo", t.undo(), true);
        return t;
    }

    private static void digits() {
        sentence(3, "a digit comes to the end of the exponent part, if there is one and it has fewer than two "
            + "digits, or without such a part to the end of the row, if that has fewer than 12 digits; otherwise "
            + "nothing happens.");
        dueLine("12345678901", " 12345678901");
        dueLine("1234567890123", " 123456789012");
        dueX("1234567890123", "123456789012E11");
        dueLine("0000000000001", " 000000000000");
        dueX("0000000000001", "0E0");
        dueLine("1.234567890123", " 1.23456789012");
        dueLine("123456789012.3", " 123456789012.");
        dueLine("5E1", " 5E+1");
        dueLine("5E12", " 5E+12");
        dueLine("5E123", " 5E+12");
        dueLine("5E001", " 5E+00");
        dueX("5E001", "500000000000E0");
        dueLine("5E12N3", " 5E-12");
        dueLine("123456789012E34", " 123456789012E+34");
        dueLine("5E12B3", " 5E+13");
        dueLine("123456789012B3", " 123456789013");
    }

    private static void point() {
        sentence(3, "'.' comes to the end of the row, if there is neither a point nor an exponent part; otherwise "
            + "nothing happens.");
        dueLine("1.2.3", " 1.23");
        dueLine("..", " .");
        dueLine("1E.5", " 1E+5");
        dueX("12E5.", "120000000000E6");
        dueLine("1.2E.", " 1.2E+");
        dueLine("12E5BB.3", " 12.3");
        dueLine("1.B.2", " 1.2");
    }

    private static void exponentPart() {
        sentence(3, "E begins an exponent part, with the sign plus, if there is none; if the row has no digits "
            + "then, it becomes the digit 1 alone.");
        dueLine("5E", " 5E+");
        dueLine("5E3E4", " 5E+34");
        dueLine("5ENE", " 5E-");
        dueLine("5E3NBBE", " 5E+");
        dueLine("E", " 1E+");
        dueX("E", "100000000000E0");
        dueLine(".E", " 1E+");
        dueX(".E5", "100000000000E5");
        dueLine(".NE", "-1E+");
        dueX(".NE", "-100000000000E0");
        dueLine(".EB.5", " 1.5");
        dueLine("0E", " 0E+");
        dueLine(".0E", " .0E+");
        dueX(".0E5", "0E0");
    }

    private static void signs() {
        sentence(3, "N changes the sign of the exponent part, if there is one, otherwise that of the entry.");
        dueLine("5N", "-5");
        dueLine("5NN", " 5");
        dueLine("5NE", "-5E+");
        dueLine("5NEN", "-5E-");
        dueLine("5EN", " 5E-");
        dueLine("5ENN", " 5E+");
        dueLine("5EN3BBN", "-5");
        dueLine("0N", "-0");
        dueX("5EN3", "500000000000E-3");
    }

    private static void takingAway() {
        sentence(3, "B takes away the last digit of the exponent part, or, if that has none, the part; without such "
            + "a part the last digit or point of the row");
        dueLine("12.5E34B", " 12.5E+3");
        dueLine("12.5E34BB", " 12.5E+");
        dueLine("12.5E34BBB", " 12.5");
        dueLine("12.5E34BBBB", " 12.");
        dueLine("12.5E34BBBBB", " 12");
        dueLine("12.5E34BBBBBB", " 1");
        dueLine("12.5E34NB", " 12.5E-3");
        dueLine("12.5E10B", " 12.5E+1");
        dueLine("12.5E09B", " 12.5E+0");
        dueLine("10B", " 1");
        dueLine("12.5ENB", " 12.5");
        dueLine(".5B", " .");
        dueLine("5NE3BB", "-5");
        dueX("12.5E34B", "125000000000E4");
        dueX("12.5E34BBBB", "120000000000E1");
        dueX("12.5NBB", "-120000000000E1");
    }

    private static void nothingLeft() {
        sentence(3, "if nothing is left in that, there is no entry any more, X is 0, and LIFT is off (the place "
            + "stays).");
        for (String keys : new String[] {"4W5B", "4W5NB", "4W.B", "4W12BB", "4WEBB", "4W.5E1BBBB"}) {
            TwinEntry t = keyed(keys);
            due("no entry behind " + keys, t.state(7), 0);
            due("numbers behind " + keys, stack(t), " 0 0 4 0 0");
            due("LIFT behind " + keys, t.state(8), 0);
            due("the next number takes X's place", press(t, "7"), 0);
            due("numbers then", stack(t), " 7 0 4 0 0");
        }
        due("a point is something", keyed("5.B").state(7), 1);
        due("a point is something", keyed(".5B").state(7), 1);
        due("the place HAS stays", formula("5B").state(6), 2);
        TwinEntry f = formula("6=5B");
        due("the place HAS stays, behind =", f.state(6), 2);
        due("LIFT in the formula model", f.state(8), 0);
        due("X in the formula model", number(f, X), "0E0");
        dueFormula("9-5B=", "900000000000E0");
        due("the next B is keyed without an entry", line(keyed("5BB")), " 0.00");
    }

    private static void nothingHappens() {
        sentence(3, "A key by which nothing happens does not fail.");
        String[] keys = {"123456789012", "3", "1.", ".", "1E", "E", "1E", ".", "1E12", "3", "0E00", "0"};
        for (int i = 0; i < keys.length; i += 2) {
            TwinEntry t = keyed(keys[i]);
            String before = line(t);
            press(t, "x");
            due("a key behind " + keys[i], press(t, keys[i + 1]), 0);
            due("the fault is gone", t.state(1), 0);
            due("line", line(t), before);
        }
    }

    private static void entryTooSmallOrTooLarge() {
        sentence(3, "As long as there is an entry, X is what it is worth (0 if that is less in size than the least "
            + "number that is not 0; fault 2 if it is greater in size than the greatest).");
        TwinEntry t = new TwinEntry();
        String[] want = {"100000000000E0", "120000000000E1", "120000000000E1", "125000000000E1", "-125000000000E1"};
        for (int i = 0; i < want.length; i++) {
            press(t, "12.5N".substring(i, i + 1));
            due("X behind key " + i, number(t, X), want[i]);
        }
        dueX("1E9N9", "100000000000E-99");
        dueX(".99E9N9", "0E0");
        dueX(".99NE9N9", "0E0");
        dueX("10.E9N9", "100000000000E-98");
        dueX("0.00000000001E9N9B", "100000000000E-20");
        dueX(".000000000001E88N", "0E0");
        dueX(".000000000001E87N", "100000000000E-99");
        due("the entry is there still", line(keyed(".99E9N9")), " .99E-99");
        dueX("9.99999999999E99", "999999999999E99");
        dueX("99.9999999999E98", "999999999999E99");
        dueX("999999999999E88", "999999999999E99");
        dueX("000000000001E99", "100000000000E99");
        dueX(".1E99", "100000000000E98");
        dueFails(() -> keyed("10E9"), "9", 2);
        dueFails(() -> keyed("10NE9"), "9", 2);
        dueFails(() -> keyed("999999999999E8"), "9", 2);
        dueFails(() -> keyed("10.E9N9"), "N", 2);
        dueFails(() -> formula("1+10E9"), "9", 2);
        TwinEntry u = keyed("10E9");
        due("fails", press(u, "9"), 2);
        due("and goes on as before", press(u, "8"), 0);
        due("line", line(u), " 10E+98");
        due("X", number(u, X), "100000000000E99");
    }

    private static void endOfAnEntry() {
        sentence(3, "Every key that is none of these first ENDS the entry, if there is one: X stays, and LIFT is on.");
        for (char key : "QSIabjktWDL+-*/".toCharArray()) {
            TwinEntry t = keyed("8=4" + key);
            due("no entry behind " + key, t.state(7), 0);
            due("LIFT behind " + key, t.state(8), 1);
        }
        due("X is pushed by what follows", stack(keyed("8k4a")), " 8 4 8 0 0");
        due("LAST is pushed behind an entry", stack(keyed("8S4L")), " 8 4 6 0 8");
        for (char key : "QSICk+-*/=a".toCharArray()) {
            TwinEntry t = formula("4" + key);
            due("no entry behind " + key + " in a formula", t.state(7), 0);
            due("LIFT behind " + key + " in a formula", t.state(8), 1);
        }
        TwinEntry t = formula("(4");
        press(t, ")");
        due("LIFT behind )", t.state(8), 1);
        due("X stays", number(t, X), "400000000000E0");
        due("LIFT without an entry that ends", formula("+(").state(8), 0);
    }
}
