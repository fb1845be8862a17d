/** Boundary cases of the document's term THE LINE, and of the promises 7, shown, and 10, mode. */
public final class BoundariesOfLineTest extends Boundaries {
    private static final int FIXED = 0;
    private static final int SCIENTIFIC = 1;

    private BoundariesOfLineTest() {
    }

    public static void main(String[] args) {
        characters();
        faults();
        entries();
        firstMode();
        scientific();
        roundedUpToTen();
        zero();
        fixed();
        scientificInstead();
        shown();
        mode();
        endOfSentences("BoundariesOfLineTest");
    }

    private static void dueScientific(int n, String keys, String want) {
        dueMode(SCIENTIFIC, n, keys, want);
    }

    private static void dueFixed(int n, String keys, String want) {
        dueMode(FIXED, n, keys, want);
    }

    private static void characters() {
        sentence(7, "THE LINE has 20 characters, blanks (32) behind what follows.");
        due("a number", wholeLine(new TwinEntry()), " 0.00               ");
        due("an entry", wholeLine(keyed("123456.789012NE9N9")), "-123456.789012E-99  ");
        due("the shortest entry", wholeLine(keyed("7")), " 7                  ");
        TwinEntry t = keyed("123456.789012NE9N9");
        press(t, "x");
        due("nothing of the entry behind a fault", wholeLine(t), "FAULT 1             ");
        t.undo();
        press(t, "BBB");
        due("nothing of a longer entry", wholeLine(t), "-123456.78901       ");
        TwinEntry u = keyed("123456789012=");
        due("the longest number", wholeLine(u), " 123456789012.      ");
        press(u, "C");
        due("nothing of a longer number", wholeLine(u), " 0.00               ");
    }

    private static void faults() {
        sentence(7, "When a fault is shown: FAULT, a blank, its digit.");
        due("1", line(failed(keyed("5"), "x")), "FAULT 1");
        due("2", line(failed(keyed("9E99"), "S")), "FAULT 2");
        due("3", line(failed(keyed("0"), "I")), "FAULT 3");
        due("4", line(failed(keyed("5N"), "Q")), "FAULT 4");
        due("5", line(failed(formula("5"), "(")), "FAULT 5");
        due("6", line(failed(formula("(((((((("), "(")), "FAULT 6");
        due("7", line(failed(keyed("5"), "\u0090")), "FAULT 7");
        TwinEntry calls = programmed(128, 144);
        press(calls, "\u0090");
        calls.run(5);
        due("8", line(calls), "FAULT 8");
        TwinEntry solver = programmed(128, "S");
        press(solver, "1=2");
        solver.solve(0);
        solver.run(500);
        due("9", line(solver), "FAULT 9");
        solver.mode(SCIENTIFIC, 9);
        due("in any mode", line(solver), "FAULT 9");
    }

    private static TwinEntry failed(TwinEntry t, String key) {
        due("fails by " + key, press(t, key) > 0, true);
        return t;
    }

    private static void entries() {
        sentence(7, "Otherwise with an entry: '-' or a blank by its sign, its row as it was keyed, and with an "
            + "exponent part E, '-' or '+' by its sign, and its digits.");
        String[] entries = {
            "0", " 0", "0N", "-0", ".", " .", ".N", "-.", "007", " 007", "00.", " 00.", ".50", " .50", "1E", " 1E+",
            "1EN", " 1E-", "1E0", " 1E+0", "1E00", " 1E+00", "1E05", " 1E+05", "1E5N", " 1E-5",
            "1E05N", " 1E-05", "1NE05", "-1E+05", "000000000000", " 000000000000",
            ".000000000000", " .000000000000", "1.E", " 1.E+", "0.0E0", " 0.0E+0"
        };
        for (int i = 0; i < entries.length; i += 2) {
            dueLine(entries[i], entries[i + 1]);
            dueScientific(9, entries[i], entries[i + 1]);
            dueFixed(0, entries[i], entries[i + 1]);
        }
        due("also what is worth 0", line(keyed(".9E9N9")), " .9E-99");
    }

    private static void firstMode() {
        sentence(7, "Otherwise X by the MODE, FIXED or SCIENTIFIC with n digits, at first FIXED with 2.");
        dueLine("", " 0.00");
        dueLine("1.237=", " 1.24");
        dueLine("1.237N=", "-1.24");
        due("a program that runs shows X", line(running()), " 1.24");
    }

    private static TwinEntry running() {
        TwinEntry t = programmed(128, 136);
        press(t, "1.237\u0090");
        return t;
    }

    private static void scientific() {
        sentence(7, "SCIENTIFIC: '-' if X is below 0, else a blank; d cut to n + 1 digits, rounded likewise (to the "
            + "next, of two the even one): the first of them, a point, the others; E, '-' or '+' by the exponent's "
            + "sign ('+' for 0), and its two digits.");
        dueScientific(0, "5=", " 5.E+00");
        dueScientific(0, "5N=", "-5.E+00");
        dueScientific(9, "123456789012=", " 1.234567890E+11");
        dueScientific(9, "123456789050=", " 1.234567890E+11");
        dueScientific(9, "123456789150=", " 1.234567892E+11");
        dueScientific(9, "123456789051=", " 1.234567891E+11");
        dueScientific(0, "2.5=", " 2.E+00");
        dueScientific(0, "3.5=", " 4.E+00");
        dueScientific(0, "3.5N=", "-4.E+00");
        dueScientific(0, "2.50000000001=", " 3.E+00");
        dueScientific(0, "3.49999999999=", " 3.E+00");
        dueScientific(1, "1.25=", " 1.2E+00");
        dueScientific(1, "1.35=", " 1.4E+00");
        dueScientific(2, ".5=", " 5.00E-01");
        dueScientific(2, "1E9N9=", " 1.00E-99");
        dueScientific(2, "1NE9N9=", "-1.00E-99");
        dueScientific(2, "1E9=", " 1.00E+09");
        dueScientific(2, "1E9N=", " 1.00E-09");
        dueScientific(2, "1E99=", " 1.00E+99");
    }

    private static void roundedUpToTen() {
        sentence(7, "If d is rounded up to a 1 with n + 1 zeros behind, the last zero is left out, and the exponent "
            + "is 1 higher; but if that would be 100, d is cut without rounding.");
        dueScientific(2, "9.995=", " 1.00E+01");
        dueScientific(2, "9.99499999999=", " 9.99E+00");
        dueScientific(2, "9.985=", " 9.98E+00");
        dueScientific(0, "9.5=", " 1.E+01");
        dueScientific(0, "9.49999999999=", " 9.E+00");
        dueScientific(0, "9.5N=", "-1.E+01");
        dueScientific(9, "9.99999999950=", " 1.000000000E+01");
        dueScientific(9, "9.99999999949=", " 9.999999999E+00");
        dueScientific(2, ".9996=", " 1.00E+00");
        dueScientific(2, ".09996=", " 1.00E-01");
        dueScientific(2, "9.996E9N9=", " 1.00E-98");
        dueScientific(2, "9.996E98=", " 1.00E+99");
        dueScientific(2, "9.996E99=", " 9.99E+99");
        dueScientific(2, "9.996NE99=", "-9.99E+99");
        dueScientific(0, "9.5E99=", " 9.E+99");
        dueScientific(0, "9.99999999999E99=", " 9.E+99");
        dueScientific(9, "9.99999999999E99=", " 9.999999999E+99");
        // Without that carry it is rounded there, too.
        dueScientific(2, "9.986E99=", " 9.99E+99");
        dueScientific(2, "9.985E99=", " 9.98E+99");
        dueScientific(0, "8.5E99=", " 8.E+99");
        dueScientific(0, "8.6E99=", " 9.E+99");
    }

    private static void zero() {
        sentence(7, "For 0 all digits are 0, and the exponent is.");
        dueScientific(0, "0=", " 0.E+00");
        dueScientific(9, "0=", " 0.000000000E+00");
        dueScientific(3, "5N=C", " 0.000E+00");
        dueScientific(3, "0N=", " 0.000E+00");
    }

    private static void fixed() {
        sentence(7, "FIXED: the sign likewise; the size of X rounded (likewise) to p digits behind the point, p "
            + "being n, but 11 - e if that is less and X is not 0: its whole part without zeros before it, but at "
            + "least one digit; a point; p digits.");
        dueFixed(0, "0=", " 0.");
        dueFixed(9, "0=", " 0.000000000");
        dueFixed(9, "1=", " 1.000000000");
        dueFixed(9, "10=", " 10.000000000");
        dueFixed(9, "100=", " 100.000000000");
        dueFixed(9, "1000=", " 1000.00000000");
        dueFixed(9, "1E10=", " 10000000000.0");
        dueFixed(9, "1E11=", " 100000000000.");
        dueFixed(0, "1E11=", " 100000000000.");
        dueFixed(2, "1E9=", " 1000000000.00");
        dueFixed(2, "1E10=", " 10000000000.0");
        dueFixed(9, "12.3456789015=", " 12.345678902");
        dueFixed(9, "12.3456789025=", " 12.345678902");
        dueFixed(9, "123.456789015=", " 123.456789015");
        dueFixed(2, "1.005=", " 1.00");
        dueFixed(2, "1.015=", " 1.02");
        dueFixed(2, "1.015N=", "-1.02");
        dueFixed(2, "1.00500000001=", " 1.01");
        dueFixed(2, "1.01499999999=", " 1.01");
        dueFixed(0, "1.5=", " 2.");
        dueFixed(0, "2.5=", " 2.");
        dueFixed(0, "2.5N=", "-2.");
        dueFixed(0, ".51=", " 1.");
        dueFixed(2, ".1=", " 0.10");
        dueFixed(2, ".015=", " 0.02");
        dueFixed(2, ".025=", " 0.02");
        // Rounded up, the whole part may have a digit more.
        dueFixed(2, "9.995=", " 10.00");
        dueFixed(2, ".995=", " 1.00");
        dueFixed(2, "999999999.995=", " 1000000000.00");
        dueFixed(0, "99999999999.5=", " 100000000000.");
        dueFixed(1, "99999999999.5=", " 99999999999.5");
    }

    private static void scientificInstead() {
        sentence(7, "SCIENTIFIC with n is taken instead if X is not 0, and e is above 11 or all these digits would "
            + "be 0.");
        dueFixed(2, "999999999999=", " 999999999999.");
        dueFixed(2, "999999999999N=", "-999999999999.");
        dueFixed(2, "1E12=", " 1.00E+12");
        dueFixed(2, "1NE12=", "-1.00E+12");
        dueFixed(0, "9.99999999999E99=", " 9.E+99");
        dueFixed(4, "9.99999999999E98=", " 1.0000E+99");
        dueFixed(2, ".005=", " 5.00E-03");
        dueFixed(2, ".005N=", "-5.00E-03");
        dueFixed(2, ".00500000001=", " 0.01");
        dueFixed(2, ".00500000001N=", "-0.01");
        dueFixed(0, ".5=", " 5.E-01");
        dueFixed(0, ".500000000001=", " 1.");
        dueFixed(9, "5E10N=", " 5.000000000E-10");
        dueFixed(9, "5.00000000001E10N=", " 0.000000001");
        dueFixed(9, "4.99999999999E10N=", " 5.000000000E-10");
        dueFixed(9, "1E9N=", " 0.000000001");
        dueFixed(2, "1E9N9=", " 1.00E-99");
        dueFixed(9, "9E9N9=", " 9.000000000E-99");
        dueFixed(2, "9E13N=", " 9.00E-13");
    }

    private static void shown() {
        sentence(7, "Characters 8 * part .. 8 * part + 7 of the line in the bytes of a long, the first in the "
            + "lowest; bytes 0 behind the 20th.");
        TwinEntry t = keyed("123456.789012NE9N9");
        due("part 0", t.shown(0), pack("-123456."));
        due("part 1", t.shown(1), pack("789012E-"));
        due("part 2", t.shown(2), pack("99  \0\0\0\0"));
        due("part 2 of a short line", new TwinEntry().shown(2), 0x20202020L);
        sentence(7, "IllegalArgumentException: part is not 0 .. 2.");
        for (int part : new int[] {-1, 3, Integer.MAX_VALUE, Integer.MIN_VALUE, 8}) {
            dueRefused("part " + part, ARGUMENT, () -> keyed("5"), u -> u.shown(part));
            dueThrow("part " + part + " when a program runs", ARGUMENT, () -> running().shown(part));
        }
    }

    private static void mode() {
        sentence(10, "The mode becomes FIXED (kind 0) or SCIENTIFIC (1) with n digits.");
        dueFixed(0, "1=3/", " 3.E-01");
        dueFixed(9, "1=3/", " 0.333333333");
        dueScientific(0, "1=3/", " 3.E-01");
        dueScientific(9, "1=3/", " 3.333333333E-01");
        TwinEntry t = running();
        t.mode(SCIENTIFIC, 1);
        due("when a program runs", line(t), " 1.2E+00");
        sentence(10, "IllegalArgumentException: kind is not 0 or 1, or n not 0 .. 9.");
        int[] wrong = {-1, 0, 2, 0, 0, -1, 0, 10, 1, -1, 1, 10, 2, 10, Integer.MIN_VALUE, 5, 1, Integer.MAX_VALUE};
        for (int i = 0; i < wrong.length; i += 2) {
            int kind = wrong[i];
            int n = wrong[i + 1];
            dueRefused("mode " + kind + ", " + n, ARGUMENT, () -> keyed("2=3/"), u -> u.mode(kind, n));
        }
    }
}
