import java.math.BigDecimal;
import java.math.BigInteger;
import java.math.MathContext;
import java.math.RoundingMode;
import java.util.ArrayDeque;
import java.util.ArrayList;
import java.util.Deque;
import java.util.List;

/**
 * The document once more, written another way: BigDecimal, texts, copies of the whole state. It is
 * slow and makes many objects; ReferenceTest compares the class with it.
 */
final class Reference {
    private static final MathContext TWELVE = new MathContext(12, RoundingMode.HALF_EVEN);
    private static final BigDecimal TWO = BigDecimal.valueOf(2);
    private static final int X = 10;
    private static final int Y = 11;
    private static final int Z = 12;
    private static final int T = 13;
    private static final int LAST = 14;

    /** A key or a step that fails. */
    private static final class Fault extends RuntimeException {
        private static final long serialVersionUID = 1L;
        final int number;

        Fault(int number) {
            this.number = number;
        }
    }

    /** What undoing keeps. Things of the row are "(" or a number, a blank and the operation. */
    private static final class Kept {
        BigDecimal[] numbers = new BigDecimal[15];
        List<String> row = new ArrayList<>();
        int place;
        boolean lift;
        String sign;
        String digits;
        String exponentPart;

        Kept() {
            java.util.Arrays.fill(numbers, BigDecimal.ZERO);
        }

        Kept copy() {
            Kept other = new Kept();
            other.numbers = numbers.clone();
            other.row = new ArrayList<>(row);
            other.place = place;
            other.lift = lift;
            other.sign = sign;
            other.digits = digits;
            other.exponentPart = exponentPart;
            return other;
        }

        boolean hasEntry() {
            return digits != null;
        }
    }

    private Kept now = new Kept();
    private final Deque<Kept> undoable = new ArrayDeque<>();
    private final int[] codes = new int[100];
    private int model;
    private int fault;
    private int kind;
    private int behind = 2;
    private String text = "";
    private String outText = "";

    private int runs;
    private int at;
    private final Deque<Integer> calls = new ArrayDeque<>();

    private Kept before;
    private int start;
    private BigDecimal a;
    private BigDecimal b;
    private BigDecimal valueA;
    private BigDecimal valueB;
    private BigDecimal tried;
    private int values;

    // ---- numbers

    private static BigDecimal rounded(BigDecimal exact) {
        if (exact.signum() == 0) {
            return BigDecimal.ZERO;
        }
        BigDecimal r = exact.round(TWELVE);
        if (exponentOf(r) > 99) {
            throw new Fault(2);
        }
        return exponentOf(r) < -99 ? BigDecimal.ZERO : r;
    }

    private static int exponentOf(BigDecimal v) {
        return v.signum() == 0 ? 0 : v.precision() - v.scale() - 1;
    }

    private static BigDecimal combined(char key, BigDecimal left, BigDecimal right) {
        switch (key) {
            case '+':
                return rounded(left.add(right));
            case '-':
                return rounded(left.subtract(right));
            case '*':
                return rounded(left.multiply(right));
            default:
                if (right.signum() == 0) {
                    throw new Fault(3);
                }
                return rounded(left.divide(right, TWELVE));
        }
    }

    private static BigDecimal rootOf(BigDecimal v) {
        if (v.signum() < 0) {
            throw new Fault(4);
        }
        int scale = v.scale() % 2 == 0 ? v.scale() : v.scale() + 1;
        BigInteger square = v.setScale(scale).unscaledValue().multiply(BigInteger.TEN.pow(60));
        BigInteger[] root = square.sqrtAndRemainder();
        // A 1 far behind stands for all that the root still has.
        BigInteger more = root[0].multiply(BigInteger.TEN);
        if (root[1].signum() != 0) {
            more = more.add(BigInteger.ONE);
        }
        return rounded(new BigDecimal(more, scale / 2 + 31));
    }

    // ---- keys

    private static boolean isIn(int key, String keys) {
        return key < 128 && keys.indexOf((char) key) >= 0;
    }

    /** Does a key on a copy: the copy, or a Fault. */
    private Kept afterKey(int key) {
        Kept k = now.copy();
        if (isIn(key, "0123456789.E") || (k.hasEntry() && isIn(key, "NB"))) {
            entryKey(k, (char) key);
            return k;
        }
        endEntry(k);
        if (key >= 'k' && key <= 't') {
            k.numbers[key - 'k'] = k.numbers[X];
            k.lift = model == 0 || k.lift;
        } else if (model == 0) {
            stackKey(k, key);
        } else {
            formulaKey(k, key);
        }
        return k;
    }

    private static void endEntry(Kept k) {
        if (k.hasEntry()) {
            k.digits = null;
            k.exponentPart = null;
            k.lift = true;
        }
    }

    private void entryKey(Kept k, char key) {
        boolean begins = !k.hasEntry();
        if (begins) {
            k.sign = "";
            k.digits = "";
            k.exponentPart = null;
        }
        String onlyDigits = k.digits.replace(".", "");
        if (Character.isDigit(key)) {
            if (k.exponentPart != null) {
                k.exponentPart += k.exponentPart.length() < 3 ? "" + key : "";
            } else if (onlyDigits.length() < 12) {
                k.digits += key;
            }
        } else if (key == '.') {
            k.digits += k.exponentPart == null && !k.digits.contains(".") ? "." : "";
        } else if (key == 'E') {
            if (k.exponentPart == null) {
                k.exponentPart = "+";
                k.digits = onlyDigits.isEmpty() ? "1" : k.digits;
            }
        } else if (key == 'N') {
            if (k.exponentPart != null) {
                k.exponentPart = (k.exponentPart.startsWith("+") ? "-" : "+") + k.exponentPart.substring(1);
            } else {
                k.sign = k.sign.isEmpty() ? "-" : "";
            }
        } else if (k.exponentPart != null) {
            k.exponentPart = k.exponentPart.length() == 1 ? null : shorter(k.exponentPart);
        } else {
            k.digits = shorter(k.digits);
            if (k.digits.isEmpty()) {
                k.digits = null;
                k.numbers[X] = BigDecimal.ZERO;
                k.lift = false;
                return;
            }
        }
        BigDecimal worth = worthOf(k);
        if (begins) {
            bring(k, worth);
        } else {
            k.numbers[X] = worth;
        }
    }

    private static String shorter(String s) {
        return s.substring(0, s.length() - 1);
    }

    private static BigDecimal worthOf(Kept k) {
        String plain = k.digits.equals(".") ? "0" : k.digits;
        plain = plain.startsWith(".") ? "0" + plain : plain;
        plain = plain.endsWith(".") ? shorter(plain) : plain;
        int power = k.exponentPart == null || k.exponentPart.length() == 1
            ? 0 : Integer.parseInt(k.exponentPart);
        return rounded(new BigDecimal(k.sign + plain).scaleByPowerOfTen(power));
    }

    private void bring(Kept k, BigDecimal number) {
        if (model == 1) {
            k.place = 2;
        } else if (k.lift) {
            k.numbers[T] = k.numbers[Z];
            k.numbers[Z] = k.numbers[Y];
            k.numbers[Y] = k.numbers[X];
        }
        k.numbers[X] = number;
    }

    private static BigDecimal function(int key, BigDecimal x) {
        switch (key) {
            case 'Q':
                return rootOf(x);
            case 'S':
                return combined('*', x, x);
            case 'I':
                return combined('/', BigDecimal.ONE, x);
            case 'N':
                return x.negate();
            default:
                return BigDecimal.ZERO;
        }
    }

    private void stackKey(Kept k, int key) {
        BigDecimal[] n = k.numbers;
        BigDecimal x = n[X];
        if (isIn(key, "QSINCB")) {
            n[X] = function(key, x);
            n[LAST] = isIn(key, "QSI") ? x : n[LAST];
        } else if (key >= 'a' && key <= 'j') {
            bring(k, n[key - 'a']);
        } else if (isIn(key, "+-*/")) {
            n[X] = combined((char) key, n[Y], x);
            n[LAST] = x;
            n[Y] = n[Z];
            n[Z] = n[T];
        } else if (key == '=') {
            n[T] = n[Z];
            n[Z] = n[Y];
            n[Y] = x;
        } else if (key == 'W') {
            n[X] = n[Y];
            n[Y] = x;
        } else if (key == 'D') {
            n[X] = n[Y];
            n[Y] = n[Z];
            n[Z] = n[T];
            n[T] = x;
        } else if (key == 'L') {
            bring(k, n[LAST]);
        } else {
            throw new Fault(1);
        }
        k.lift = !isIn(key, "=CB");
    }

    private void formulaKey(Kept k, int key) {
        if (isIn(key, "QSINCB")) {
            k.numbers[X] = function(key, k.numbers[X]);
            k.place = 2;
        } else if (key >= 'a' && key <= 'j') {
            bring(k, k.numbers[key - 'a']);
        } else if (isIn(key, "+-*/")) {
            faultIf(k.place == 1, 5);
            while (!k.row.isEmpty() && closes((char) key, lastThing(k))) {
                close(k);
            }
            k.row.add(k.numbers[X] + " " + (char) key);
            k.place = 1;
        } else if (key == '(') {
            faultIf(k.place == 2, 5);
            k.row.add("(");
            k.place = 1;
        } else if (key == ')') {
            faultIf(k.place != 2 || !k.row.contains("("), 5);
            while (!lastThing(k).equals("(")) {
                close(k);
            }
            close(k);
            k.place = 2;
        } else if (key == '=') {
            faultIf(k.place == 1, 5);
            while (!k.row.isEmpty()) {
                close(k);
            }
            k.place = 0;
        } else {
            throw new Fault(1);
        }
        faultIf(k.row.size() > 8, 6);
    }

    private static void faultIf(boolean holds, int number) {
        if (holds) {
            throw new Fault(number);
        }
    }

    private static String lastThing(Kept k) {
        return k.row.get(k.row.size() - 1);
    }

    private static boolean closes(char key, String thing) {
        boolean tight = thing.endsWith("*") || thing.endsWith("/");
        return !thing.equals("(") && (tight || key == '+' || key == '-');
    }

    private static void close(Kept k) {
        String thing = k.row.remove(k.row.size() - 1);
        if (!thing.equals("(")) {
            String[] parts = thing.split(" ");
            k.numbers[X] = combined(parts[1].charAt(0), new BigDecimal(parts[0]), k.numbers[X]);
        }
    }

    // ---- programs and the solver

    private int labelled(int label) {
        for (int i = 0; i < 100; i++) {
            if (codes[i] == 128 + label) {
                return i;
            }
        }
        throw new Fault(7);
    }

    /** One step; true when the program is over. */
    private boolean step() {
        int code = at >= 100 ? 0 : codes[at];
        if (code == 0 || code == 153) {
            return true;
        }
        if (code >= 128 && code <= 135) {
            at++;
            return false;
        }
        if (code < 128 || code > 165) {
            now = afterKey(code);
            at++;
            return false;
        }
        Kept k = now.copy();
        endEntry(k);
        int next = at + 1;
        boolean over = false;
        if (code <= 143) {
            next = labelled(code - 136) + 1;
        } else if (code <= 151) {
            next = labelled(code - 144) + 1;
            faultIf(calls.size() == 4, 8);
            calls.push(at);
        } else if (code == 152) {
            over = calls.isEmpty();
            next = over ? at : calls.pop() + 1;
        } else if (code == 154) {
            next += k.numbers[X].signum() == 0 ? 0 : 1;
        } else if (code == 155) {
            next += k.numbers[X].signum() < 0 ? 0 : 1;
        } else {
            int r = code - 156;
            k.numbers[r] = combined('-', k.numbers[r], BigDecimal.ONE);
            next += k.numbers[r].signum() > 0 ? 0 : 1;
        }
        now = k;
        at = next;
        return over;
    }

    private void takeValue(BigDecimal v) {
        faultIf(values == 100, 9);
        values++;
        tried = v;
        for (int i = X; i <= T; i++) {
            now.numbers[i] = v;
        }
        now.lift = true;
        now.digits = null;
        now.exponentPart = null;
        at = start;
        calls.clear();
    }

    private void found(BigDecimal end, BigDecimal value) {
        now.numbers[X] = end;
        now.numbers[Y] = value;
        now.numbers[Z] = a;
        now.numbers[T] = b;
        now.lift = true;
        now.digits = null;
        now.exponentPart = null;
        runs = 0;
        keep(before);
    }

    private void valueTaken() {
        BigDecimal value = now.numbers[X];
        if (value.signum() == 0) {
            a = tried;
            b = tried;
            found(tried, value);
            return;
        }
        if (values == 1) {
            valueA = value;
            takeValue(b);
            return;
        }
        if (values == 2) {
            faultIf(value.signum() == valueA.signum(), 9);
            valueB = value;
        } else if (value.signum() == valueA.signum()) {
            a = tried;
            valueA = value;
        } else {
            b = tried;
            valueB = value;
        }
        BigDecimal m = combined('+', a, combined('/', combined('-', b, a), TWO));
        if (m.compareTo(a) != 0 && m.compareTo(b) != 0) {
            takeValue(m);
        } else if (valueB.abs().compareTo(valueA.abs()) < 0) {
            found(b, valueB);
        } else {
            found(a, valueA);
        }
    }

    private void keep(Kept kept) {
        undoable.addLast(kept);
        if (undoable.size() > 5) {
            undoable.removeFirst();
        }
    }

    // ---- the translator

    private int translated() {
        StringBuilder keys = new StringBuilder();
        StringBuilder kinds = new StringBuilder();
        List<Character> row = new ArrayList<>();
        int place = 0;
        boolean entry = false;
        String body = text.endsWith("=") ? shorter(text) : text;
        for (char key : body.toCharArray()) {
            faultIf(!isIn(key, "0123456789.EN+-*/()QSIabcdefghij"), 1);
            boolean entryKey = isIn(key, "0123456789.E") || (key == 'N' && entry);
            boolean afterEntryKey = kinds.toString().endsWith("e");
            if (entryKey) {
                faultIf(!entry && place == 2, 5);
                if (!entry && afterEntryKey) {
                    keys.append('=');
                    kinds.append('-');
                }
                keys.append(key);
                kinds.append('e');
                entry = true;
                place = 2;
            } else {
                entry = false;
                if (isIn(key, "abcdefghij")) {
                    faultIf(place == 2, 5);
                    keys.append(key);
                    kinds.append('-');
                    place = 2;
                } else if (isIn(key, "QSIN")) {
                    faultIf(place != 2, 5);
                    keys.append(key == 'N' && afterEntryKey ? "WWN" : "" + key);
                    kinds.append('-');
                } else if (key == '(') {
                    faultIf(place == 2, 5);
                    row.add('(');
                    place = 1;
                } else if (key == ')') {
                    faultIf(place != 2 || !row.contains('('), 5);
                    while (row.get(row.size() - 1) != '(') {
                        keys.append(row.remove(row.size() - 1));
                        kinds.append('-');
                    }
                    row.remove(row.size() - 1);
                } else {
                    faultIf(place != 2, 5);
                    while (!row.isEmpty() && closes(key, "" + row.get(row.size() - 1))) {
                        keys.append(row.remove(row.size() - 1));
                        kinds.append('-');
                    }
                    row.add(key);
                    place = 1;
                }
            }
            long numbers = row.stream().filter(c -> c != '(').count();
            faultIf(row.size() > 8 || numbers + (place == 2 ? 1 : 0) > 4, 6);
        }
        faultIf(place != 2 || row.contains('('), 5);
        for (int i = row.size() - 1; i >= 0; i--) {
            keys.append(row.get(i));
        }
        outText = keys.toString();
        return outText.length();
    }

    // ---- the line

    private String lineText() {
        if (fault != 0) {
            return "FAULT " + fault;
        }
        BigDecimal x = now.numbers[X];
        if (now.hasEntry()) {
            return (now.sign.isEmpty() ? " " : "-") + now.digits
                + (now.exponentPart == null ? "" : "E" + now.exponentPart);
        }
        String sign = x.signum() < 0 ? "-" : " ";
        int e = exponentOf(x);
        if (kind == 0 && e <= 11) {
            int p = x.signum() != 0 && 11 - e < behind ? 11 - e : behind;
            BigDecimal fixed = x.abs().setScale(p, RoundingMode.HALF_EVEN);
            if (fixed.signum() != 0 || x.signum() == 0) {
                return sign + fixed.toPlainString() + (p == 0 ? "." : "");
            }
        }
        return sign + scientific(x.abs());
    }

    private String scientific(BigDecimal size) {
        if (size.signum() == 0) {
            return "0." + "0".repeat(behind) + "E+00";
        }
        BigDecimal r = size.round(new MathContext(behind + 1, RoundingMode.HALF_EVEN));
        if (exponentOf(r) > 99) {
            r = size.round(new MathContext(behind + 1, RoundingMode.DOWN));
        }
        int e = exponentOf(r);
        String digits = r.unscaledValue().toString();
        digits = (digits + "0".repeat(12)).substring(0, behind + 1);
        return digits.charAt(0) + "." + digits.substring(1) + "E" + (e < 0 ? "-" : "+")
            + String.format("%02d", Math.abs(e));
    }

    // ---- the face

    private void refuseWhenRunning() {
        if (runs != 0) {
            throw new IllegalStateException();
        }
    }

    void model(int m) {
        refuseWhenRunning();
        if (m < 0 || m > 1) {
            throw new IllegalArgumentException();
        }
        model = m;
        fault = 0;
        Kept fresh = new Kept();
        System.arraycopy(now.numbers, 0, fresh.numbers, 0, 10);
        now = fresh;
        undoable.clear();
    }

    int press(long keys) {
        refuseWhenRunning();
        for (long rest = keys; rest != 0; rest >>>= 8) {
            int key = (int) (rest & 255);
            if (key == 0) {
                continue;
            }
            Kept old = now;
            try {
                if (key >= 144 && key <= 151) {
                    int from = labelled(key - 144) + 1;
                    now = now.copy();
                    endEntry(now);
                    at = from;
                    calls.clear();
                    runs = 1;
                } else {
                    now = afterKey(key);
                }
            } catch (Fault f) {
                fault = f.number;
                return fault;
            }
            fault = 0;
            keep(old);
            if (runs == 1) {
                return 0;
            }
        }
        return 0;
    }

    int run(int steps) {
        if (steps < 0 || steps > 500) {
            throw new IllegalArgumentException();
        }
        for (int i = 0; i < steps && runs != 0; i++) {
            try {
                boolean over = step();
                if (over && runs == 2) {
                    now = now.copy();
                    valueTaken();
                } else if (over) {
                    runs = 0;
                }
            } catch (Fault f) {
                fault = f.number;
                if (runs == 2) {
                    now = before;
                }
                runs = 0;
            }
        }
        return runs == 0 ? 0 : 1;
    }

    boolean stop() {
        boolean ran = runs != 0;
        if (runs == 2) {
            now = before;
        }
        runs = 0;
        return ran;
    }

    int solve(int label) {
        refuseWhenRunning();
        if (model == 1) {
            throw new UnsupportedOperationException();
        }
        if (label < 0 || label > 7) {
            throw new IllegalArgumentException();
        }
        try {
            start = labelled(label) + 1;
        } catch (Fault f) {
            fault = f.number;
            return fault;
        }
        fault = 0;
        before = now;
        now = now.copy();
        a = now.numbers[Y];
        b = now.numbers[X];
        values = 0;
        runs = 2;
        takeValue(a);
        return 0;
    }

    long shown(int part) {
        if (part < 0 || part > 2) {
            throw new IllegalArgumentException();
        }
        String line = (lineText() + " ".repeat(20)).substring(0, 20) + "\0\0\0\0";
        return Checks.pack(line.substring(8 * part, 8 * part + 8));
    }

    private BigDecimal numbered(int which) {
        if (which < 0 || which > 14) {
            throw new IndexOutOfBoundsException();
        }
        return now.numbers[which];
    }

    long digits(int which) {
        BigDecimal v = numbered(which);
        return v.scaleByPowerOfTen(11 - exponentOf(v)).longValueExact();
    }

    int exponent(int which) {
        return exponentOf(numbered(which));
    }

    void mode(int newKind, int n) {
        if (newKind < 0 || newKind > 1 || n < 0 || n > 9) {
            throw new IllegalArgumentException();
        }
        kind = newKind;
        behind = n;
    }

    void store(int place, long bytes) {
        refuseWhenRunning();
        if (place < 0 || place > 92) {
            throw new IndexOutOfBoundsException();
        }
        for (int i = 0; i < 8; i++) {
            codes[place + i] = (int) (bytes >>> 8 * i & 255);
        }
    }

    int code(int place) {
        if (place < 0 || place > 99) {
            throw new IndexOutOfBoundsException();
        }
        return codes[place];
    }

    int type(long keys) {
        String longer = text;
        for (long rest = keys; rest != 0; rest >>>= 8) {
            longer += (rest & 255) == 0 ? "" : "" + (char) (rest & 255);
        }
        if (longer.length() > 40) {
            return -1;
        }
        text = longer;
        return text.length();
    }

    int wipe() {
        int had = text.length();
        text = "";
        return had;
    }

    int translate() {
        try {
            return translated();
        } catch (Fault f) {
            outText = "";
            return -f.number;
        }
    }

    int out(int i) {
        if (i < 0 || i >= outText.length()) {
            throw new IndexOutOfBoundsException();
        }
        return outText.charAt(i);
    }

    boolean undo() {
        refuseWhenRunning();
        if (undoable.isEmpty()) {
            return false;
        }
        now = undoable.removeLast();
        fault = 0;
        return true;
    }

    int state(int what) {
        int[] all = {
            model, fault, runs, runs == 0 ? -1 : Math.min(at, 100), runs == 0 ? 0 : calls.size(),
            now.row.size(), now.place, now.hasEntry() ? 1 : 0, now.lift ? 1 : 0, undoable.size(), values
        };
        return what < 0 || what >= all.length ? -1 : all[what];
    }
}
