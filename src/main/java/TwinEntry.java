/** A pocket calculator with two ways of entry, by a stack or by formulas. */
public final class TwinEntry {

    private static final int STACK = 0;
    private static final int FORMULAS = 1;

    private static final int DONE = 0;
    private static final int WANTS = 1;
    private static final int HAS = 2;

    private static final int NO_SUCH_KEY = 1;
    private static final int TOO_LARGE = 2;
    private static final int DIVISION_BY_ZERO = 3;
    private static final int ROOT_BELOW_ZERO = 4;
    private static final int OUT_OF_PLACE = 5;
    private static final int TOO_MANY_THINGS = 6;
    private static final int NO_SUCH_LABEL = 7;
    private static final int TOO_MANY_CALLS = 8;
    private static final int NOTHING_FOUND = 9;

    private static final int NOTHING_RUNS = 0;
    private static final int PROGRAM_RUNS = 1;
    private static final int SOLVER_RUNS = 2;

    /** What a step answers beside the faults, which are above 0. */
    private static final int GOES_ON = 0;
    private static final int OVER = -1;

    private static final int LABEL = 128;
    private static final int GO = 136;
    private static final int CALL = 144;
    private static final int RETURN = 152;
    private static final int STOP = 153;
    private static final int TEST_ZERO = 154;
    private static final int TEST_BELOW = 155;
    private static final int COUNT = 156;
    private static final int LAST_CODE = 165;

    private static final int LABELS = 8;
    private static final int PLACES = 100;
    private static final int MOST_CALLS = 4;
    private static final int MOST_STEPS = 500;
    private static final int MOST_VALUES = 100;
    private static final int MOST_THINGS = 8;
    private static final int MOST_KEPT = 5;
    private static final int MOST_DIGITS = 12;
    private static final int MOST_TEXT = 40;
    private static final int MOST_STACKED = 4;

    /** A key of the text brings at most three keys: W, W and N. */
    private static final int MOST_OUT = 3 * MOST_TEXT;

    private static final int GREATEST_POWER = 99;
    private static final int NUMBERS = 15;
    private static final int FIRST_OF_STACK = 10;
    private static final int NO_POINT = -1;
    private static final int LINE_LENGTH = 20;

    private static final long[] TENS = {
        1L, 10L, 100L, 1000L, 10000L, 100000L, 1000000L, 10000000L, 100000000L, 1000000000L,
        10000000000L, 100000000000L, 1000000000000L, 10000000000000L, 100000000000000L,
        1000000000000000L, 10000000000000000L, 100000000000000000L, 1000000000000000000L
    };

    private final Calculator calculator = new Calculator();
    private final Program program = new Program();
    private final Solver solver = new Solver();
    private final History history = new History();
    private final Line line = new Line();
    private final Translator translator = new Translator();
    private int running;

    public TwinEntry() {
        running = NOTHING_RUNS;
    }

    public void model(int m) throws IllegalStateException, IllegalArgumentException {
        if (running != NOTHING_RUNS) {
            throw new IllegalStateException();
        }
        if (m != STACK && m != FORMULAS) {
            throw new IllegalArgumentException();
        }
        calculator.model = m;
        calculator.fault = 0;
        calculator.desk.clear();
        history.forget();
    }

    public int press(long keys) throws IllegalStateException {
        if (running != NOTHING_RUNS) {
            throw new IllegalStateException();
        }
        for (int i = 0; i < 8; i++) {
            int key = byteOf(keys, i);
            if (key != 0) {
                int fault = pressOne(key);
                if (fault != 0 || running != NOTHING_RUNS) {
                    return fault;
                }
            }
        }
        return 0;
    }

    public int run(int steps) throws IllegalArgumentException {
        if (steps < 0 || steps > MOST_STEPS) {
            throw new IllegalArgumentException();
        }
        for (int i = 0; i < steps && running != NOTHING_RUNS; i++) {
            int outcome = program.step(calculator);
            if (outcome != GOES_ON && running == SOLVER_RUNS) {
                endValue(outcome);
            } else if (outcome != GOES_ON) {
                endProgram(outcome);
            }
        }
        return running == NOTHING_RUNS ? 0 : 1;
    }

    public boolean stop() {
        boolean ran = running != NOTHING_RUNS;
        if (running == SOLVER_RUNS) {
            calculator.desk.set(history.prepared());
        }
        running = NOTHING_RUNS;
        return ran;
    }

    public int solve(int label)
            throws IllegalStateException, UnsupportedOperationException, IllegalArgumentException {
        if (running != NOTHING_RUNS) {
            throw new IllegalStateException();
        }
        if (calculator.model == FORMULAS) {
            throw new UnsupportedOperationException();
        }
        if (label < 0 || label >= LABELS) {
            throw new IllegalArgumentException();
        }
        int place = program.placeOf(label);
        if (place < 0) {
            calculator.fault = NO_SUCH_LABEL;
            return NO_SUCH_LABEL;
        }
        calculator.fault = 0;
        history.prepare(calculator.desk);
        solver.begin(place + 1, calculator.desk, program);
        running = SOLVER_RUNS;
        return 0;
    }

    public long shown(int part) throws IllegalArgumentException {
        if (part < 0 || part > 2) {
            throw new IllegalArgumentException();
        }
        Desk desk = calculator.desk;
        line.begin();
        if (calculator.fault != 0) {
            line.writeFault(calculator.fault);
        } else if (desk.entry.open) {
            line.writeEntry(desk.entry);
        } else {
            line.writeNumber(desk.x);
        }
        return line.part(part);
    }

    public long digits(int which) throws IndexOutOfBoundsException {
        if (which < 0 || which >= NUMBERS) {
            throw new IndexOutOfBoundsException();
        }
        return calculator.desk.numbers[which].signed;
    }

    public int exponent(int which) throws IndexOutOfBoundsException {
        if (which < 0 || which >= NUMBERS) {
            throw new IndexOutOfBoundsException();
        }
        return calculator.desk.numbers[which].power;
    }

    public void mode(int kind, int n) throws IllegalArgumentException {
        if (kind < 0 || kind > 1 || n < 0 || n > 9) {
            throw new IllegalArgumentException();
        }
        line.scientific = kind == 1;
        line.behindPoint = n;
    }

    public void store(int place, long codes) throws IllegalStateException, IndexOutOfBoundsException {
        if (running != NOTHING_RUNS) {
            throw new IllegalStateException();
        }
        if (place < 0 || place > PLACES - 8) {
            throw new IndexOutOfBoundsException();
        }
        for (int i = 0; i < 8; i++) {
            program.codes[place + i] = byteOf(codes, i);
        }
    }

    public int code(int place) throws IndexOutOfBoundsException {
        if (place < 0 || place >= PLACES) {
            throw new IndexOutOfBoundsException();
        }
        return program.codes[place];
    }

    public int type(long keys) {
        return translator.append(keys);
    }

    public int wipe() {
        int had = translator.textLength;
        translator.textLength = 0;
        return had;
    }

    public int translate() {
        return translator.work();
    }

    public int out(int i) throws IndexOutOfBoundsException {
        if (i < 0 || i >= translator.outLength) {
            throw new IndexOutOfBoundsException();
        }
        return translator.outKeys[i];
    }

    public boolean undo() throws IllegalStateException {
        if (running != NOTHING_RUNS) {
            throw new IllegalStateException();
        }
        if (history.kept == 0) {
            return false;
        }
        history.giveBack(calculator.desk);
        calculator.fault = 0;
        return true;
    }

    public int state(int what) {
        Desk desk = calculator.desk;
        switch (what) {
            case 0:
                return calculator.model;
            case 1:
                return calculator.fault;
            case 2:
                return running;
            case 3:
                return running == NOTHING_RUNS ? -1 : Math.min(program.place, PLACES);
            case 4:
                return running == NOTHING_RUNS ? 0 : program.callsUnderWay;
            case 5:
                return desk.row.size;
            case 6:
                return desk.row.place;
            case 7:
                return desk.entry.open ? 1 : 0;
            case 8:
                return desk.lift ? 1 : 0;
            case 9:
                return history.kept;
            case 10:
                return solver.taken;
            default:
                return -1;
        }
    }

    private int pressOne(int key) {
        history.prepare(calculator.desk);
        boolean starts = key >= CALL && key < RETURN;
        int fault = starts ? startProgram(key - CALL) : calculator.doKey(key);
        calculator.fault = fault;
        if (fault == 0) {
            history.keep();
        }
        return fault;
    }

    private int startProgram(int label) {
        int place = program.placeOf(label);
        if (place < 0) {
            return NO_SUCH_LABEL;
        }
        calculator.endEntry();
        program.begin(place + 1);
        running = PROGRAM_RUNS;
        return 0;
    }

    private void endProgram(int outcome) {
        running = NOTHING_RUNS;
        if (outcome != OVER) {
            calculator.fault = outcome;
        }
    }

    private void endValue(int outcome) {
        int next = outcome == OVER ? solver.useValue(calculator, program) : outcome;
        if (next == GOES_ON) {
            return;
        }
        running = NOTHING_RUNS;
        if (next == OVER) {
            history.keep();
        } else {
            calculator.desk.set(history.prepared());
            calculator.fault = next;
        }
    }

    private static int byteOf(long bytes, int i) {
        return (int) (bytes >>> (8 * i)) & 255;
    }

    private static boolean isDigit(int key) {
        return key >= '0' && key <= '9';
    }

    private static boolean beginsEntry(int key) {
        return isDigit(key) || key == '.' || key == 'E';
    }

    private static boolean isOperation(int key) {
        return key == '+' || key == '-' || key == '*' || key == '/';
    }

    private static boolean isFunction(int key) {
        return key == 'Q' || key == 'S' || key == 'I';
    }

    private static boolean isRecall(int key) {
        return key >= 'a' && key <= 'j';
    }

    private static boolean isRowKey(int key) {
        return isOperation(key) || key == '(' || key == ')' || key == '=';
    }

    /** The whole number next to (whole + a bit below 1 if more) / divisor, of two the even one. */
    private static long nearest(long whole, long divisor, boolean more) {
        long quotient = whole / divisor;
        long twice = 2 * (whole % divisor);
        boolean odd = (quotient & 1) == 1;
        boolean up = twice > divisor || (twice == divisor && (more || odd));
        return up ? quotient + 1 : quotient;
    }

    /** A number: sign * d, and the exponent; both are 0 for 0. */
    private static final class Decimal {
        long signed;
        int power;

        void set(Decimal other) {
            signed = other.signed;
            power = other.power;
        }

        void setDigit(int digit) {
            signed = digit * TENS[11];
            power = 0;
        }

        void clear() {
            signed = 0;
            power = 0;
        }

        boolean isBelowZero() {
            return signed < 0;
        }

        boolean isSame(Decimal other) {
            return signed == other.signed && power == other.power;
        }

        /** Of two that are not 0. */
        boolean isSmallerInSize(Decimal other) {
            if (power != other.power) {
                return power < other.power;
            }
            return Math.abs(signed) < Math.abs(other.signed);
        }
    }

    /**
     * Arithmetic. What an operation comes to exactly is, but for its sign, (whole + a bit below 1
     * if more) * 10^unit, until it is rounded; whole has more than 12 digits if there is a bit.
     */
    private static final class Arithmetic {
        private boolean minus;
        private long whole;
        private boolean more;
        private int unit;

        int combine(int key, Decimal left, Decimal right, Decimal into) {
            if (key == '+') {
                add(left, right.signed, right.power);
            } else if (key == '-') {
                add(left, -right.signed, right.power);
            } else if (key == '*') {
                multiply(left, right);
            } else if (right.signed == 0) {
                return DIVISION_BY_ZERO;
            } else {
                divide(left, right);
            }
            return round(into);
        }

        int root(Decimal of, Decimal into) {
            if (of.isBelowZero()) {
                return ROOT_BELOW_ZERO;
            }
            boolean odd = (of.power & 1) == 1;
            long square = odd ? of.signed : 10 * of.signed;
            takeRoot(square);
            minus = false;
            unit = (odd ? of.power - 11 : of.power - 12) / 2 - 8;
            return round(into);
        }

        int read(Entry entry, Decimal into) {
            int behindPoint = entry.point == NO_POINT ? 0 : entry.length - entry.point;
            minus = entry.minus;
            whole = entry.row;
            more = false;
            unit = (entry.partMinus ? -entry.part : entry.part) - behindPoint;
            return round(into);
        }

        private void add(Decimal left, long signed, int power) {
            // A 0 has no scale of its own: the other number gives it.
            boolean leftLeads = signed == 0 || (left.signed != 0 && left.power >= power);
            long lead = leftLeads ? left.signed : signed;
            int leadPower = leftLeads ? left.power : power;
            long other = leftLeads ? signed : left.signed;
            int distance = other == 0 ? 0 : leadPower - (leftLeads ? power : left.power);
            long part = 0;
            more = false;
            if (distance <= 6) {
                part = other * TENS[6 - distance];
            } else if (distance <= 18) {
                part = other / TENS[distance - 6];
                more = other % TENS[distance - 6] != 0;
            } else {
                more = true;
            }
            long sum = lead * TENS[6] + part;
            minus = sum < 0;
            whole = Math.abs(sum);
            if (more && (other < 0) != minus) {
                // The bit is taken away: a whole 1 less, and what is left of that 1.
                whole--;
            }
            unit = leadPower - 17;
        }

        private void multiply(Decimal left, Decimal right) {
            long a = Math.abs(left.signed);
            long b = Math.abs(right.signed);
            long million = TENS[6];
            long low = (a % million) * (b % million);
            long middle = (a / million) * (b % million) + (a % million) * (b / million);
            minus = left.isBelowZero() != right.isBelowZero();
            whole = (a / million) * (b / million) * million + middle + low / million;
            more = low % million != 0;
            unit = left.power + right.power - 16;
        }

        private void divide(Decimal left, Decimal right) {
            long divisor = Math.abs(right.signed);
            if (divisor == 0) {
                return;
            }
            long rest = Math.abs(left.signed);
            whole = rest / divisor;
            rest = rest % divisor;
            for (int i = 0; i < 3; i++) {
                rest = rest * TENS[5];
                whole = whole * TENS[5] + rest / divisor;
                rest = rest % divisor;
            }
            minus = left.isBelowZero() != right.isBelowZero();
            more = rest != 0;
            unit = left.power - right.power - 15;
        }

        /** Digit by digit, two digits of the square for each: 7 pairs it has, 8 are zeros behind. */
        private void takeRoot(long square) {
            long root = 0;
            long rest = 0;
            for (int i = 14; i >= 0; i--) {
                long pair = i >= 8 ? square / TENS[2 * (i - 8)] % 100 : 0;
                rest = rest * 100 + pair;
                long digit = 0;
                for (long next = 1; next <= 9 && (20 * root + next) * next <= rest; next++) {
                    digit = next;
                }
                rest -= (20 * root + digit) * digit;
                root = root * 10 + digit;
            }
            whole = root;
            more = rest != 0;
        }

        private int round(Decimal into) {
            if (whole == 0) {
                into.clear();
                return 0;
            }
            int surplus = 0;
            while (surplus < 7 && whole >= TENS[MOST_DIGITS + surplus]) {
                surplus++;
            }
            long rounded = nearest(whole, TENS[surplus], more);
            int power = unit + surplus + 11;
            if (rounded == TENS[MOST_DIGITS]) {
                rounded = TENS[11];
                power++;
            }
            for (int i = 0; i < 11 && rounded < TENS[11]; i++) {
                rounded *= 10;
                power--;
            }
            if (power > GREATEST_POWER) {
                return TOO_LARGE;
            }
            if (power < -GREATEST_POWER) {
                into.clear();
                return 0;
            }
            into.signed = minus ? -rounded : rounded;
            into.power = power;
            return 0;
        }
    }

    /** A number that is being keyed. Its row and part are kept as whole numbers with a length. */
    private static final class Entry {
        boolean open;
        boolean minus;
        long row;
        int length;
        int point = NO_POINT;
        boolean hasPart;
        boolean partMinus;
        int part;
        int partLength;

        void set(Entry other) {
            open = other.open;
            minus = other.minus;
            row = other.row;
            length = other.length;
            point = other.point;
            hasPart = other.hasPart;
            partMinus = other.partMinus;
            part = other.part;
            partLength = other.partLength;
        }

        void begin() {
            open = true;
            minus = false;
            row = 0;
            length = 0;
            point = NO_POINT;
            dropPart();
        }

        void take(int key) {
            if (isDigit(key)) {
                addDigit(key - '0');
            } else if (key == '.') {
                addPoint();
            } else if (key == 'E') {
                addPart();
            } else if (key == 'N') {
                changeSign();
            } else if (hasPart) {
                takeFromPart();
            } else {
                takeFromRow();
            }
        }

        private void addDigit(int digit) {
            if (hasPart) {
                if (partLength < 2) {
                    part = 10 * part + digit;
                    partLength++;
                }
            } else if (length < MOST_DIGITS) {
                row = 10 * row + digit;
                length++;
            }
        }

        private void addPoint() {
            if (point == NO_POINT && !hasPart) {
                point = length;
            }
        }

        private void addPart() {
            if (hasPart) {
                return;
            }
            hasPart = true;
            if (length == 0) {
                row = 1;
                length = 1;
                point = NO_POINT;
            }
        }

        private void changeSign() {
            if (hasPart) {
                partMinus = !partMinus;
            } else {
                minus = !minus;
            }
        }

        private void takeFromPart() {
            if (partLength == 0) {
                dropPart();
            } else {
                part /= 10;
                partLength--;
            }
        }

        private void dropPart() {
            hasPart = false;
            partMinus = false;
            part = 0;
            partLength = 0;
        }

        private void takeFromRow() {
            if (point == length) {
                point = NO_POINT;
            } else if (length > 0) {
                row /= 10;
                length--;
            }
            open = length > 0 || point != NO_POINT;
        }
    }

    /** The row of things, each told by its key, an open bracket or an operation; and the place. */
    private static final class Row {
        final int[] things = new int[MOST_THINGS];
        int size;
        int place;

        void set(Row other) {
            size = other.size;
            place = other.place;
            for (int i = 0; i < size; i++) {
                things[i] = other.things[i];
            }
        }

        void clear() {
            size = 0;
            place = DONE;
        }

        boolean isOutOfPlace(int key) {
            if (key == '(') {
                return place == HAS;
            }
            if (key == ')') {
                return place != HAS || !hasBracket();
            }
            return place == WANTS;
        }

        boolean hasBracket() {
            for (int i = 0; i < size; i++) {
                if (things[i] == '(') {
                    return true;
                }
            }
            return false;
        }

        int countNumbers() {
            int count = 0;
            for (int i = 0; i < size; i++) {
                if (things[i] != '(') {
                    count++;
                }
            }
            return count;
        }

        /** How many things are left when the key has closed all that it closes. */
        int leftBehind(int key) {
            if (key == '(') {
                return size;
            }
            int least = key == '=' ? 0 : key == ')' ? 1 : tightness(key);
            int left = size;
            while (left > 0 && tightness(things[left - 1]) >= least) {
                left--;
            }
            return left;
        }

        boolean isFullFor(int key, int left) {
            return left >= MOST_THINGS && (key == '(' || isOperation(key));
        }

        /** What a key does when all is closed that it closes, and so many things are left. */
        void follow(int key, int left) {
            if (key == '=') {
                clear();
            } else if (key == ')') {
                size = Math.max(left - 1, 0);
                place = HAS;
            } else if (left < MOST_THINGS) {
                things[left] = key;
                size = left + 1;
                place = WANTS;
            }
        }

        private static int tightness(int key) {
            if (key == '(') {
                return 0;
            }
            return key == '+' || key == '-' ? 1 : 2;
        }
    }

    /** All that is kept for undoing. */
    private static final class Desk {
        final Decimal[] numbers = new Decimal[NUMBERS];
        final Decimal x;
        final Decimal y;
        final Decimal z;
        final Decimal t;
        final Decimal last;
        final Decimal[] rowNumbers = new Decimal[MOST_THINGS];
        final Row row = new Row();
        final Entry entry = new Entry();
        boolean lift;

        Desk() {
            for (int i = 0; i < NUMBERS; i++) {
                numbers[i] = new Decimal();
            }
            for (int i = 0; i < MOST_THINGS; i++) {
                rowNumbers[i] = new Decimal();
            }
            x = numbers[FIRST_OF_STACK];
            y = numbers[FIRST_OF_STACK + 1];
            z = numbers[FIRST_OF_STACK + 2];
            t = numbers[FIRST_OF_STACK + 3];
            last = numbers[FIRST_OF_STACK + 4];
        }

        void set(Desk other) {
            for (int i = 0; i < NUMBERS; i++) {
                numbers[i].set(other.numbers[i]);
            }
            for (int i = 0; i < other.row.size; i++) {
                rowNumbers[i].set(other.rowNumbers[i]);
            }
            row.set(other.row);
            entry.set(other.entry);
            lift = other.lift;
        }

        /** The registers stay. */
        void clear() {
            for (int i = FIRST_OF_STACK; i < NUMBERS; i++) {
                numbers[i].clear();
            }
            row.clear();
            entry.open = false;
            lift = false;
        }

        void raise() {
            t.set(z);
            z.set(y);
            y.set(x);
        }

        void fill(Decimal number) {
            x.set(number);
            y.set(number);
            z.set(number);
            t.set(number);
            lift = true;
            entry.open = false;
        }
    }

    /** Does keys. A key that may fail works out its number first, as outcome, and changes the desk last. */
    private static final class Calculator {
        final Desk desk = new Desk();
        final Arithmetic arithmetic = new Arithmetic();
        int model = STACK;
        int fault;
        private final Decimal outcome = new Decimal();
        private final Decimal one = new Decimal();
        private final Entry trial = new Entry();

        Calculator() {
            one.setDigit(1);
        }

        int doKey(int key) {
            boolean signOrBack = key == 'N' || key == 'B';
            if (beginsEntry(key) || (desk.entry.open && signOrBack)) {
                return keyEntry(key);
            }
            if (isFunction(key)) {
                int failed = workOutFunction(key);
                if (failed == 0) {
                    keyFunction();
                }
                return failed;
            }
            if (signOrBack || key == 'C' || (key >= 'a' && key <= 't')) {
                keyNumber(key);
                return 0;
            }
            if (model == FORMULAS) {
                return isRowKey(key) ? keyFormula(key) : NO_SUCH_KEY;
            }
            if (isOperation(key)) {
                return keyOperation(key);
            }
            return keyStack(key);
        }

        void endEntry() {
            if (desk.entry.open) {
                desk.entry.open = false;
                desk.lift = true;
            }
        }

        int countDown(int register) {
            Decimal counted = desk.numbers[register];
            return arithmetic.combine('-', counted, one, counted);
        }

        private int keyEntry(int key) {
            boolean begins = !desk.entry.open;
            trial.set(desk.entry);
            if (begins) {
                trial.begin();
            }
            trial.take(key);
            if (!trial.open) {
                desk.entry.set(trial);
                desk.x.clear();
                desk.lift = false;
                return 0;
            }
            int failed = arithmetic.read(trial, outcome);
            if (failed != 0) {
                return failed;
            }
            desk.entry.set(trial);
            if (begins) {
                bring(outcome);
            } else {
                desk.x.set(outcome);
            }
            return 0;
        }

        /** In the stack model the number is pushed. */
        private void bring(Decimal number) {
            if (model == FORMULAS) {
                desk.row.place = HAS;
            } else if (desk.lift) {
                desk.raise();
            }
            desk.x.set(number);
        }

        private int workOutFunction(int key) {
            if (key == 'Q') {
                return arithmetic.root(desk.x, outcome);
            }
            if (key == 'S') {
                return arithmetic.combine('*', desk.x, desk.x, outcome);
            }
            return arithmetic.combine('/', one, desk.x, outcome);
        }

        /** Q, S and I, when their number is worked out. */
        private void keyFunction() {
            endEntry();
            if (model == STACK) {
                desk.last.set(desk.x);
                desk.lift = true;
            } else {
                desk.row.place = HAS;
            }
            desk.x.set(outcome);
        }

        /** N, C, B without an entry, a .. j, k .. t. */
        private void keyNumber(int key) {
            endEntry();
            boolean stores = key >= 'k';
            boolean clears = key == 'C' || key == 'B';
            if (stores) {
                desk.numbers[key - 'k'].set(desk.x);
            } else if (isRecall(key)) {
                bring(desk.numbers[key - 'a']);
            } else if (clears) {
                desk.x.clear();
            } else {
                desk.x.signed = -desk.x.signed;
            }
            if (model == STACK) {
                desk.lift = !clears;
            } else if (!stores) {
                desk.row.place = HAS;
            }
        }

        private int keyOperation(int key) {
            int failed = arithmetic.combine(key, desk.y, desk.x, outcome);
            if (failed != 0) {
                return failed;
            }
            endEntry();
            desk.last.set(desk.x);
            desk.x.set(outcome);
            desk.y.set(desk.z);
            desk.z.set(desk.t);
            desk.lift = true;
            return 0;
        }

        private int keyStack(int key) {
            if (key != '=' && key != 'W' && key != 'D' && key != 'L') {
                return NO_SUCH_KEY;
            }
            endEntry();
            if (key == '=') {
                desk.raise();
            } else if (key == 'L') {
                bring(desk.last);
            } else {
                outcome.set(desk.x);
                desk.x.set(desk.y);
                if (key == 'W') {
                    desk.y.set(outcome);
                } else {
                    desk.y.set(desk.z);
                    desk.z.set(desk.t);
                    desk.t.set(outcome);
                }
            }
            desk.lift = key != '=';
            return 0;
        }

        private int keyFormula(int key) {
            Row row = desk.row;
            if (row.isOutOfPlace(key)) {
                return OUT_OF_PLACE;
            }
            int left = row.leftBehind(key);
            if (row.isFullFor(key, left)) {
                return TOO_MANY_THINGS;
            }
            outcome.set(desk.x);
            for (int i = row.size - 1; i >= left; i--) {
                if (row.things[i] != '(') {
                    int failed = arithmetic.combine(row.things[i], desk.rowNumbers[i], outcome, outcome);
                    if (failed != 0) {
                        return failed;
                    }
                }
            }
            endEntry();
            desk.x.set(outcome);
            if (isOperation(key) && left < MOST_THINGS) {
                desk.rowNumbers[left].set(outcome);
            }
            row.follow(key, left);
            return 0;
        }
    }

    /** The codes, and where the program is that runs by them. */
    private static final class Program {
        final int[] codes = new int[PLACES];
        int place;
        int callsUnderWay;
        private final int[] calls = new int[MOST_CALLS];

        /** -1 when there is no such label. */
        int placeOf(int label) {
            for (int i = 0; i < PLACES; i++) {
                if (codes[i] == LABEL + label) {
                    return i;
                }
            }
            return -1;
        }

        void begin(int from) {
            place = from;
            callsUnderWay = 0;
        }

        /** GOES_ON, OVER, or the fault by which the step fails. */
        int step(Calculator calculator) {
            int code = place < PLACES ? codes[place] : 0;
            if (code == 0 || code == STOP) {
                return OVER;
            }
            if (code < LABEL || code > LAST_CODE) {
                int failed = calculator.doKey(code);
                if (failed == 0) {
                    place++;
                }
                return failed;
            }
            if (code < GO) {
                place++;
                return GOES_ON;
            }
            if (code < RETURN) {
                return jump(code, calculator);
            }
            calculator.endEntry();
            return code == RETURN ? comeBack() : test(code, calculator);
        }

        private int jump(int code, Calculator calculator) {
            boolean calling = code >= CALL;
            int target = placeOf(calling ? code - CALL : code - GO);
            if (target < 0) {
                return NO_SUCH_LABEL;
            }
            if (calling) {
                if (callsUnderWay >= MOST_CALLS) {
                    return TOO_MANY_CALLS;
                }
                calls[callsUnderWay] = place;
                callsUnderWay++;
            }
            calculator.endEntry();
            place = target + 1;
            return GOES_ON;
        }

        private int comeBack() {
            if (callsUnderWay == 0) {
                return OVER;
            }
            callsUnderWay--;
            place = calls[callsUnderWay] + 1;
            return GOES_ON;
        }

        private int test(int code, Calculator calculator) {
            Decimal x = calculator.desk.x;
            boolean holds;
            if (code == TEST_ZERO) {
                holds = x.signed == 0;
            } else if (code == TEST_BELOW) {
                holds = x.isBelowZero();
            } else {
                int register = code - COUNT;
                int failed = calculator.countDown(register);
                if (failed != 0) {
                    return failed;
                }
                holds = calculator.desk.numbers[register].signed > 0;
            }
            place += holds ? 1 : 2;
            return GOES_ON;
        }
    }

    /** Halves the way between two ends, a and b, by values that a program comes to. */
    private static final class Solver {
        int taken;
        private int start;
        private final Decimal a = new Decimal();
        private final Decimal b = new Decimal();
        private final Decimal valueOfA = new Decimal();
        private final Decimal valueOfB = new Decimal();
        private final Decimal current = new Decimal();
        private final Decimal value = new Decimal();
        private final Decimal middle = new Decimal();
        private final Decimal two = new Decimal();

        Solver() {
            two.setDigit(2);
        }

        void begin(int from, Desk desk, Program program) {
            start = from;
            taken = 0;
            a.set(desk.y);
            b.set(desk.x);
            takeValueOf(a, desk, program);
        }

        /** What follows when a value is there: GOES_ON, OVER when an end is found, or a fault. */
        int useValue(Calculator calculator, Program program) {
            Desk desk = calculator.desk;
            value.set(desk.x);
            if (value.signed == 0) {
                a.set(current);
                b.set(current);
                return find(current, value, desk);
            }
            if (taken == 1) {
                valueOfA.set(value);
                return takeValueOf(b, desk, program);
            }
            boolean likeA = value.isBelowZero() == valueOfA.isBelowZero();
            if (taken == 2 && likeA) {
                return NOTHING_FOUND;
            }
            if (likeA) {
                a.set(current);
                valueOfA.set(value);
            } else {
                b.set(current);
                valueOfB.set(value);
            }
            return halve(calculator, program);
        }

        private int halve(Calculator calculator, Program program) {
            Arithmetic arithmetic = calculator.arithmetic;
            int failed = arithmetic.combine('-', b, a, middle);
            if (failed == 0) {
                failed = arithmetic.combine('/', middle, two, middle);
            }
            if (failed == 0) {
                failed = arithmetic.combine('+', a, middle, middle);
            }
            if (failed != 0) {
                return failed;
            }
            if (!middle.isSame(a) && !middle.isSame(b)) {
                return takeValueOf(middle, calculator.desk, program);
            }
            if (valueOfB.isSmallerInSize(valueOfA)) {
                return find(b, valueOfB, calculator.desk);
            }
            return find(a, valueOfA, calculator.desk);
        }

        private int takeValueOf(Decimal number, Desk desk, Program program) {
            if (taken >= MOST_VALUES) {
                return NOTHING_FOUND;
            }
            taken++;
            current.set(number);
            desk.fill(number);
            program.begin(start);
            return GOES_ON;
        }

        private int find(Decimal end, Decimal valueOfEnd, Desk desk) {
            desk.fill(end);
            desk.y.set(valueOfEnd);
            desk.z.set(a);
            desk.t.set(b);
            return OVER;
        }
    }

    /** What was before the latest keys, in a ring with one place more, for what is not yet kept. */
    private static final class History {
        int kept;
        private final Desk[] ring = new Desk[MOST_KEPT + 1];
        private int next;

        History() {
            for (int i = 0; i <= MOST_KEPT; i++) {
                ring[i] = new Desk();
            }
        }

        void prepare(Desk desk) {
            ring[next].set(desk);
        }

        Desk prepared() {
            return ring[next];
        }

        void keep() {
            next = (next + 1) % (MOST_KEPT + 1);
            kept = Math.min(kept + 1, MOST_KEPT);
        }

        void giveBack(Desk desk) {
            if (kept > 0) {
                kept--;
                next = (next + MOST_KEPT) % (MOST_KEPT + 1);
                desk.set(ring[next]);
            }
        }

        void forget() {
            kept = 0;
        }
    }

    /** The line that is shown, and its mode. */
    private static final class Line {
        boolean scientific;
        int behindPoint = 2;
        private final int[] characters = new int[LINE_LENGTH];
        private int length;

        void begin() {
            length = 0;
        }

        /** Eight characters as bytes, blanks behind what is written. */
        long part(int part) {
            long bytes = 0;
            for (int i = 7; i >= 0; i--) {
                int at = 8 * part + i;
                int character = 0;
                if (at < LINE_LENGTH) {
                    character = at < length ? characters[at] : ' ';
                }
                bytes = bytes << 8 | character;
            }
            return bytes;
        }

        void writeFault(int fault) {
            write('F');
            write('A');
            write('U');
            write('L');
            write('T');
            write(' ');
            writeDigits(fault, 1);
        }

        void writeEntry(Entry entry) {
            write(entry.minus ? '-' : ' ');
            if (entry.point == NO_POINT) {
                writeDigits(entry.row, entry.length);
            } else {
                writeWithPoint(entry.row, entry.point, entry.length - entry.point);
            }
            if (entry.hasPart) {
                write('E');
                write(entry.partMinus ? '-' : '+');
                writeDigits(entry.part, entry.partLength);
            }
        }

        void writeNumber(Decimal x) {
            write(x.isBelowZero() ? '-' : ' ');
            if (scientific || !writeFixed(x)) {
                writeScientific(x);
            }
        }

        /** False, and nothing is written, when the number must be shown the other way. */
        private boolean writeFixed(Decimal x) {
            if (x.power > 11) {
                return false;
            }
            int behind = Math.min(behindPoint, 11 - x.power);
            int surplus = 11 - x.power - behind;
            // Of more than 12 digits that are cut off, 12 are not half.
            long rounded = surplus > MOST_DIGITS ? 0 : nearest(Math.abs(x.signed), TENS[surplus], false);
            if (rounded == 0 && x.signed != 0) {
                return false;
            }
            int before = 1;
            while (before + behind < MOST_DIGITS && rounded >= TENS[before + behind]) {
                before++;
            }
            writeWithPoint(rounded, before, behind);
            return true;
        }

        private void writeScientific(Decimal x) {
            long cut = TENS[11 - behindPoint];
            long size = Math.abs(x.signed);
            long rounded = nearest(size, cut, false);
            int power = x.power;
            if (rounded == TENS[behindPoint + 1]) {
                if (power == GREATEST_POWER) {
                    rounded = size / cut;
                } else {
                    rounded = TENS[behindPoint];
                    power++;
                }
            }
            writeWithPoint(rounded, 1, behindPoint);
            write('E');
            write(power < 0 ? '-' : '+');
            writeDigits(Math.abs(power), 2);
        }

        private void writeWithPoint(long whole, int before, int behind) {
            writeDigits(whole / TENS[behind], before);
            write('.');
            writeDigits(whole % TENS[behind], behind);
        }

        private void writeDigits(long whole, int count) {
            for (int i = count - 1; i >= 0; i--) {
                write((int) ('0' + whole / TENS[i] % 10));
            }
        }

        private void write(int character) {
            if (length < LINE_LENGTH) {
                characters[length] = character;
                length++;
            }
        }
    }

    /** Makes keys for the stack of a text that is a formula. */
    private static final class Translator {
        final int[] outKeys = new int[MOST_OUT];
        int outLength;
        int textLength;
        private final int[] text = new int[MOST_TEXT];
        private final Row row = new Row();
        private boolean hasEntry;
        private boolean lastIsEntryKey;

        int append(long keys) {
            int more = 0;
            for (int i = 0; i < 8; i++) {
                if (byteOf(keys, i) != 0) {
                    more++;
                }
            }
            if (textLength + more > MOST_TEXT) {
                return -1;
            }
            for (int i = 0; i < 8; i++) {
                int key = byteOf(keys, i);
                if (key != 0 && textLength < MOST_TEXT) {
                    text[textLength] = key;
                    textLength++;
                }
            }
            return textLength;
        }

        /** How many keys there are, or less 0 by the code of what refuses the text. */
        int work() {
            outLength = 0;
            row.clear();
            hasEntry = false;
            lastIsEntryKey = false;
            int refused = follow();
            if (refused != 0) {
                outLength = 0;
                return -refused;
            }
            return outLength;
        }

        private int follow() {
            boolean signAtEnd = textLength > 0 && text[textLength - 1] == '=';
            int keys = signAtEnd ? textLength - 1 : textLength;
            for (int i = 0; i < keys; i++) {
                int refused = take(text[i]);
                if (refused != 0) {
                    return refused;
                }
            }
            if (row.place != HAS || row.hasBracket()) {
                return OUT_OF_PLACE;
            }
            close(0);
            return 0;
        }

        /** A key before the end of the text, so that '=' is none that it may have. */
        private int take(int key) {
            boolean number = beginsEntry(key) || isRecall(key);
            boolean function = isFunction(key) || key == 'N';
            boolean rowKey = isRowKey(key) && key != '=';
            if (!number && !function && !rowKey) {
                return NO_SUCH_KEY;
            }
            if (hasEntry && (beginsEntry(key) || key == 'N')) {
                emit(key);
                return 0;
            }
            if (rowKey) {
                return takeRowKey(key);
            }
            boolean misplaced = number ? row.place == HAS : row.place != HAS;
            if (misplaced) {
                return OUT_OF_PLACE;
            }
            // No other key makes the values more.
            if (number && row.countNumbers() >= MOST_STACKED) {
                return TOO_MANY_THINGS;
            }
            hasEntry = beginsEntry(key);
            if (lastIsEntryKey) {
                separate(key);
            }
            emit(key);
            lastIsEntryKey = hasEntry;
            row.place = HAS;
            return 0;
        }

        private int takeRowKey(int key) {
            if (row.isOutOfPlace(key) || (isOperation(key) && row.place == DONE)) {
                return OUT_OF_PLACE;
            }
            int left = row.leftBehind(key);
            if (row.isFullFor(key, left)) {
                return TOO_MANY_THINGS;
            }
            hasEntry = false;
            close(left);
            row.follow(key, left);
            return 0;
        }

        /** The entry that the stack still has must not take this key as its own. */
        private void separate(int key) {
            if (beginsEntry(key)) {
                emit('=');
            } else if (key == 'N') {
                emit('W');
                emit('W');
            }
        }

        private void close(int left) {
            for (int i = row.size - 1; i >= left; i--) {
                if (row.things[i] != '(') {
                    emit(row.things[i]);
                    lastIsEntryKey = false;
                }
            }
        }

        private void emit(int key) {
            if (outLength < MOST_OUT) {
                outKeys[outLength] = key;
                outLength++;
            }
        }
    }
}
