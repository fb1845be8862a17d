import java.io.IOException;
import java.nio.file.Files;
import java.nio.file.Path;
import java.util.ArrayDeque;
import java.util.Deque;

/** The calls that README.md shows, in its order, must answer what it says behind them. */
public final class ReadmeTest extends Checks {
    private final Deque<String> examples = new ArrayDeque<>();

    private ReadmeTest() {
    }

    public static void main(String[] args) throws IOException {
        ReadmeTest test = new ReadmeTest();
        test.read();
        TwinEntry t = new TwinEntry();
        test.stackAndFormulas(t);
        test.lineAndPrograms(t);
        test.solverAndTranslator(t);
        due("examples that are not tested", test.examples, "[]");
        end("ReadmeTest");
    }

    /** Each line with a call that is said to answer something, without its blanks. */
    private void read() throws IOException {
        for (String line : Files.readAllLines(Path.of("README.md"))) {
            if (line.matches("t\\..*; +// [-a-z0-9]+")) {
                examples.add(line.replace(" ", ""));
            }
        }
    }

    private void next(String call, Object got) {
        due("README.md", examples.poll(), (call + ";//" + got).replace(" ", ""));
    }

    private void stackAndFormulas(TwinEntry t) {
        next("t.press(keys(\"12.5=4*\"))", t.press(pack("12.5=4*")));
        next("t.digits(10)", t.digits(10));
        next("t.exponent(10)", t.exponent(10));
        next("t.undo()", t.undo());
        next("t.state(7)", t.state(7));
        next("t.press(keys(\"B\"))", t.press(pack("B")));
        next("t.press(keys(\"/\"))", t.press(pack("/")));
        next("t.state(1)", t.state(1));
        t.model(1);
        next("t.press(keys(\"(1+2)*3=\"))", t.press(pack("(1+2)*3=")));
        next("t.digits(10)", t.digits(10));
        next("t.exponent(10)", t.exponent(10));
    }

    private void lineAndPrograms(TwinEntry t) {
        next("t.shown(0) == keys(\" 9.00   \")", t.shown(0) == pack(" 9.00   "));
        t.mode(1, 3);
        next("t.shown(0) == keys(\" 9.000E+\")", t.shown(0) == pack(" 9.000E+"));
        next("t.shown(1) == keys(\"00      \")", t.shown(1) == pack("00      "));
        t.model(0);
        t.store(0, pack("\u0080S2-"));
        next("t.press(keys(\"3\\u0090\"))", t.press(pack("3\u0090")));
        next("t.state(2)", t.state(2));
        next("t.run(2)", t.run(2));
        next("t.run(500)", t.run(500));
        next("t.digits(10)", t.digits(10));
    }

    private void solverAndTranslator(TwinEntry t) {
        next("t.press(keys(\"1=2\"))", t.press(pack("1=2")));
        next("t.solve(0)", t.solve(0));
        next("t.state(2)", t.state(2));
        next("t.run(500)", t.run(500));
        next("t.digits(10)", t.digits(10));
        next("t.exponent(10)", t.exponent(10));
        next("t.type(keys(\"(1+2)*3\"))", t.type(pack("(1+2)*3")));
        next("t.translate()", t.translate());
        next("t.out(0)", t.out(0));
        next("t.out(1)", t.out(1));
        next("t.wipe()", t.wipe());
        next("t.translate()", t.translate());
    }
}
