import java.io.IOException;
import java.io.UncheckedIOException;
import java.nio.file.Files;
import java.nio.file.Path;

/**
 * What the tests of boundary cases share. Such a test tells the promise's number and the document's
 * sentence, and behind it the checks that fail if the sentence is broken.
 */
abstract class Boundaries extends Checks {
    private static final Path DOCUMENT = Path.of("..", "shared", "DOC.md");
    private static final String WORDS = words();

    private static String sentence = "";
    private static int countBefore;

    /** Makes an object, always the same one. */
    interface Making {
        TwinEntry make();
    }

    interface Using {
        void on(TwinEntry t);
    }

    static void sentence(int promise, String words) {
        dueTested();
        sentence = "promise " + promise + ", \"" + words + "\"";
        about(sentence + ": ");
        due("stands in the document", WORDS.isEmpty() || WORDS.contains(words), true);
        countBefore = count();
    }

    static void endOfSentences(String name) {
        dueTested();
        end(name);
    }

    private static void dueTested() {
        if (!sentence.isEmpty()) {
            due("has a check", count() > countBefore, true);
        }
    }

    /** The document's words in one line; empty where the document is not at hand. */
    private static String words() {
        if (!Files.exists(DOCUMENT)) {
            System.out.println("no " + DOCUMENT + ": whether the sentences stand there is not looked at");
            return "";
        }
        try {
            return Files.readString(DOCUMENT).replaceAll("```(text)?", " ").replaceAll("\\s+", " ");
        } catch (IOException e) {
            throw new UncheckedIOException(e);
        }
    }

    // ---- twins: two objects made alike, one of them used, and what is seen of both compared

    /** The call throws this, and changes nothing. */
    static void dueRefused(String what, Class<? extends RuntimeException> want, Making making, Using call) {
        TwinEntry used = making.make();
        TwinEntry other = making.make();
        dueThrow(what, want, () -> call.on(used));
        due(what + " changes nothing", all(used), all(other));
    }

    /** The key fails, and changes nothing but the fault. */
    static void dueFails(Making making, String key, int fault) {
        TwinEntry used = making.make();
        TwinEntry other = making.make();
        due("answer to " + key, used.press(pack(key)), fault);
        due("fault by " + key, used.state(1), fault);
        due(key + " changes nothing else", allButFault(used), allButFault(other));
    }

    /** What was used comes to the same as what was not. */
    static void dueSame(String what, Making making, Using call) {
        TwinEntry used = making.make();
        TwinEntry other = making.make();
        call.on(used);
        due(what, allButFault(used), allButFault(other));
    }

    /** All that can be seen, also by undoing, of an object that is not used any more. */
    static String all(TwinEntry t) {
        return visible(t) + " fault " + t.state(1) + " values " + t.state(10) + " line " + line(t) + hidden(t);
    }

    /** Likewise, but for the fault, and how many values the solver took; nothing may run. */
    static String allButFault(TwinEntry t) {
        String seen = visible(t);
        // B never fails: behind it, and its undoing, there is no fault, and the line shows the rest.
        t.press('B');
        t.undo();
        return seen + line(t) + hidden(t);
    }

    private static String visible(TwinEntry t) {
        StringBuilder seen = new StringBuilder();
        for (int register = 0; register < 10; register++) {
            seen.append(' ').append(t.digits(register));
        }
        for (int which = X; which <= LAST; which++) {
            seen.append(' ').append(number(t, which));
        }
        for (int what = 0; what < 10; what++) {
            seen.append(what == 1 ? " s" : " " + t.state(what));
        }
        return seen.append(' ').toString();
    }

    /** What shows itself only when the object goes on: program, row, what is kept, text and OUT. */
    private static String hidden(TwinEntry t) {
        StringBuilder seen = new StringBuilder(" OUT ");
        for (int i = 0; i < 40 && !answer(out(t, i)).startsWith("throws"); i++) {
            seen.append(answer(out(t, i)));
        }
        for (int i = 0; i < 12 && t.state(2) != 0; i++) {
            seen.append(" step ").append(t.run(1)).append(' ').append(t.state(3)).append(' ').append(t.state(4));
            seen.append(' ').append(number(t, X));
        }
        seen.append(" stop ").append(t.stop()).append(visible(t)).append(line(t));
        if (t.state(5) > 0) {
            seen.append(" row ").append(press(t, "1=")).append(number(t, X));
        }
        for (int i = 0; i < 10 && t.undo(); i++) {
            seen.append(" undo ").append(visible(t)).append(line(t));
        }
        int count = t.translate();
        seen.append(" text ").append(count).append(outKeys(t, Math.max(count, 0)));
        return seen.append(' ').append(t.wipe()).toString();
    }

    private static Call out(TwinEntry t, int i) {
        return () -> t.out(i);
    }
}
