import java.io.IOException;
import java.io.UncheckedIOException;
import java.lang.reflect.Method;
import java.nio.file.Files;
import java.nio.file.Path;
import java.util.ArrayList;
import java.util.Arrays;
import java.util.List;

/**
 * A sentence of the document, quoted as it stands there, with the calls that hold the class to it.
 *
 * <p>A boolean answer counts 1 or 0. What no test has quoted is found by unquoted().
 */
final class Sentence {
    /** What the document promises of one object: later answers are free, so no test may lean on them. */
    private static final int CALLS = 512;
    private static final String DOCUMENT = document();
    private static final boolean[] QUOTED = new boolean[DOCUMENT.length()];

    private final String quote;
    private MedalBoard x = new MedalBoard();
    private int calls = 0;

    private Sentence(String quote) {
        this.quote = quote;
    }

    static Sentence of(String quote) {
        int at = DOCUMENT.indexOf(quote);
        Due.yes("the document says: " + quote, at >= 0 || DOCUMENT.isEmpty());
        while (at >= 0) {
            Arrays.fill(QUOTED, at, at + quote.length(), true);
            at = DOCUMENT.indexOf(quote, at + 1);
        }
        return new Sentence(quote);
    }

    /** Of a part of the document all that is said and that no test has quoted. */
    static List<String> unquoted(String from, String to) {
        List<String> left = new ArrayList<>();
        StringBuilder run = new StringBuilder();
        for (int i = DOCUMENT.indexOf(from); i < DOCUMENT.indexOf(to); i++) {
            if (!QUOTED[i]) {
                run.append(DOCUMENT.charAt(i));
            }
            if (QUOTED[i] || i == DOCUMENT.indexOf(to) - 1) {
                if (run.chars().anyMatch(Character::isLetterOrDigit)) {
                    left.add(run.toString().trim());
                }
                run.setLength(0);
            }
        }
        return left;
    }

    private static String document() {
        Path path = Path.of("../shared/DOC.md");
        // without it nothing can be said of the quotes, but the calls are asked all the same
        if (!Files.exists(path)) {
            return "";
        }
        try {
            String text = Files.readString(path);
            // what is no sentence: headings, the calls' heads, the parts' numbers, the fences
            text = text.replaceAll("(?m)^##? .*$", "#").replaceAll("(?m)^`[a-zA-Z ]+\\([^)]*\\)`: ", "");
            text = text.replaceAll("```\\w*", "").replaceAll("==== \\d\\.", "").replaceAll("(?m)^Ahead of the call.*$", "");
            return text.replaceAll("\\s+", " ");
        } catch (IOException e) {
            throw new UncheckedIOException(e);
        }
    }

    MedalBoard board() {
        return x;
    }

    Sentence anew() {
        x = new MedalBoard();
        calls = 0;
        return this;
    }

    /** A new object with this ARMY. */
    Sentence men(String army) {
        anew();
        text("army", army);
        if (x.status() != 0) {
            Due.fault(told(army), x, 0, -1);
        }
        return this;
    }

    Sentence army(int men, String text) {
        Due.answered(told(text), x, text("army", text), men);
        Due.fault(told(text), x, 0, -1);
        return this;
    }

    Sentence badArmy(int kind, int place, String text) {
        Due.refused(told(text), x, text("army", text), 9);
        Due.fault(told(text), x, kind, place);
        return this;
    }

    Sentence war(int steps, String text) {
        Due.answered(told(text), x, text("war", text), steps);
        Due.fault(told(text), x, 0, -1);
        return this;
    }

    Sentence badWar(int kind, int place, String text) {
        Due.refused(told(text), x, text("war", text), 9);
        Due.fault(told(text), x, kind, place);
        return this;
    }

    private int text(String call, String text) {
        count((text.length() + 19) / 20 + 4);
        int n = Due.feed(x, text);
        return call.equals("army") ? x.army(n) : x.war(n);
    }

    Sentence tape(String text) {
        count((text.length() + 19) / 20);
        Due.feed(x, text);
        return this;
    }

    Sentence row(int tray, int sort, long... numbers) {
        gives(1, "tray", tray, sort, numbers.length);
        for (int i = 0; i < numbers.length; i++) {
            gives(1, "write", tray, i, numbers[i]);
        }
        return this;
    }

    Sentence holds(int tray, long... numbers) {
        for (int i = 0; i < numbers.length; i++) {
            gives(numbers[i], "read", tray, i);
        }
        return refuses(3, "read", tray, numbers.length);
    }

    /** An answer with STATUS 0. */
    Sentence gives(long want, String call, long... args) {
        long got = asLong(invoke(x, call, args));
        count(2);
        Due.answered(told(call + Arrays.toString(args)), x, got, want);
        return this;
    }

    /** A call whose answer another sentence asks for. */
    Sentence does(String call, long... args) {
        invoke(x, call, args);
        count(2);
        Due.is(told(call + Arrays.toString(args) + ": status()"), x.status(), 0);
        return this;
    }

    Sentence refuses(int status, String call, long... args) {
        Object got = invoke(x, call, args);
        count(2);
        long none = got instanceof Boolean ? 0 : MedalBoard.NONE;
        Due.is(told(call + Arrays.toString(args)), asLong(got), none);
        Due.is(told(call + Arrays.toString(args) + ": status()"), x.status(), status);
        return this;
    }

    /** A call that has no STATUS and leaves the one there is. */
    Sentence plain(long want, String call, long... args) {
        int status = x.status();
        long got = asLong(invoke(x, call, args));
        count(3);
        Due.is(told(call + Arrays.toString(args)), got, want);
        Due.is(told(call + Arrays.toString(args) + ": status()"), x.status(), status);
        return this;
    }

    Sentence tells(long top, long bottom, String call, long... args) {
        return gives(1, call, args).plain(top, "top").plain(bottom, "bottom");
    }

    private void count(int more) {
        calls += more;
        Due.yes(told(calls + " calls on one object"), calls <= CALLS);
    }

    private String told(String what) {
        return "\"" + quote + "\": " + what;
    }

    static long asLong(Object answer) {
        return answer instanceof Boolean ? ((Boolean) answer ? 1 : 0) : ((Number) answer).longValue();
    }

    static Object invoke(Object on, String call, long... args) {
        for (Method m : on.getClass().getDeclaredMethods()) {
            if (m.getName().equals(call) && m.getParameterCount() == args.length) {
                Object[] given = new Object[args.length];
                for (int i = 0; i < args.length; i++) {
                    boolean wide = m.getParameterTypes()[i] == long.class;
                    given[i] = wide ? (Object) args[i] : (Object) Math.toIntExact(args[i]);
                }
                try {
                    return m.invoke(on, given);
                } catch (ReflectiveOperationException e) {
                    throw new IllegalStateException(call + Arrays.toString(args), e);
                }
            }
        }
        throw new IllegalArgumentException("no such call: " + call + Arrays.toString(args));
    }
}
