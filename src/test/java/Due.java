import java.nio.charset.StandardCharsets;
import java.util.Arrays;

/** What the project's tests share: answers against what is due, and texts that go onto the tape. */
final class Due {
    private static int wrong = 0;
    private static int asked = 0;

    private Due() {
    }

    static void is(String call, long got, long want) {
        asked++;
        if (got != want) {
            wrong++;
            System.out.println(call + " answered " + got + ", due is " + want);
        }
    }

    static void yes(String call, boolean got) {
        is(call, got ? 1 : 0, 1);
    }

    /** A call that must be refused: with NONE, and with a STATUS. */
    static void refused(String call, MedalBoard x, long got, int status) {
        is(call, got, MedalBoard.NONE);
        is(call + ": status()", x.status(), status);
    }

    static void refused(String call, MedalBoard x, boolean got, int status) {
        is(call, got ? 1 : 0, 0);
        is(call + ": status()", x.status(), status);
    }

    /** A call that must be answered, with STATUS 0. */
    static void answered(String call, MedalBoard x, long got, long want) {
        is(call, got, want);
        is(call + ": status()", x.status(), 0);
    }

    static void answered(String call, MedalBoard x, boolean got) {
        yes(call, got);
        is(call + ": status()", x.status(), 0);
    }

    static void fraction(String call, MedalBoard x, boolean told, long top, long bottom) {
        answered(call, x, told);
        is(call + ": top()", x.top(), top);
        is(call + ": bottom()", x.bottom(), bottom);
    }

    static void fault(String text, MedalBoard x, int kind, int place) {
        is(text + ": fault(0)", x.fault(0), kind);
        is(text + ": fault(1)", x.fault(1), place);
    }

    /** Puts a text onto the tape, with 0s up to twenty bytes, and gives its length. */
    static int feed(MedalBoard x, String text) {
        byte[] bytes = text.getBytes(StandardCharsets.ISO_8859_1);
        byte[] padded = Arrays.copyOf(bytes, (bytes.length + 19) / 20 * 20);
        for (int i = 0; i < padded.length; i += 20) {
            x.feed(four(padded, i), four(padded, i + 4), four(padded, i + 8), four(padded, i + 12), four(padded, i + 16));
        }
        return bytes.length;
    }

    static int four(byte[] bytes, int at) {
        int v = 0;
        for (int i = 0; i < 4; i++) {
            v = v << 8 | bytes[at + i] & 255;
        }
        return v;
    }

    static int army(MedalBoard x, String text) {
        return x.army(feed(x, text));
    }

    static int war(MedalBoard x, String text) {
        return x.war(feed(x, text));
    }

    static MedalBoard withArmy(String text) {
        MedalBoard x = new MedalBoard();
        if (army(x, text) == MedalBoard.NONE) {
            is("army " + text + " has a fault at " + x.fault(1), x.fault(0), 0);
        }
        return x;
    }

    static void fill(MedalBoard x, int tray, int... numbers) {
        x.tray(tray, 1, numbers.length);
        for (int i = 0; i < numbers.length; i++) {
            x.write(tray, i, numbers[i]);
        }
    }

    static void finish() {
        System.out.println(asked + " asked, " + wrong + " wrong");
        if (wrong != 0 || asked == 0) {
            System.exit(1);
        }
    }
}
