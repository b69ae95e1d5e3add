import java.lang.management.ManagementFactory;

/** Calls make no objects: all rows are made with the object, so that any run stays in its room. */
public final class RoomTest {
    private static final String EIGHT = "pride 1;quota 50;man a courage 20;man b courage 3;man c courage 9;man d courage 2;"
        + "man e courage 5;man f courage 1;man g courage 8;man h courage 4;likes a h 9;likes c d 7;likes h b 1;";
    private static final String WAR = "loop 99;when fled b > 2;face a 9;end;any;give b c;end;";

    public static void main(String[] args) {
        MedalBoard x = new MedalBoard();
        Due.fill(x, 0, 9, 8, 5, 3);
        Due.fill(x, 1, 5, 1, 9, 0);
        long sum = 0;
        for (int i = 0; i < 40; i++) {
            sum += calls(x, i);
        }
        com.sun.management.ThreadMXBean threads = (com.sun.management.ThreadMXBean) ManagementFactory.getThreadMXBean();
        long self = Thread.currentThread().getId();
        threads.getThreadAllocatedBytes(self);
        long before = threads.getThreadAllocatedBytes(self);
        for (int i = 0; i < 200; i++) {
            sum += calls(x, i);
        }
        long made = threads.getThreadAllocatedBytes(self) - before;
        Due.yes("200 rounds of all calls made " + made + " bytes", made < 20000);
        Due.yes("the rounds did something", sum > 0);
        whatOneObjectTakes(threads, self);
        Due.finish();
    }

    private static void whatOneObjectTakes(com.sun.management.ThreadMXBean threads, long self) {
        long before = threads.getThreadAllocatedBytes(self);
        MedalBoard x = new MedalBoard();
        long made = threads.getThreadAllocatedBytes(self) - before;
        Due.yes("one object takes " + made + " bytes", made < 40000 && x.status() == 0);
    }

    /** The texts are put onto the tape once and for all here: their bytes must not be made in the loop that counts. */
    private static final int[] ARMY_INTS = ints(EIGHT);
    private static final int[] WAR_INTS = ints(WAR);

    private static int[] ints(String text) {
        byte[] bytes = java.util.Arrays.copyOf(text.getBytes(java.nio.charset.StandardCharsets.ISO_8859_1), (text.length() + 19) / 20 * 20);
        int[] ints = new int[bytes.length / 4];
        for (int i = 0; i < ints.length; i++) {
            ints[i] = Due.four(bytes, 4 * i);
        }
        return ints;
    }

    private static void feed(MedalBoard x, int[] ints) {
        for (int i = 0; i < ints.length; i += 5) {
            x.feed(ints[i], ints[i + 1], ints[i + 2], ints[i + 3], ints[i + 4]);
        }
    }

    private static long calls(MedalBoard x, int i) {
        feed(x, ARMY_INTS);
        long sum = x.army(EIGHT.length());
        feed(x, WAR_INTS);
        sum += x.war(WAR.length());
        sum += x.mark() + x.live(i) + x.lived(3) + x.undo();
        x.mean(1, i, 20);
        sum += x.top() + x.bottom();
        sum += x.most(i % 8, 0, 4) + x.facesAt(i % 8, 0, 4, 3) + x.game(0, 2, 0, 4) + x.moveOf(0, 2, 0, 4);
        sum += x.seen(1, 1, 2) + x.seenAt(1, 1, 2, 0) + x.ask(1, 1, 2);
        sum += x.couples(5) + x.fondness(5) + x.partner(0, 5) + x.hopeful() + x.copyMedals(2);
        sum += x.fewest() + x.fewestSet() + x.mightiest() + x.veto(1) + x.carries(i & 255);
        x.power(i % 8);
        x.chance(1, 9, 4);
        x.luck(0, 1);
        sum += x.face(0, 9) + x.give(1, 2) + x.lose(2) + x.fall(3) + x.told(5) + x.man(1, 6) + x.likes(0, 1);
        x.tray(3, 3, 60);
        x.write(3, i % 60, i);
        x.pour(3, 0, 3, 1, 59);
        return sum + x.read(3, i % 60) + x.goesTo(0, 9) + x.votes(1, 0, 9) + x.voteOf(1, 0, 9) + x.candidates(0, 9)
            + x.brave(4) + x.limit(0);
    }
}
