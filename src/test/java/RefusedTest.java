import java.util.ArrayList;
import java.util.Arrays;
import java.util.List;
import java.util.Set;
import java.util.TreeSet;
import java.util.function.Supplier;
import java.util.regex.Matcher;
import java.util.regex.Pattern;

/**
 * Each promise's brackets: the STATUSES that its call can have, and what each is for.
 *
 * <p>Every refused call is made on an object of its own and must leave it like a twin that was not asked, but for status().
 */
public final class RefusedTest {
    private static final int LEAST = Integer.MIN_VALUE;
    private static final int MOST = Integer.MAX_VALUE;
    private static final int[] NO_MAN = {-1, 6, LEAST, MOST};
    private static final int[] NO_SIZE = {0, 100, -1, LEAST, MOST};
    private static final int[] NO_TRAY = {-1, 4, LEAST, MOST};

    private final String call;
    private final String brackets;
    private final Set<Integer> refused = new TreeSet<>();
    private Supplier<MedalBoard> made = RefusedTest::rich;

    private RefusedTest(String call, String brackets) {
        this.call = call;
        this.brackets = brackets;
        Sentence.of(brackets);
    }

    public static void main(String[] args) {
        trays();
        texts();
        facts();
        deeds();
        changes();
        dangers();
        boards();
        orders();
        wasSeen();
        pairs();
        games();
        chances();
        wars();
        marks();
        Due.finish();
    }

    /**
     * MEN a (BRAVE 9, no MEDALS), b (BRAVE 4, three MEDALS), c (99 of both), d and e who fell (e with 99), f (BRAVE 0, no MEDALS);
     * TRAY 0 has four sizes and one that is none, 1 is of another sort and has twos, 2 has one place, 3 is MISSING; a WAR that was
     * LIVED, a MARK, twenty bytes on the tape, a FRACTION and a FAULT that were told.
     */
    private static MedalBoard rich() {
        MedalBoard x = Due.withArmy("pride 1;quota 60;man a courage 9 weight 3;man b courage 1 weight 2 medals 2;man c"
            + " courage 5 medals 99;"
            + "man d courage 7 medals 4;man e courage 20 medals 99;man f courage 0 weight 0;likes a b 9;likes b f 2;");
        x.fall(3);
        x.fall(4);
        x.mark();
        Due.war(x, "face a 5;lose a;stop;");
        x.live(0);
        x.face(5, 9);
        Due.war(x, "stop");
        Due.fill(x, 1, 5, 1, 5, 0, 100, 1, 5, 2);
        x.tray(0, 0, 5);
        long[] sizes = {9, 1, 99, 5, 100};
        for (int i = 0; i < 5; i++) {
            x.write(0, i, sizes[i]);
        }
        x.tray(2, 0, 1);
        x.chance(0, 1, 1);
        Due.feed(x, "any;");
        return x;
    }

    /** MEN, but no WAR, nothing LIVED, no MARKS. */
    private static MedalBoard peace() {
        return Due.withArmy("man a courage 1;man b courage 1;");
    }

    /** Eight MEN, three MARKS. */
    private static MedalBoard full() {
        MedalBoard x = new MedalBoard();
        for (int i = 0; i < 8; i++) {
            x.enlist(i, i);
        }
        x.mark();
        x.fall(7);
        x.mark();
        x.train(0, 20);
        x.mark();
        x.weigh(0, 9);
        return x;
    }

    private static MedalBoard allFell() {
        MedalBoard x = peace();
        x.fall(0);
        x.fall(1);
        return x;
    }

    private static MedalBoard weightless() {
        return Due.withArmy("man a courage 1 weight 0;man b courage 1 weight 0;");
    }

    private static MedalBoard longTape() {
        MedalBoard x = peace();
        Due.feed(x, " ".repeat(320));
        return x;
    }

    private static RefusedTest of(String call, String brackets) {
        return new RefusedTest(call, brackets);
    }

    private RefusedTest on(Supplier<MedalBoard> object) {
        made = object;
        return this;
    }

    private RefusedTest by(int status, long... args) {
        MedalBoard x = made.get();
        MedalBoard twin = made.get();
        String told = call + Arrays.toString(args);
        Object got = Sentence.invoke(x, call, args);
        refused.add(status);
        Due.is(told, Sentence.asLong(got), got instanceof Boolean ? 0 : MedalBoard.NONE);
        Due.is(told + ": status()", x.status(), status);
        // 9 empties the tape and changes the FAULT
        boolean nine = status == 9;
        Due.yes(told + " changes nothing", seenOf(x, !nine).equals(seenOf(twin, !nine)));
        int tape = twin.feed(0, 0, 0, 0, 0);
        Due.is(told + " and the tape", x.feed(0, 0, 0, 0, 0), nine ? 20 : tape);
        sameBehind(told, x, twin);
        return this;
    }

    /** Once for each of these numbers, in the place where the others have -7. */
    private RefusedTest each(int status, int[] numbers, long... args) {
        for (int number : numbers) {
            long[] given = args.clone();
            for (int i = 0; i < given.length; i++) {
                given[i] = given[i] == -7 ? number : given[i];
            }
            by(status, given);
        }
        return this;
    }

    /** All that the brackets name has been asked for, and nothing else. */
    private void done() {
        Set<Integer> named = new TreeSet<>();
        for (String item : brackets.substring(1, brackets.length() - 1).split("[;,]")) {
            Matcher m = Pattern.compile("\\s*(\\d)(:.*)?").matcher(item);
            if (m.matches()) {
                named.add(Integer.parseInt(m.group(1)));
            }
        }
        Due.yes(call + " " + brackets + " was refused with " + refused, named.equals(refused));
    }

    /** What can be seen by changing it alone: the WAR, the MARKS. */
    private static void sameBehind(String told, MedalBoard x, MedalBoard twin) {
        Due.is(told + " leaves the WAR", x.live(17), twin.live(17));
        for (int i = 0; i < 4; i++) {
            Due.is(told + " leaves the MARKS", x.undo(), twin.undo());
            Due.is(told + " leaves what is marked", x.told(3) * 1000 + x.told(5), twin.told(3) * 1000 + twin.told(5));
        }
    }

    private static List<Long> seenOf(MedalBoard x, boolean faults) {
        List<Long> all = new ArrayList<>();
        all.add(x.top());
        all.add(x.bottom());
        all.add(faults ? (long) x.fault(0) : 0);
        all.add(faults ? (long) x.fault(1) : 0);
        for (int what = 0; what < 10; what++) {
            all.add((long) x.told(what));
        }
        for (int what = 0; what < 5; what++) {
            all.add((long) x.lived(what));
        }
        int men = x.told(0);
        for (int man = 0; man < men; man++) {
            for (int what = 0; what < 6; what++) {
                all.add((long) x.man(man, what));
            }
            for (int other = 0; other < men; other++) {
                all.add((long) x.likes(man, other));
            }
        }
        for (int tray = 0; tray < 4; tray++) {
            long place = 0;
            do {
                all.add(x.read(tray, (int) place));
                place++;
            } while (x.status() == 0);
            all.add((long) x.status());
        }
        return all;
    }

    private static void trays() {
        of("tray", "(1)").each(1, NO_TRAY, -7, 0, 0).each(1, NO_TRAY, 0, -7, 0).by(1, 0, 0, -1).by(1, 0, 0, 61).by(1, 3, 3, LEAST)
            .by(1, 3, 3, MOST).done();
        for (boolean write : new boolean[] {true, false}) {
            RefusedTest t = of(write ? "write" : "read", "(1, 2, 3)");
            for (int[] a : new int[][] {{1, -1, 0}, {1, 4, 0}, {1, 4, -1}, {1, LEAST, 0}, {1, MOST, 0}, {2, 3, 0}, {2, 3, -1}, {2, 3, 60}, {3, 0, -1},
                    {3, 0, 5}, {3, 2, 1}, {3, 0, 60}, {3, 0, LEAST}, {3, 0, MOST}}) {
                if (write) {
                    t.by(a[0], a[1], a[2], 7);
                } else {
                    t.by(a[0], a[1], a[2]);
                }
            }
            t.done();
        }
        RefusedTest pour = of("pour", "(1: below 0, too; 2; 8; 3; asked in this order)");
        pour.each(1, NO_TRAY, -7, 0, 0, 0, 0).each(1, NO_TRAY, 0, 0, -7, 0, 0).by(1, 0, -1, 0, 0, 0).by(1, 0, 0, 0, -1, 0)
            .by(1, 0, 0, 0, 0, -1);
        pour.by(1, 0, LEAST, 0, 0, 1).by(1, 0, 0, 0, 0, LEAST).by(1, 3, 0, 3, 0, -1).by(1, 0, 0, 1, 0, -1);
        pour.by(2, 3, 0, 0, 0, 1).by(2, 0, 0, 3, 0, 1).by(2, 3, 0, 3, 0, 0).by(2, 1, 99, 3, 99, 99).by(2, 3, 99, 1, 99, 99);
        pour.by(8, 0, 0, 1, 0, 1).by(8, 1, 0, 0, 0, 0).by(8, 0, 99, 1, 0, 1).by(8, 0, 0, 1, 99, 1);
        pour.by(3, 0, 5, 0, 0, 1).by(3, 0, 0, 0, 5, 1).by(3, 0, 6, 0, 0, 0).by(3, 0, 0, 0, 6, 0).by(3, 0, 0, 2, 0, 2)
            .by(3, 2, 0, 0, 0, 2);
        pour.by(3, 0, 0, 0, 0, 6).by(3, 0, MOST, 0, 0, MOST).by(3, 0, 0, 0, MOST, MOST).by(3, 0, 0, 0, 0, MOST)
            .by(3, 0, 1, 0, 0, 5).done();
    }

    private static void texts() {
        of("army", "(1: n below 0, or more than the tape has, too; 9: the old one stays)").by(1, -1).by(1, 21).by(1, LEAST)
            .by(1, MOST)
            .on(MedalBoard::new).by(1, 1).on(RefusedTest::longTape).by(1, 321).by(1, 901).on(RefusedTest::rich).by(9, 20).by(9, 4)
            .by(9, 1).done();
        of("war", "(1: above 300, too; 9)").by(1, -1).by(1, 21).by(1, LEAST).by(1, MOST).on(MedalBoard::new).by(1, 1)
            .on(RefusedTest::longTape)
            .by(1, 301).by(1, 320).by(1, 321).on(RefusedTest::rich).by(9, 20).by(9, 3).by(9, 1).done();
    }

    private static void facts() {
        of("told", "(1)").by(1, -1).by(1, 10).by(1, LEAST).by(1, MOST).on(MedalBoard::new).by(1, 10).done();
        of("man", "(1)").each(1, NO_MAN, -7, 0).by(1, 0, -1).by(1, 0, 7).by(1, 5, LEAST).by(1, 5, MOST).on(MedalBoard::new)
            .by(1, 0, 0).done();
        of("likes", "(1; 7: himself)").each(1, NO_MAN, -7, 0).each(1, NO_MAN, 0, -7).each(1, NO_MAN, -7, -7).by(7, 0, 0)
            .by(7, 5, 5).by(7, 3, 3).done();
    }

    private static void deeds() {
        of("face", "(1; 7: he fell)").each(1, NO_MAN, -7, 1).each(1, NO_SIZE, 0, -7).each(1, NO_SIZE, 3, -7).by(7, 3, 1)
            .by(7, 3, 99).by(7, 4, 99).done();
        of("give", "(1; 7: one and himself, one who fell, no MEDALS, 99 there)").each(1, NO_MAN, -7, 0).each(1, NO_MAN, 1, -7)
            .each(1, NO_MAN, -7, -7)
            .by(7, 1, 1).by(7, 0, 0).by(7, 3, 3).by(7, 3, 0).by(7, 1, 3).by(7, 0, 1).by(7, 5, 1).by(7, 1, 2).by(7, 2, 2)
            .by(7, 0, 2).by(7, 3, 4).done();
        of("lose", "(1; 7: none)").each(1, NO_MAN, -7).by(7, 0).by(7, 5).done();
        of("fall", "(1; 7: he fell already)").each(1, NO_MAN, -7).by(7, 3).by(7, 4).on(RefusedTest::allFell).by(7, 0).done();
    }

    private static void changes() {
        of("enlist", "(1: COURAGE 0 to 20, WEIGHT 0 to 9; 4: a ninth)").by(1, -1, 0).by(1, 21, 0).by(1, 0, -1).by(1, 0, 10)
            .by(1, LEAST, 0).by(1, 0, MOST)
            .on(RefusedTest::full).by(4, 0, 0).by(4, 20, 9).by(1, 21, 0).by(1, 0, 10).done();
        of("train", "(1)").each(1, NO_MAN, -7, 0).by(1, 0, -1).by(1, 0, 21).by(1, 0, LEAST).by(1, 0, MOST).done();
        of("weigh", "(1)").each(1, NO_MAN, -7, 0).by(1, 0, -1).by(1, 0, 10).by(1, 0, LEAST).by(1, 0, MOST).done();
        of("charm", "(1; 7: himself)").each(1, NO_MAN, -7, 0, 5).each(1, NO_MAN, 0, -7, 5).each(1, NO_MAN, -7, -7, 5)
            .by(1, 0, 1, -1).by(1, 0, 1, 10)
            .by(1, 0, 0, 10).by(1, 0, 0, -1).by(7, 0, 0, 5).by(7, 3, 3, 0).by(7, 5, 5, 9).done();
        of("rule", "(1)").by(1, 0, 5).by(1, 3, 5).by(1, -1, 5).by(1, LEAST, 5).by(1, MOST, 5).by(1, 1, -1).by(1, 1, 10)
            .by(1, 2, 0).by(1, 2, 100).by(1, 2, -1)
            .by(1, 1, MOST).by(1, 2, LEAST).done();
    }

    private static void dangers() {
        of("brave", "(1)").each(1, NO_SIZE, -7).done();
        of("limit", "(1; 6: none of these; 7: he fell)").each(1, NO_MAN, -7).by(6, 2).by(7, 3).by(7, 4).done();
        of("candidates", "(1; 7: he fell)").each(1, NO_MAN, -7, 1).each(1, NO_SIZE, 0, -7).each(1, NO_SIZE, 3, -7).by(7, 3, 1)
            .by(7, 4, 99).done();
        of("voteOf", "(1; 7: one of both fell; 6: for nobody)").each(1, NO_MAN, -7, 0, 1).each(1, NO_MAN, 0, -7, 1)
            .each(1, NO_SIZE, 0, 0, -7)
            .each(1, NO_SIZE, 3, 3, -7).by(7, 3, 0, 5).by(7, 0, 3, 5).by(7, 3, 3, 5).by(7, 3, 5, 1).by(6, 5, 0, 1).by(6, 0, 5, 1)
            .by(6, 5, 5, 1).done();
        of("votes", "(1; 7: the MAN fell, it is no CANDIDATE)").each(1, NO_MAN, -7, 0, 9).each(1, NO_MAN, 5, -7, 9)
            .each(1, NO_SIZE, 5, 0, -7)
            .each(1, NO_SIZE, 5, 3, -7).by(7, 5, 3, 9).by(7, 0, 0, 99).by(7, 2, 0, 99).by(7, 3, 0, 99).by(7, 1, 0, 4)
            .by(7, 5, 5, 1).done();
        of("goesTo", "(1; 7: he fell; 6: no CANDIDATE)").each(1, NO_MAN, -7, 1).each(1, NO_SIZE, 0, -7).each(1, NO_SIZE, 3, -7)
            .by(7, 3, 1).by(7, 4, 99)
            .by(6, 5, 1).on(RefusedTest::allFell).by(7, 0, 1).on(RefusedTest::peace).by(6, 0, 1).done();
    }

    private static void boards() {
        of("carries", "(1; 7: one in it fell)").by(1, -1).by(1, 64).by(1, 72).by(1, LEAST).by(1, MOST).by(7, 8).by(7, 16)
            .by(7, 63).by(7, 9)
            .on(MedalBoard::new).by(1, 1).on(RefusedTest::full).by(1, 256).by(7, 255).by(7, 128).done();
        of("fewest", "(6: none do)").on(MedalBoard::new).by(6).on(RefusedTest::weightless).by(6).on(RefusedTest::allFell).by(6)
            .done();
        of("fewestSet", "(6)").on(MedalBoard::new).by(6).on(RefusedTest::weightless).by(6).on(RefusedTest::allFell).by(6).done();
        of("power", "(1; 7: he fell)").each(1, NO_MAN, -7).by(7, 3).by(7, 4).on(RefusedTest::allFell).by(7, 0).done();
        of("mightiest", "(6: nobody lives)").on(MedalBoard::new).by(6).on(RefusedTest::allFell).by(6).done();
        of("veto", "(1; 7: he fell)").each(1, NO_MAN, -7).by(7, 3).by(7, 4).on(RefusedTest::allFell).by(7, 0).done();
    }

    private static void orders() {
        of("most", "(1; 2; 3; 5: no size; 7: he fell)").each(1, NO_MAN, -7, 0, 1).each(1, NO_TRAY, 0, -7, 1).by(1, 0, 0, 0)
            .by(1, 0, 0, 5).by(1, 0, 0, -1)
            .by(1, 3, 3, 0).by(1, 0, 0, LEAST).by(1, 0, 0, MOST).by(2, 0, 3, 1).by(2, 3, 3, 4).by(3, 0, 2, 2).by(3, 3, 2, 4)
            .by(5, 0, 2, 1).by(5, 3, 2, 1)
            .by(5, 0, 1, 4).by(7, 3, 0, 1).by(7, 4, 0, 4).done();
        of("facesAt", "(1: k, too; 2; 3; 5; 7)").each(1, NO_MAN, -7, 0, 1, 0).each(1, NO_TRAY, 0, -7, 1, 0).by(1, 0, 0, 0, 0)
            .by(1, 0, 0, 5, 0)
            .by(1, 0, 0, 0, -1).by(1, 0, 0, 4, -1).by(1, 0, 0, 4, 4).by(1, 0, 0, 1, 1).by(1, 3, 3, 2, 2).by(1, 0, 0, LEAST, 0)
            .by(1, 0, 0, MOST, 0)
            .by(1, 0, 0, 4, LEAST).by(1, 0, 0, 4, MOST).by(2, 0, 3, 1, 0).by(2, 3, 3, 4, 3).by(3, 0, 2, 2, 0).by(3, 3, 2, 2, 1)
            .by(5, 0, 2, 1, 0)
            .by(5, 3, 1, 4, 0).by(7, 3, 0, 1, 0).by(7, 4, 0, 4, 3).done();
    }

    private static void wasSeen() {
        of("seen", "(1; 2; 3; 5: no size, neither 1 nor 0)").each(1, NO_MAN, -7, 1, 0).each(1, NO_TRAY, 0, -7, 0).by(1, 0, 1, -1)
            .by(1, 0, 1, 21)
            .by(1, 0, 3, 21).by(1, 0, 1, LEAST).by(1, 0, 1, MOST).by(2, 0, 3, 0).by(2, 0, 3, 20).by(3, 0, 1, 5).by(3, 0, 2, 1)
            .by(3, 0, 0, 3).by(3, 0, 1, 20)
            .by(5, 0, 1, 3).by(5, 0, 1, 4).by(5, 0, 0, 2).by(5, 3, 0, 2).done();
        of("seenAt", "(1; 2; 3; 5; 6: none fits)").each(1, NO_MAN, -7, 1, 0, 0).each(1, NO_TRAY, 0, -7, 0, 0).by(1, 0, 1, -1, 0)
            .by(1, 0, 1, 21, 0)
            .by(1, 0, 1, 1, -1).by(1, 0, 1, 1, 2).by(1, 0, 3, 1, 2).by(1, 0, 1, 1, LEAST).by(1, 0, 1, 1, MOST).by(2, 0, 3, 0, 0)
            .by(2, 0, 3, 20, 1)
            .by(3, 0, 1, 5, 0).by(3, 0, 2, 1, 1).by(5, 0, 1, 3, 0).by(5, 0, 0, 2, 1).by(6, 0, 1, 2, 0).by(6, 0, 1, 2, 1)
            .by(6, 3, 1, 2, 0).done();
        of("ask", "(1; 2; 3; 5; 6: fewer than two fit)").each(1, NO_MAN, -7, 1, 0).each(1, NO_TRAY, 0, -7, 0).by(1, 0, 1, -1)
            .by(1, 0, 1, 21)
            .by(2, 0, 3, 0).by(2, 0, 3, 20).by(3, 0, 1, 5).by(3, 0, 2, 1).by(5, 0, 1, 3).by(5, 0, 0, 2).by(6, 0, 1, 2)
            .by(6, 3, 1, 2).done();
    }

    private static void pairs() {
        of("couples", "(1)").each(1, NO_SIZE, -7).done();
        of("fondness", "(1)").each(1, NO_SIZE, -7).done();
        // c alone stands 99 and is paired with a; nobody runs what all stand
        of("partner", "(1; 6: none)").each(1, NO_MAN, -7, 5).each(1, NO_SIZE, 0, -7).each(1, NO_SIZE, 3, -7).by(6, 1, 99)
            .by(6, 5, 99).by(6, 3, 5)
            .by(6, 4, 99).on(RefusedTest::peace).by(6, 0, 1).by(6, 1, 2).on(RefusedTest::allFell).by(6, 0, 1).done();
    }

    private static void games() {
        RefusedTest game = of("game", "(1: one and himself, too; 2; 3; 5: no size; 7: one fell)");
        game.each(1, NO_MAN, -7, 1, 0, 1).each(1, NO_MAN, 0, -7, 0, 1).each(1, NO_TRAY, 0, 1, -7, 1).by(1, 0, 0, 0, 1)
            .by(1, 3, 3, 0, 0).by(1, 0, 0, 3, 0);
        game.by(1, 0, 1, 0, -1).by(1, 0, 1, 0, 5).by(1, 3, 1, 3, 5).by(1, 0, 1, 0, LEAST).by(1, 0, 1, 0, MOST).by(2, 0, 1, 3, 0)
            .by(2, 3, 1, 3, 4);
        game.by(3, 0, 1, 2, 2).by(3, 3, 1, 2, 4).by(5, 0, 1, 2, 1).by(5, 3, 1, 2, 1).by(7, 3, 1, 0, 0).by(7, 1, 3, 0, 4)
            .by(7, 3, 4, 0, 1).done();
        RefusedTest move = of("moveOf", "(1: n 0, too; 2; 3; 5; 7; 6: he WOULD RUN)");
        move.each(1, NO_MAN, -7, 1, 0, 1).each(1, NO_MAN, 0, -7, 0, 1).each(1, NO_TRAY, 0, 1, -7, 1).by(1, 0, 0, 0, 1)
            .by(1, 0, 1, 0, 0).by(1, 3, 1, 3, 0);
        move.by(1, 0, 1, 0, -1).by(1, 0, 1, 0, 5).by(2, 0, 1, 3, 1).by(2, 3, 1, 3, 4).by(3, 0, 1, 2, 2).by(3, 3, 1, 2, 4)
            .by(5, 0, 1, 2, 1);
        move.by(5, 3, 1, 2, 1).by(5, 5, 1, 1, 4).by(7, 3, 1, 0, 1).by(7, 0, 3, 0, 4).by(7, 5, 3, 0, 1).by(6, 1, 0, 0, 1)
            .by(6, 5, 0, 0, 4).done();
    }

    private static void chances() {
        of("chance", "(1)").each(1, NO_MAN, -7, 1, 1).by(1, 0, -1, 0).by(1, 0, 10, 0).by(1, 0, 1, -1).by(1, 0, 9, 10)
            .by(1, 0, LEAST, 0).by(1, 0, MOST, 0)
            .by(1, 0, 0, LEAST).by(1, 0, 0, MOST).done();
        of("luck", "(1: one and himself, too; 7: one fell)").each(1, NO_MAN, -7, 0).each(1, NO_MAN, 0, -7).by(1, 0, 0).by(1, 3, 3)
            .by(7, 3, 0).by(7, 0, 3)
            .by(7, 3, 4).done();
        of("copyMedals", "(1; 2; 3)").each(1, NO_TRAY, -7).by(2, 3).by(3, 0).by(3, 2).done();
    }

    private static void wars() {
        of("live", "(1; 6: no WAR)").by(1, -1).by(1, 10000).by(1, LEAST).by(1, MOST).on(RefusedTest::peace).by(1, -1).by(1, 10000)
            .by(6, 0).by(6, 9999)
            .on(MedalBoard::new).by(6, 0).done();
        RefusedTest lived = of("lived", "(1; 6: there was none)").by(1, -1).by(1, 5).by(1, LEAST).by(1, MOST)
            .on(RefusedTest::peace).by(1, 5).by(1, -1);
        for (int what = 0; what < 5; what++) {
            lived.by(6, what);
        }
        lived.done();
        of("mean", "(1: the last above 9,999, too; 6: no WAR)").each(1, NO_MAN, -7, 0, 1).by(1, 0, -1, 1).by(1, 0, 10000, 1)
            .by(1, 0, 0, 0).by(1, 0, 0, 21)
            .by(1, 0, 0, -1).by(1, 0, 9981, 20).by(1, 0, 9999, 2).by(1, 0, MOST, 20).by(1, 0, MOST, MOST).by(1, 0, LEAST, LEAST)
            .by(1, 0, 0, MOST)
            .on(RefusedTest::peace).by(1, 2, 0, 1).by(1, 0, 9999, 2).by(6, 0, 0, 1).by(6, 1, 9999, 1).by(6, 0, 9980, 20).done();
    }

    private static void marks() {
        of("mark", "(4)").on(RefusedTest::full).by(4).done();
        of("undo", "(6)").on(MedalBoard::new).by(6).on(RefusedTest::peace).by(6).done();
    }
}
