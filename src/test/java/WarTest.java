/** Promises 51 to 55. */
public final class WarTest {
    private static final String THREE =
        "pride 2;man a courage 10 weight 3;man b courage 3 medals 1;man c courage 0 weight 4;";

    public static void main(String[] args) {
        deeds();
        missed();
        tests();
        loops();
        limit();
        draws();
        lived();
        mean();
        marks();
        marksKeepAWar();
        Due.finish();
    }

    private static MedalBoard at(String war) {
        MedalBoard x = Due.withArmy(THREE);
        if (Due.war(x, war) == MedalBoard.NONE) {
            Due.fault(war, x, 0, -1);
        }
        return x;
    }

    private static void lives(String war, int seed, int steps, int... want) {
        lives(at(war), war, seed, steps, want);
    }

    private static void lives(MedalBoard x, String war, int seed, int steps, int... want) {
        Due.answered(war + ": live", x, x.live(seed), steps);
        for (int what = 0; what < want.length; what++) {
            Due.answered(war + ": lived(" + what + ")", x, x.lived(what), want[what]);
        }
    }

    private static void deeds() {
        MedalBoard x = at("face a 10;face c 1;give b c;lose b;fall a;");
        lives(x, "deeds", 0, 5, 0, 1, 1, 1, 0);
        Due.is("a stood", x.man(0, 3), 1);
        Due.is("c fled", x.man(2, 4), 1);
        Due.is("b's medals", x.man(1, 2), 0);
        Due.is("c's medals", x.man(2, 2), 1);
        Due.is("lost", x.told(7), 1);
        Due.is("living", x.told(3), 6);
        // c has a medal now and stands; b stands 1, too
        lives(x, "once more", 0, 5, 4, 1, 0, 0, 0);
        Due.is("all is as it was then", x.man(2, 3), 1);
        Due.is("melted", x.told(6), 1);
        lives("face a 1;stop;face a 1;", 0, 2, 0, 1, 0, 1, 0);
        lives("stop;", 0, 1, 0, 0, 0, 0, 0);
        MedalBoard y = Due.withArmy("pride 0;man a courage 9;man b courage 0 medals 99;");
        Due.war(y, "face a 1;loop 3;face b 1;end;face a 10;fall b;face a 1;");
        lives(y, "above 99, melted", 0, 8, 0, 2, 4, 1, 0);
        Due.is("melted", y.told(6), 1);
        Due.is("lost", y.told(7), 1);
    }

    private static void missed() {
        lives("fall c;face c 1;", 0, 2, 1, 0, 0, 0, 0);
        lives("give b b;", 0, 1, 1);
        lives("give a b;", 0, 1, 1);
        lives("fall b;give b a;", 0, 2, 1);
        lives("fall a;give b a;", 0, 2, 1);
        lives("lose b;lose b;lose b;", 0, 3, 2);
        lives("fall a;fall a;", 0, 2, 1);
        lives("fall b;lose b;", 0, 2, 0);
        lives("fall a;fall b;fall c;loop 5;any;end;", 7, 9, 5, 0, 0, 0, 0);
        MedalBoard x = Due.withArmy("man a courage 0 medals 1;man b courage 0 medals 99;");
        Due.war(x, "give a b;");
        lives(x, "to one with 99", 0, 1, 1);
        MedalBoard y = new MedalBoard();
        Due.war(y, "any;any;");
        lives(y, "any without men", 0, 2, 2, 0, 0, 0, 0);
        MedalBoard alone = Due.withArmy("man a courage 20;");
        Due.war(alone, "any;any;");
        lives(alone, "any by one man", 0, 2, 0, 2, 0, 0, 0);
    }

    private static void tests() {
        String[] holds = {"brave a = 10", "brave b = 5", "brave b > 4", "brave b < 6", "worn b = 1", "worn c = 0", "worn b > 0",
            "worn b < 2", "fled c = 2", "fled c > 1", "fled c < 3", "fled a = 0", "brave a < 999"};
        String[] not = {"brave a = 9", "brave b > 5", "brave b < 5", "worn b > 1", "worn b < 1", "worn c = 1", "fled c > 2",
            "fled c < 2", "fled c = 1", "brave a > 999"};
        for (String test : holds) {
            lives("face c 1;face c 1;when " + test + ";face c 2;face c 3;end;lose b;", 0, 6, 0, 0, 4, 0, 0);
        }
        for (String test : not) {
            lives("face c 1;face c 1;when " + test + ";face c 2;face c 3;end;lose b;", 0, 4, 0, 0, 2, 0, 0);
        }
        lives("fall b;when brave b = 5;any;end;", 0, 3);
        lives("when worn b = 0;when worn b = 1;stop;end;stop;end;fall a;", 0, 2, 0);
    }

    private static void loops() {
        lives("loop 3;face c 1;end;", 0, 4, 0, 0, 3, 0, 0);
        lives("loop 2;loop 3;face c 1;end;fall a;end;", 0, 11, 1, 0, 6, 0, 0);
        lives("loop 99;end;", 0, 1, 0, 0, 0, 0, 0);
        lives("loop 9;loop 99;end;end;", 0, 10, 0, 0, 0, 0, 0);
        lives("loop 9;when fled c > 3;stop;end;face c 1;end;", 0, 11, 0, 0, 4, 0, 0);
        lives("loop 2;when fled c = 0;face c 1;end;end;", 0, 4, 0, 0, 1, 0, 0);
        lives("loop 2;loop 2;loop 2;face c 1;end;end;end;", 0, 15, 0, 0, 8, 0, 0);
    }

    private static void limit() {
        lives("loop 99;face c 1;face c 1;face c 1;end;fall a;fall b;", 0, 300, 0, 0, 297, 0, 0);
        lives("loop 99;face c 1;face c 1;face c 1;end;fall a;fall b;fall b;", 0, 300, 0, 0, 297, 0, 1);
        lives("loop 99;loop 99;face c 1;end;end;", 0, 300, 0, 0, 296, 0, 1);
        lives("loop 23;loop 12;face c 1;end;end;", 0, 300, 0, 0, 276, 0, 0);
        lives("loop 23;loop 12;face c 1;end;end;loop 9;end;", 0, 300, 0, 0, 276, 0, 1);
        lives("loop 99;loop 99;loop 99;end;end;end;", 0, 300, 0, 0, 0, 0, 1);
        lives("loop 99;face c 1;face c 1;face c 1;end;any;stop;stop;", 5, 300, 0);
        MedalBoard x = at("loop 99;face c 1;face c 1;face c 1;end;stop;fall a;fall b;");
        lives(x, "a stop leaves none", 0, 299, 0, 0, 297, 0, 0);
        Due.war(x, "loop 99;loop 99;any;end;end;");
        lives(x, "a STEP is left", 0, 300);
        Due.is("a STEP is left", x.lived(4), 1);
        Due.war(x, "any;");
        lives(x, "none is left now", 0, 1);
        Due.is("none is left now", x.lived(4), 0);
        MedalBoard y = at("loop 99;face c 1;face c 1;face c 1;end;fall b;stop;fall a;");
        lives(y, "a stop as the 300th", 0, 300, 0, 0, 297, 0, 0);
    }

    private static void draws() {
        MedalBoard x = at("any;");
        // s becomes 11321: 1415 by 3 leaves 2, so it is c, who flees whatever comes
        Due.answered("any", x, x.live(0), 1);
        Due.is("c fled", x.man(2, 4), 1);
        for (int seed = 0; seed < 10000; seed += 37) {
            byHand(seed, 9);
        }
        byHand(9999, 40);
    }

    private static void byHand(int seed, int times) {
        MedalBoard x = at("fall b;loop " + times + ";any;end;");
        MedalBoard y = Due.withArmy(THREE);
        y.fall(1);
        int missed = 0;
        int s = seed;
        for (int i = 0; i < times; i++) {
            s = (s * 3109 + 11321) % 65536;
            int man = s / 8 % 3;
            s = (s * 3109 + 11321) % 65536;
            missed += y.face(man, 1 + s / 8 % 20) == MedalBoard.NONE ? 1 : 0;
        }
        Due.is("seed " + seed, x.live(seed), times + 2);
        Due.is("seed " + seed + ": missed", x.lived(0), missed);
        Due.is("seed " + seed + ": stood", x.lived(1), y.told(8));
        Due.is("seed " + seed + ": fled", x.lived(2), y.told(9));
        for (int man = 0; man < 3; man++) {
            for (int what = 0; what < 7; what++) {
                Due.is("seed " + seed + ": man(" + man + ", " + what + ")", x.man(man, what), y.man(man, what));
            }
        }
    }

    private static void lived() {
        MedalBoard x = Due.withArmy(THREE);
        Due.refused("no WAR", x, x.live(0), 6);
        Due.refused("live(-1)", x, x.live(-1), 1);
        Due.refused("live(10000)", x, x.live(10000), 1);
        Due.refused("there was none", x, x.lived(0), 6);
        Due.refused("lived(5)", x, x.lived(5), 1);
        Due.refused("lived(-1)", x, x.lived(-1), 1);
        Due.war(x, "face c 1;face a 1;face a 10;");
        Due.refused("there was none yet", x, x.lived(0), 6);
        Due.answered("live(9999)", x, x.live(9999), 3);
        x.mean(0, 0, 5);
        x.live(10000);
        Due.answered("the latest with 0", x, x.lived(2), 1);
        Due.answered("pinned", x, x.lived(3), 2);
        Due.army(x, "");
        Due.answered("of live() latest, whatever comes", x, x.lived(1), 2);
        Due.refused("the WAR is gone", x, x.live(0), 6);
    }

    private static void mean() {
        MedalBoard x = at("any;any;any;any;");
        int[] sums = new int[3];
        for (int seed = 40; seed < 60; seed++) {
            x.mark();
            x.live(seed);
            for (int man = 0; man < 3; man++) {
                sums[man] += x.man(man, 2);
            }
            x.undo();
        }
        x.live(0);
        int stood = x.lived(1);
        x = at("any;any;any;any;");
        for (int man = 0; man < 3; man++) {
            Due.answered("mean " + man, x, x.mean(man, 40, 20));
            Due.is("mean " + man, x.top() * 20, sums[man] * x.bottom());
            Due.yes("without a common divisor", java.math.BigInteger.valueOf(x.top())
                .gcd(java.math.BigInteger.valueOf(x.bottom())).intValue() == 1);
        }
        Due.is("all stays as it is", x.told(5) * 100 + x.told(8) * 10 + x.told(9), 100);
        Due.refused("lived() stays, too", x, x.lived(0), 6);
        Due.is("the draws are its own", x.live(0) * 100 + x.lived(1), 400 + stood);
        Due.answered("mean(0, 9999, 1)", x, x.mean(0, 9999, 1));
        Due.answered("mean(0, 9980, 20)", x, x.mean(0, 9980, 20));
        Due.refused("mean(0, 9981, 20)", x, x.mean(0, 9981, 20), 1);
        Due.refused("mean(0, 10000, 1)", x, x.mean(0, 10000, 1), 1);
        Due.refused("mean(0, -1, 1)", x, x.mean(0, -1, 1), 1);
        Due.refused("mean(0, 0, 0)", x, x.mean(0, 0, 0), 1);
        Due.refused("mean(0, 0, 21)", x, x.mean(0, 0, 21), 1);
        Due.refused("mean(0, MAX, 20)", x, x.mean(0, Integer.MAX_VALUE, 20), 1);
        Due.refused("mean(3, 0, 1)", x, x.mean(3, 0, 1), 1);
        x.army(0);
        x.enlist(1, 1);
        Due.refused("mean without a WAR", x, x.mean(0, 0, 1), 6);
        Due.refused("mean without a WAR, nor such a MAN", x, x.mean(1, 0, 1), 1);
        MedalBoard y = at("lose b;");
        Due.fraction("0 is 0 by 1", y, y.mean(1, 0, 7), 0, 1);
        MedalBoard z = at("face a 10;");
        Due.fraction("one whole", z, z.mean(1, 0, 7), 2, 1);
    }

    private static void marks() {
        MedalBoard x = Due.withArmy(THREE);
        x.tray(0, 0, 1);
        Due.answered("mark 1", x, x.mark(), 1);
        x.face(0, 10);
        x.charm(0, 1, 9);
        Due.answered("mark 2", x, x.mark(), 2);
        x.fall(0);
        x.rule(1, 7);
        x.rule(2, 7);
        x.lose(1);
        x.train(1, 9);
        x.weigh(1, 9);
        Due.answered("mark 3", x, x.mark(), 3);
        Due.refused("a fourth", x, x.mark(), 4);
        x.enlist(1, 1);
        x.write(0, 0, 5);
        Due.army(x, "man z courage 1;");
        Due.feed(x, "man");
        Due.answered("undo 3", x, x.undo(), 2);
        Due.is("an ARMY comes back", x.told(0), 3);
        Due.is("fallen", x.told(3), 6);
        Due.is("pride", x.told(1), 7);
        Due.is("TRAYS stay", x.read(0, 0), 5);
        Due.refused("the tape stays", x, x.army(3), 9);
        Due.answered("undo 2", x, x.undo(), 1);
        Due.is("living", x.told(3), 7);
        Due.is("pride", x.told(1), 2);
        Due.is("quota", x.told(2), 50);
        Due.is("lost", x.told(7), 0);
        Due.is("medals", x.told(5), 2);
        Due.is("stood", x.told(8), 1);
        Due.is("courage", x.man(1, 0), 3);
        Due.is("weight", x.man(1, 1), 1);
        Due.is("likes", x.likes(0, 1), 9);
        Due.is("fault stays", x.fault(1), 3);
        Due.answered("mark 2 again", x, x.mark(), 2);
        Due.answered("undo 2", x, x.undo(), 1);
        Due.answered("undo 1", x, x.undo(), 0);
        Due.is("medals", x.told(5), 1);
        Due.is("stood", x.told(8), 0);
        Due.is("likes", x.likes(0, 1), 5);
        Due.refused("none left", x, x.undo(), 6);
    }

    private static void marksKeepAWar() {
        MedalBoard x = Due.withArmy(THREE);
        x.mark();
        Due.war(x, "any;fall a;");
        x.mark();
        Due.war(x, "stop;");
        x.mark();
        Due.army(x, "");
        Due.refused("none", x, x.live(0), 6);
        x.undo();
        Due.answered("stop", x, x.live(0), 1);
        x.undo();
        Due.answered("any, fall", x, x.live(0), 2);
        Due.is("names come back, too", Due.war(x, "fall b;"), 1);
        x.undo();
        Due.refused("no WAR", x, x.live(0), 6);
        Due.is("all live", x.told(3), 7);
    }
}
