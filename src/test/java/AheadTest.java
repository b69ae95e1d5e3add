/** Promises 37 to 50. */
public final class AheadTest {
    public static void main(String[] args) {
        most();
        facesAt();
        wrongOrders();
        seen();
        ask();
        wrongSeen();
        pairs();
        pairsOfSeveral();
        game();
        moveOf();
        wrongGames();
        chance();
        luck();
        hopeful();
        copyMedals();
        Due.finish();
    }

    private static MedalBoard four() {
        return Due.withArmy("pride 2;quota 60;man a courage 10 weight 3;man b courage 3 weight 2 medals 1;man c courage 6;"
            + "man d courage 0 weight 4;likes a c 9;likes b d 7;likes c b 8;likes d c 2;");
    }

    private static void most() {
        MedalBoard x = Due.withArmy("pride 3;man a courage 9;man b courage 1;man c courage 2;likes a b 9;likes c b 9;");
        Due.fill(x, 0, 9, 9, 9, 9);
        Due.answered("b: 1, 4, 7, 10", x, x.most(1, 0, 4), 3);
        Due.answered("c: the fourth", x, x.most(2, 0, 4), 1);
        Due.answered("c: not by three", x, x.most(2, 0, 3), 0);
        Due.answered("a: none", x, x.most(0, 0, 4), 0);
        Due.is("facesAt(2, 0, 4, 3)", x.facesAt(2, 0, 4, 3), 0);
        Due.is("all stays", x.told(5), 0);
        Due.fill(x, 0, 9, 5, 8);
        Due.answered("c: a stands 9, b stands 4 no more", x, x.most(2, 0, 3), 0);
        Due.fill(x, 0, 9, 4, 4);
        Due.answered("c: b stands 4 then", x, x.most(2, 0, 3), 1);
        MedalBoard full = Due.withArmy("pride 0;man a courage 9;man b courage 1 medals 98;");
        Due.fill(full, 0, 5, 5);
        Due.answered("99 at most", full, full.most(1, 0, 2), 1);
    }

    private static void facesAt() {
        MedalBoard x = Due.withArmy("pride 3;man a courage 1;man b courage 9;man c courage 2;likes b a 0;likes c a 9;likes a c 9;");
        Due.fill(x, 2, 9, 9, 9, 9);
        // c has 2, 5, 8, then 11: no fourth
        Due.answered("most(2, 2, 4)", x, x.most(2, 2, 4), 3);
        int[] faces = {0, 1, 1, 1};
        for (int k = 0; k < 4; k++) {
            Due.answered("c's best, " + k, x, x.facesAt(2, 2, 4, k), faces[k]);
        }
        Due.answered("c's best of three", x, x.facesAt(2, 2, 3, 0), 1);
        for (int k = 0; k < 3; k++) {
            Due.answered("b gets none, all flee, " + k, x, x.facesAt(1, 2, 3, k), 0);
        }
        x.fall(0);
        Due.answered("the living alone", x, x.facesAt(1, 2, 1, 0), 1);
        Due.answered("c's best of two", x, x.facesAt(2, 2, 1, 0), 1);
        MedalBoard y = Due.withArmy("pride 0;man a courage 5;man b courage 7;man c courage 1;");
        Due.fill(y, 0, 7, 6, 1);
        Due.answered("7: b stands, c wins not", y, y.facesAt(2, 0, 3, 0), 0);
    }

    private static void wrongOrders() {
        MedalBoard x = four();
        Due.fill(x, 0, 1, 99, 100, 0);
        x.fall(3);
        Due.refused("most(4, 0, 1)", x, x.most(4, 0, 1), 1);
        Due.refused("most(0, 4, 1)", x, x.most(0, 4, 1), 1);
        Due.refused("most(0, -1, 1)", x, x.most(0, -1, 1), 1);
        Due.refused("most(0, 1, 0)", x, x.most(0, 1, 0), 1);
        Due.refused("most(0, 1, 5)", x, x.most(0, 1, 5), 1);
        Due.refused("most(3, 1, 1)", x, x.most(3, 1, 1), 2);
        Due.refused("most(3, 0, 3)", x, x.most(3, 0, 3), 5);
        Due.refused("most(3, 0, 2)", x, x.most(3, 0, 2), 7);
        Due.answered("most(0, 0, 2)", x, x.most(0, 0, 2), 0);
        Due.refused("facesAt(0, 0, 2, 2)", x, x.facesAt(0, 0, 2, 2), 1);
        Due.refused("facesAt(0, 1, 2, -1)", x, x.facesAt(0, 1, 2, -1), 1);
        Due.refused("facesAt(0, 0, 0, 0)", x, x.facesAt(0, 0, 0, 0), 1);
        Due.refused("facesAt(0, 0, MIN, 0)", x, x.facesAt(0, 0, Integer.MIN_VALUE, 0), 1);
        Due.refused("facesAt(0, 1, 2, 0)", x, x.facesAt(0, 1, 2, 0), 2);
        Due.refused("facesAt(0, 0, 4, 0)", x, x.facesAt(0, 0, 4, 0), 5);
        Due.refused("facesAt(3, 0, 2, 0)", x, x.facesAt(3, 0, 2, 0), 7);
        x.tray(0, 3, 1);
        x.write(0, 0, 1L << 32 | 5);
        Due.refused("too few", x, x.most(3, 0, 2), 3);
        Due.refused("too few", x, x.facesAt(3, 0, 2, 1), 3);
        Due.refused("no size, of 64 bits", x, x.most(0, 0, 1), 5);
    }

    private static void seen() {
        MedalBoard x = four();
        Due.fill(x, 0, 5, 1, 9, 0, 7, 1, 8, 0);
        Due.answered("nothing seen", x, x.seen(1, 0, 0), 21);
        Due.answered("stood 5", x, x.seen(1, 0, 1), 18);
        Due.answered("least", x, x.seenAt(1, 0, 1, 0), 3);
        Due.answered("greatest", x, x.seenAt(1, 0, 1, 1), 20);
        Due.answered("fled 9", x, x.seen(1, 0, 2), 4);
        Due.answered("greatest", x, x.seenAt(1, 0, 2, 1), 6);
        Due.answered("stood 7, fled 8", x, x.seen(1, 0, 4), 1);
        Due.answered("with no medals", x, x.seenAt(0, 0, 4, 0), 7);
        x.fall(1);
        Due.answered("of one who fell", x, x.seenAt(1, 0, 4, 1), 5);
        Due.fill(x, 0, 22, 1, 2, 1, 3, 0);
        Due.answered("20 alone", x, x.seenAt(1, 0, 1, 0), 20);
        Due.answered("20 alone", x, x.seen(1, 0, 1), 1);
        x.write(0, 0, 2);
        Due.answered("0 alone", x, x.seenAt(1, 0, 3, 1), 0);
        Due.answered("0 alone", x, x.seen(1, 0, 3), 1);
        Due.fill(x, 0, 5, 1, 5, 0);
        Due.answered("none fits", x, x.seen(1, 0, 2), 0);
        Due.refused("none fits", x, x.seenAt(1, 0, 2, 1), 6);
        MedalBoard full = Due.withArmy("pride 9;man a courage 0 medals 10;");
        Due.fill(full, 0, 99, 1);
        Due.answered("99 at most", full, full.seen(0, 0, 1), 12);
        Due.fill(full, 0, 99, 0);
        Due.answered("99 at most", full, full.seenAt(0, 0, 1, 1), 8);
    }

    private static void ask() {
        MedalBoard x = four();
        Due.fill(x, 0, 5, 1, 9, 0, 7, 1, 8, 0);
        Due.answered("21: 10 and 11", x, x.ask(1, 0, 0), 12);
        Due.answered("21 without medals", x, x.ask(0, 0, 0), 10);
        Due.answered("18: 9 and 9", x, x.ask(1, 0, 1), 14);
        Due.answered("4: 2 and 2", x, x.ask(1, 0, 2), 7);
        Due.answered("2: 1 and 1", x, x.ask(1, 0, 3), 8);
        Due.refused("fewer than two", x, x.ask(1, 0, 4), 6);
        Due.fill(x, 1, 4, 0);
        Due.answered("0 and 1", x, x.ask(1, 1, 1), 3);
        x.fall(1);
        Due.answered("of one who fell", x, x.ask(1, 0, 0), 12);
        MedalBoard full = Due.withArmy("pride 9;man a courage 0 medals 99;man b courage 0 medals 10;");
        full.tray(0, 0, 0);
        Due.answered("nothing parts these", full, full.ask(0, 0, 0), 1);
        Due.answered("90 to 99", full, full.ask(1, 0, 0), 99);
    }

    private static void wrongSeen() {
        MedalBoard x = four();
        Due.fill(x, 0, 5, 1, 9, 2, 0, 1, 100, 0);
        Due.refused("seen(4, 0, 0)", x, x.seen(4, 0, 0), 1);
        Due.refused("seen(0, 4, 0)", x, x.seen(0, 4, 0), 1);
        Due.refused("seen(0, 1, -1)", x, x.seen(0, 1, -1), 1);
        Due.refused("seen(0, 1, 21)", x, x.seen(0, 1, 21), 1);
        Due.refused("seen(0, 1, 0)", x, x.seen(0, 1, 0), 2);
        Due.refused("seen(0, 0, 5)", x, x.seen(0, 0, 5), 3);
        Due.refused("neither 1 nor 0", x, x.seen(0, 0, 2), 5);
        x.write(0, 3, 1);
        Due.refused("no size", x, x.seen(0, 0, 3), 5);
        x.write(0, 4, 9);
        Due.refused("no size", x, x.seen(0, 0, 4), 5);
        Due.refused("seenAt(0, 0, 4, 0)", x, x.seenAt(0, 0, 4, 0), 5);
        Due.refused("seenAt(0, 1, 4, 2)", x, x.seenAt(0, 1, 4, 2), 1);
        Due.refused("seenAt(0, 1, 4, -1)", x, x.seenAt(0, 1, 4, -1), 1);
        Due.refused("seenAt(-1, 1, 4, 0)", x, x.seenAt(-1, 1, 4, 0), 1);
        Due.refused("seenAt(0, 1, 4, 0)", x, x.seenAt(0, 1, 4, 0), 2);
        Due.refused("seenAt(0, 0, 20, 0)", x, x.seenAt(0, 0, 20, 0), 3);
        Due.refused("ask(4, 0, 0)", x, x.ask(4, 0, 0), 1);
        Due.refused("ask(0, 0, 21)", x, x.ask(0, 0, 21), 1);
        Due.refused("ask(0, 1, 0)", x, x.ask(0, 1, 0), 2);
        Due.refused("ask(0, 0, 5)", x, x.ask(0, 0, 5), 3);
        Due.refused("ask(0, 0, 4)", x, x.ask(0, 0, 4), 5);
        x.tray(3, 0, 41);
        for (int i = 0; i < 20; i++) {
            x.write(3, 2 * i, 4);
            x.write(3, 2 * i + 1, 1);
        }
        Due.answered("twenty twos", x, x.seen(0, 3, 20), 17);
        x.write(3, 39, 0);
        Due.answered("the twentieth counts", x, x.seen(0, 3, 20), 0);
        x.write(3, 40, 77);
        Due.answered("nineteen", x, x.seen(0, 3, 19), 17);
    }

    private static void pairs() {
        MedalBoard x = four();
        Due.answered("two and two", x, x.couples(6), 2);
        // a with b: 5 + 5, c with d: 5 + 2, or a with d: 5 + 5, c with b: 8 + 5
        Due.answered("fondness", x, x.fondness(6), 23);
        Due.answered("a's", x, x.partner(0, 6), 3);
        Due.answered("d's", x, x.partner(3, 6), 0);
        Due.answered("c's", x, x.partner(2, 6), 1);
        Due.answered("b's", x, x.partner(1, 6), 2);
        Due.answered("nobody stands", x, x.couples(11), 0);
        Due.answered("nobody stands", x, x.fondness(11), 0);
        Due.refused("nobody stands", x, x.partner(0, 11), 6);
        Due.answered("one stands", x, x.couples(10), 1);
        Due.answered("one stands", x, x.fondness(10), 14);
        Due.answered("one stands", x, x.partner(0, 10), 2);
        Due.refused("one runs, alone", x, x.partner(1, 10), 6);
        Due.answered("one runs", x, x.couples(5), 1);
        // d with a: 5 + 5, with b: 7 + 5, with c: 5 + 2
        Due.answered("one runs", x, x.partner(3, 5), 1);
        Due.refused("one stands, alone", x, x.partner(0, 5), 6);
        x.fall(1);
        Due.answered("of the living", x, x.partner(3, 5), 0);
        Due.refused("who fell has none", x, x.partner(1, 5), 6);
        Due.refused("couples(0)", x, x.couples(0), 1);
        Due.refused("couples(100)", x, x.couples(100), 1);
        Due.refused("fondness(0)", x, x.fondness(0), 1);
        Due.refused("fondness(100)", x, x.fondness(100), 1);
        Due.refused("partner(4, 1)", x, x.partner(4, 1), 1);
        Due.refused("partner(1, 100)", x, x.partner(1, 100), 1);
    }

    private static void pairsOfSeveral() {
        MedalBoard x = Due.withArmy("man a courage 9;man b courage 0;man c courage 9;man d courage 0;man e courage 9;");
        Due.answered("of several: a's least", x, x.partner(0, 5), 1);
        Due.answered("of several: c's", x, x.partner(2, 5), 3);
        Due.refused("nobody comes last", x, x.partner(4, 5), 6);
        Due.answered("fondness", x, x.fondness(5), 20);
        x.charm(4, 1, 6);
        Due.answered("e with b", x, x.partner(4, 5), 1);
        Due.answered("a with d", x, x.partner(0, 5), 3);
        Due.refused("c alone", x, x.partner(2, 5), 6);
        x.charm(2, 1, 6);
        Due.answered("a keeps d: c with b", x, x.partner(2, 5), 1);
        x.charm(2, 1, 5);
        x.charm(4, 1, 5);
        x.charm(0, 1, 0);
        x.charm(0, 3, 0);
        Due.refused("as many as can be, a alone", x, x.partner(0, 5), 6);
        Due.answered("c's", x, x.partner(2, 5), 1);
        x.fall(4);
        Due.answered("as many as can be", x, x.couples(5), 2);
        Due.answered("though he likes nobody", x, x.partner(0, 5), 1);
    }

    private static void game() {
        MedalBoard x = four();
        Due.fill(x, 0, 8, 5, 8, 5);
        Due.answered("no dangers", x, x.game(0, 1, 0, 0), -1);
        Due.answered("a runs on purpose", x, x.game(0, 1, 0, 1), -1);
        Due.answered("b would run", x, x.game(1, 0, 0, 1), 1);
        Due.answered("c against d, by 8", x, x.game(2, 3, 0, 1), 0);
        MedalBoard y = Due.withArmy("pride 1;man a courage 9;man b courage 5;man c courage 1;likes a c 9;likes b c 9;likes c b 9;");
        Due.fill(y, 0, 9, 5, 3, 2);
        Due.answered("stand: c gets it", y, y.game(0, 2, 0, 1), 0);
        Due.answered("the second may run, too", y, y.game(2, 0, 0, 2), 0);
        y.weigh(2, 9);
        Due.answered("c's vote is b's: a runs", y, y.game(0, 1, 0, 1), 0);
        Due.answered("c's vote is b's: a stands", y, y.game(0, 2, 0, 1), 0);
        Due.is("nothing is changed", y.told(5) + y.told(8), 0);
        gameByTurns();
    }

    /** Who stands gives a MEDAL away and gets none, so by best play neither gives the other one any. */
    private static void gameByTurns() {
        MedalBoard x = Due.withArmy("pride 1;man a courage 5 medals 4;man b courage 7 medals 1;man c courage 3;man d courage 1;"
            + "likes a b 9;likes b a 9;likes c d 9;");
        Due.fill(x, 0, 8, 9, 2, 4);
        for (int n = 0; n <= 4; n++) {
            Due.answered("a against b, " + n, x, x.game(0, 1, 0, n), 3);
            Due.answered("b against a, " + n, x, x.game(1, 0, 0, n), -3);
            Due.answered("c against a, " + n, x, x.game(2, 0, 0, n), -4);
        }
        Due.is("8: c would have it, not b", x.moveOf(0, 1, 0, 4), 1);
        Due.is("8: c would have it", x.moveOf(0, 2, 0, 4), 0);
        x.write(0, 0, 9);
        Due.is("9: b would have it", x.moveOf(0, 1, 0, 4), 0);
        Due.is("9: b would have it, not c", x.moveOf(0, 2, 0, 4), 1);
        MedalBoard full = Due.withArmy("pride 0;man a courage 5;man b courage 0 medals 99;");
        Due.fill(full, 0, 5);
        Due.is("99 at most: as good", full.moveOf(0, 1, 0, 1), 1);
        full.lose(1);
        Due.is("98", full.moveOf(0, 1, 0, 1), 0);
    }

    private static void moveOf() {
        MedalBoard x = four();
        Due.fill(x, 0, 8, 5, 8, 5);
        Due.answered("he runs", x, x.moveOf(0, 1, 0, 1), 0);
        Due.answered("against d: as good", x, x.moveOf(0, 3, 0, 1), 1);
        Due.refused("he would run", x, x.moveOf(1, 0, 0, 1), 6);
        Due.fill(x, 0, 5);
        Due.answered("d gets it", x, x.moveOf(0, 3, 0, 1), 0);
        Due.answered("d gets it: as good", x, x.moveOf(0, 1, 0, 1), 1);
    }

    private static void wrongGames() {
        MedalBoard x = four();
        Due.fill(x, 0, 8, 5, 0);
        Due.refused("game(0, 0, 0, 0)", x, x.game(0, 0, 0, 0), 1);
        Due.refused("game(4, 0, 0, 0)", x, x.game(4, 0, 0, 0), 1);
        Due.refused("game(0, 4, 0, 0)", x, x.game(0, 4, 0, 0), 1);
        Due.refused("game(0, 1, 4, 0)", x, x.game(0, 1, 4, 0), 1);
        Due.refused("game(0, 1, 1, 5)", x, x.game(0, 1, 1, 5), 1);
        Due.refused("game(0, 1, 1, -1)", x, x.game(0, 1, 1, -1), 1);
        Due.refused("game(0, 1, 1, 0)", x, x.game(0, 1, 1, 0), 2);
        Due.refused("game(0, 1, 0, 4)", x, x.game(0, 1, 0, 4), 3);
        Due.refused("game(0, 1, 0, 3)", x, x.game(0, 1, 0, 3), 5);
        Due.refused("moveOf(0, 0, 0, 1)", x, x.moveOf(0, 0, 0, 1), 1);
        Due.refused("moveOf(0, 1, 1, 0)", x, x.moveOf(0, 1, 1, 0), 1);
        Due.refused("moveOf(0, 1, 0, 5)", x, x.moveOf(0, 1, 0, 5), 1);
        Due.refused("moveOf(0, 1, 1, 1)", x, x.moveOf(0, 1, 1, 1), 2);
        Due.refused("moveOf(0, 1, 0, 4)", x, x.moveOf(0, 1, 0, 4), 3);
        Due.refused("moveOf(0, 1, 0, 3)", x, x.moveOf(0, 1, 0, 3), 5);
        x.fall(3);
        Due.refused("the second fell", x, x.game(0, 3, 0, 0), 7);
        Due.refused("the first fell", x, x.game(3, 0, 0, 0), 7);
        Due.refused("one fell, no size", x, x.game(3, 0, 0, 3), 5);
        Due.refused("the second fell", x, x.moveOf(1, 3, 0, 1), 7);
        Due.refused("the first fell", x, x.moveOf(3, 1, 0, 1), 7);
    }

    private static void chance() {
        MedalBoard x = Due.withArmy("pride 9;man a courage 5;man b courage 0;man c courage 20;man d courage 0 medals 9;");
        Due.fraction("1 of 1", x, x.chance(0, 1, 1), 1, 4);
        Due.fraction("1 of 2", x, x.chance(0, 2, 1), 7, 16);
        Due.fraction("2 of 2", x, x.chance(0, 2, 2), 1, 16);
        Due.fraction("0 of 2", x, x.chance(0, 2, 0), 1, 1);
        Due.fraction("0 of 0", x, x.chance(0, 0, 0), 1, 1);
        Due.fraction("3 of 2", x, x.chance(0, 2, 3), 0, 1);
        Due.fraction("2 of 3", x, x.chance(0, 3, 2), 5, 32);
        Due.fraction("9 of 9", x, x.chance(0, 9, 9), 1, 262144);
        Due.fraction("never", x, x.chance(1, 9, 1), 0, 1);
        Due.fraction("never, 0 or more", x, x.chance(1, 9, 0), 1, 1);
        Due.fraction("always", x, x.chance(2, 9, 9), 1, 1);
        Due.fraction("above 20", x, x.chance(3, 9, 9), 1, 1);
        x.fall(0);
        x.train(0, 7);
        Due.fraction("of one who fell", x, x.chance(0, 9, 9), 40353607, 512000000000L);
        Due.refused("chance(4, 0, 0)", x, x.chance(4, 0, 0), 1);
        Due.refused("chance(0, 10, 0)", x, x.chance(0, 10, 0), 1);
        Due.refused("chance(0, -1, 0)", x, x.chance(0, -1, 0), 1);
        Due.refused("chance(0, 0, 10)", x, x.chance(0, 0, 10), 1);
        Due.refused("chance(0, 0, -1)", x, x.chance(0, 0, -1), 1);
        Due.is("as told", x.top(), 40353607);
    }

    private static void luck() {
        MedalBoard x = four();
        // a stands 1 to 10: d alone runs 1 to 5, from 6 on b has the most votes
        Due.fraction("a for d", x, x.luck(0, 3), 1, 4);
        Due.fraction("a for b", x, x.luck(0, 1), 1, 4);
        Due.fraction("a for c", x, x.luck(0, 2), 0, 1);
        Due.fraction("b for d", x, x.luck(1, 3), 1, 4);
        Due.fraction("d stands none", x, x.luck(3, 0), 0, 1);
        x.fall(2);
        Due.refused("he fell", x, x.luck(2, 0), 7);
        Due.refused("the other one fell", x, x.luck(0, 2), 7);
        Due.refused("himself, fell", x, x.luck(2, 2), 1);
        Due.refused("luck(0, 0)", x, x.luck(0, 0), 1);
        Due.refused("luck(4, 0)", x, x.luck(4, 0), 1);
        Due.refused("luck(0, 4)", x, x.luck(0, 4), 1);
        MedalBoard y = Due.withArmy("pride 9;man a courage 20 medals 9;man b courage 0;");
        Due.fraction("sizes to 20", y, y.luck(0, 1), 1, 1);
    }

    private static void hopeful() {
        MedalBoard x = four();
        Due.answered("b, d", x, x.hopeful(), 10);
        x.fall(3);
        Due.answered("b alone at 6, c's vote at 7", x, x.hopeful(), 6);
        x.fall(0);
        Due.answered("c stands 6: b", x, x.hopeful(), 2);
        x.fall(2);
        Due.answered("nobody runs what b stands", x, x.hopeful(), 0);
        MedalBoard y = Due.withArmy("pride 9;man a courage 9 medals 10;man b courage 8 medals 10;");
        Due.answered("by 99 alone", y, y.hopeful(), 2);
        y.rule(1, 0);
        y.train(0, 0);
        y.train(1, 0);
        Due.answered("nobody stands", y, y.hopeful(), 0);
    }

    private static void copyMedals() {
        MedalBoard x = Due.withArmy("man a courage 1 medals 99;man b courage 1;man c courage 1 medals 5;");
        x.fall(2);
        Due.refused("copyMedals(4)", x, x.copyMedals(4), 1);
        Due.refused("copyMedals(-1)", x, x.copyMedals(-1), 1);
        Due.refused("copyMedals(0)", x, x.copyMedals(0), 2);
        x.tray(0, 0, 2);
        Due.refused("too small", x, x.copyMedals(0), 3);
        Due.is("nothing came", x.read(0, 0), 0);
        Due.fill(x, 0, 7, 7, 7, 7);
        Due.answered("copyMedals(0)", x, x.copyMedals(0), 3);
        Due.is("place 0", x.read(0, 0), 99);
        Due.is("place 1", x.read(0, 1), 0);
        Due.is("place 2", x.read(0, 2), 5);
        Due.is("place 3 stays", x.read(0, 3), 7);
    }
}
