/** Promises 16 to 24. */
public final class DeedsTest {
    private static final String FOUR =
        "pride 2;man a courage 10 weight 3;man b courage 3 medals 1;man c courage 6;man d courage 0 weight 4;";

    public static void main(String[] args) {
        face();
        faceAboveAll();
        voters();
        give();
        lose();
        fall();
        enlist();
        changes();
        rule();
        Due.finish();
    }

    private static void face() {
        MedalBoard x = Due.withArmy(FOUR + "likes a c 9;");
        Due.answered("d flees", x, x.face(3, 1), 9);
        Due.is("d fled once", x.man(3, 4), 1);
        Due.is("nobody stood", x.told(8), 0);
        Due.answered("as brave: stands", x, x.face(0, 10), 1);
        Due.is("a stood", x.man(0, 3), 1);
        Due.is("b has it", x.man(1, 2), 2);
        Due.is("b is braver", x.man(1, 6), 7);
        Due.answered("a stands 8: b, c, d run", x, x.face(0, 8), 1);
        Due.answered("a stands 8: c, d run", x, x.face(0, 8), 2);
        Due.answered("b stands 9: c, d run", x, x.face(1, 9), 2);
        Due.answered("b flees 10", x, x.face(1, 10), 9);
        for (int i = 0; i < 5; i++) {
            Due.answered("b stands 9: d runs", x, x.face(1, 9), 3);
        }
        Due.answered("nobody runs: melted", x, x.face(1, 9), 8);
        Due.is("melted", x.told(6), 1);
        Due.is("medals", x.told(5), 1 + 9);
        Due.is("lost", x.told(7), 0);
        Due.refused("face(4, 1)", x, x.face(4, 1), 1);
        Due.refused("face(-1, 1)", x, x.face(-1, 1), 1);
        Due.refused("face(0, 0)", x, x.face(0, 0), 1);
        Due.refused("face(0, 100)", x, x.face(0, 100), 1);
        x.fall(0);
        Due.refused("he fell", x, x.face(0, 1), 7);
        Due.refused("he fell, no size", x, x.face(0, 100), 1);
        Due.is("nothing came of it", x.man(0, 3), 3);
    }

    private static void faceAboveAll() {
        MedalBoard x = Due.withArmy("pride 9;man a courage 0 medals 11;man b courage 0 medals 10;");
        Due.answered("99 stands 99", x, x.face(0, 99), 1);
        Due.answered("99 of more stands 99", x, x.face(1, 99), 8);
        Due.army(x, "pride 0;man a courage 9;man b courage 0 medals 99;");
        Due.answered("above 99 it is lost", x, x.face(0, 1), 1);
        Due.is("99", x.man(1, 2), 99);
        Due.is("lost", x.told(7), 1);
        Due.is("not melted", x.told(6), 0);
    }

    private static void voters() {
        MedalBoard x = Due.withArmy("man a courage 9 weight 0;man b courage 1 weight 9;man c courage 1 weight 1;man d courage 1 weight 1;"
            + "likes a b 9;likes c d 9;likes d b 3;likes d c 4;likes b d 7;");
        Due.answered("b's weight is at d", x, x.face(0, 9), 3);
        x.weigh(1, 0);
        Due.answered("c for d, d for c: the first", x, x.face(0, 9), 2);
        x.fall(2);
        x.weigh(0, 1);
        Due.answered("a and d for b", x, x.face(0, 9), 1);
        x.weigh(0, 0);
        x.weigh(3, 0);
        Due.answered("no votes at all: the first", x, x.face(0, 9), 1);
        x.weigh(1, 1);
        Due.answered("b for d", x, x.face(0, 9), 3);
        x.fall(3);
        Due.answered("b alone, without a vote but a's", x, x.face(0, 9), 1);
        x.fall(1);
        Due.answered("those who fell are none", x, x.face(0, 9), 8);
    }

    private static void give() {
        MedalBoard x = Due.withArmy("man a courage 1 medals 2;man b courage 1 medals 98;man c courage 1;");
        Due.answered("give(0, 1)", x, x.give(0, 1), 99);
        Due.is("a has one less", x.man(0, 2), 1);
        Due.refused("99 there", x, x.give(0, 1), 7);
        Due.refused("himself", x, x.give(0, 0), 7);
        Due.refused("none", x, x.give(2, 0), 7);
        Due.answered("give(0, 2)", x, x.give(0, 2), 1);
        Due.refused("none left", x, x.give(0, 2), 7);
        x.fall(2);
        Due.refused("of one who fell", x, x.give(2, 0), 7);
        Due.refused("to one who fell", x, x.give(1, 2), 7);
        Due.refused("give(3, 0)", x, x.give(3, 0), 1);
        Due.refused("give(0, 3)", x, x.give(0, 3), 1);
        Due.refused("give(-1, -1)", x, x.give(-1, -1), 1);
        Due.is("nothing is lost", x.told(5), 100);
        Due.is("told(7)", x.told(7), 0);
    }

    private static void lose() {
        MedalBoard x = Due.withArmy("man a courage 1 medals 2;");
        Due.answered("lose(0)", x, x.lose(0), 1);
        x.fall(0);
        Due.answered("one who fell", x, x.lose(0), 0);
        Due.refused("none", x, x.lose(0), 7);
        Due.refused("lose(1)", x, x.lose(1), 1);
        Due.is("lost", x.told(7), 2);
    }

    private static void fall() {
        MedalBoard x = Due.withArmy(FOUR);
        Due.answered("fall(1)", x, x.fall(1), 3);
        Due.is("living", x.told(3), 13);
        Due.is("he keeps them", x.man(1, 2), 1);
        Due.is("decorated", x.told(4), 2);
        Due.refused("already", x, x.fall(1), 7);
        Due.refused("fall(4)", x, x.fall(4), 1);
        Due.answered("fall(0)", x, x.fall(0), 2);
        Due.answered("fall(2)", x, x.fall(2), 1);
        Due.answered("fall(3)", x, x.fall(3), 0);
        Due.is("living", x.told(3), 0);
    }

    private static void enlist() {
        MedalBoard x = new MedalBoard();
        Due.refused("enlist(-1, 0)", x, x.enlist(-1, 0), 1);
        Due.refused("enlist(21, 0)", x, x.enlist(21, 0), 1);
        Due.refused("enlist(0, -1)", x, x.enlist(0, -1), 1);
        Due.refused("enlist(0, 10)", x, x.enlist(0, 10), 1);
        for (int i = 0; i < 8; i++) {
            Due.answered("enlist " + i, x, x.enlist(20 - i, i + 2), i);
        }
        Due.refused("a ninth", x, x.enlist(0, 0), 4);
        Due.refused("a ninth that can't be", x, x.enlist(0, 10), 1);
        for (int i = 0; i < 8; i++) {
            Due.is("courage", x.man(i, 0), 20 - i);
            Due.is("weight", x.man(i, 1), i + 2);
            Due.is("medals", x.man(i, 2), 0);
            Due.is("lives", x.man(i, 5), 1);
            Due.is("likes", x.likes(i, (i + 1) % 8), 5);
            Due.is("is liked", x.likes((i + 3) % 8, i), 5);
        }
        MedalBoard y = Due.withArmy("man a courage 1 medals 3;man b courage 2 medals 4;likes a b 9;");
        y.mark();
        y.enlist(1, 1);
        y.charm(0, 2, 8);
        y.face(2, 1);
        y.undo();
        Due.is("anew", y.enlist(2, 2), 2);
        Due.is("likes anew", y.likes(0, 2), 5);
        Due.is("stood anew", y.man(2, 3), 0);
        Due.is("the others as ever", y.likes(0, 1), 9);
    }

    private static void changes() {
        MedalBoard x = Due.withArmy(FOUR);
        x.fall(1);
        Due.answered("train(1, 20)", x, x.train(1, 20));
        Due.is("courage", x.man(1, 0), 20);
        Due.answered("train(0, 0)", x, x.train(0, 0));
        Due.is("brave", x.man(0, 6), 0);
        Due.refused("train(4, 0)", x, x.train(4, 0), 1);
        Due.refused("train(0, 21)", x, x.train(0, 21), 1);
        Due.refused("train(0, -1)", x, x.train(0, -1), 1);
        Due.answered("weigh(1, 9)", x, x.weigh(1, 9));
        Due.is("weight", x.man(1, 1), 9);
        Due.answered("weigh(0, 0)", x, x.weigh(0, 0));
        Due.is("weight", x.man(0, 1), 0);
        Due.refused("weigh(4, 0)", x, x.weigh(4, 0), 1);
        Due.refused("weigh(0, 10)", x, x.weigh(0, 10), 1);
        Due.refused("weigh(0, -1)", x, x.weigh(0, -1), 1);
        Due.answered("charm(0, 1, 9)", x, x.charm(0, 1, 9));
        Due.is("likes", x.likes(0, 1), 9);
        Due.is("one way alone", x.likes(1, 0), 5);
        Due.answered("charm(1, 0, 0)", x, x.charm(1, 0, 0));
        Due.is("likes", x.likes(1, 0), 0);
        Due.refused("charm(0, 0, 1)", x, x.charm(0, 0, 1), 7);
        Due.refused("charm(0, 0, 10)", x, x.charm(0, 0, 10), 1);
        Due.refused("charm(0, 1, -1)", x, x.charm(0, 1, -1), 1);
        Due.refused("charm(4, 0, 1)", x, x.charm(4, 0, 1), 1);
        Due.refused("charm(0, 4, 1)", x, x.charm(0, 4, 1), 1);
    }

    private static void rule() {
        MedalBoard x = Due.withArmy(FOUR);
        Due.answered("rule(1, 9)", x, x.rule(1, 9));
        Due.is("pride", x.told(1), 9);
        Due.is("brave", x.man(1, 6), 12);
        Due.answered("rule(1, 0)", x, x.rule(1, 0));
        Due.is("pride", x.told(1), 0);
        Due.answered("rule(2, 1)", x, x.rule(2, 1));
        Due.is("quota", x.told(2), 1);
        Due.answered("rule(2, 99)", x, x.rule(2, 99));
        Due.is("quota", x.told(2), 99);
        Due.refused("rule(0, 1)", x, x.rule(0, 1), 1);
        Due.refused("rule(3, 1)", x, x.rule(3, 1), 1);
        Due.refused("rule(1, -1)", x, x.rule(1, -1), 1);
        Due.refused("rule(1, 10)", x, x.rule(1, 10), 1);
        Due.refused("rule(2, 0)", x, x.rule(2, 0), 1);
        Due.refused("rule(2, 100)", x, x.rule(2, 100), 1);
        Due.is("as they were", x.told(1) + x.told(2), 99);
    }
}
