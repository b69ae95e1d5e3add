/** Promises 25 to 36. */
public final class BoardsTest {
    public static void main(String[] args) {
        brave();
        limit();
        candidates();
        voteOf();
        votes();
        goesTo();
        carries();
        fewest();
        power();
        mightiest();
        veto();
        Due.finish();
    }

    private static MedalBoard four() {
        return Due.withArmy("pride 2;quota 60;man a courage 10 weight 3;man b courage 3 weight 2 medals 1;man c courage 6;"
            + "man d courage 0 weight 4;likes a c 9;likes b d 7;likes c b 8;likes d c 2;");
    }

    private static void brave() {
        MedalBoard x = four();
        Due.answered("brave(1)", x, x.brave(1), 7);
        Due.answered("brave(6)", x, x.brave(6), 5);
        Due.answered("brave(10)", x, x.brave(10), 1);
        Due.answered("brave(11)", x, x.brave(11), 0);
        x.fall(0);
        Due.answered("of the living", x, x.brave(1), 6);
        Due.answered("brave(99)", x, x.brave(99), 0);
        Due.refused("brave(0)", x, x.brave(0), 1);
        Due.refused("brave(100)", x, x.brave(100), 1);
    }

    private static void limit() {
        MedalBoard x = Due.withArmy("pride 9;man a courage 0;man b courage 20 medals 8;man c courage 8 medals 10;man d courage 9 medals 10;"
            + "man e courage 20 medals 99;");
        Due.answered("limit(0)", x, x.limit(0), 1);
        Due.answered("limit(1)", x, x.limit(1), 93);
        Due.answered("limit(2)", x, x.limit(2), 99);
        Due.refused("limit(3)", x, x.limit(3), 6);
        Due.refused("limit(4)", x, x.limit(4), 6);
        x.fall(4);
        x.fall(0);
        Due.refused("he fell, none of these", x, x.limit(4), 7);
        Due.refused("he fell", x, x.limit(0), 7);
        Due.refused("limit(5)", x, x.limit(5), 1);
        Due.refused("limit(-1)", x, x.limit(-1), 1);
    }

    private static void candidates() {
        MedalBoard x = four();
        Due.answered("candidates(0, 99)", x, x.candidates(0, 99), 14);
        Due.answered("candidates(3, 99)", x, x.candidates(3, 99), 7);
        Due.answered("candidates(3, 1)", x, x.candidates(3, 1), 0);
        x.fall(2);
        Due.answered("candidates(0, 7)", x, x.candidates(0, 7), 10);
        Due.refused("he fell", x, x.candidates(2, 7), 7);
        Due.refused("candidates(2, 0)", x, x.candidates(2, 0), 1);
        Due.refused("candidates(0, 100)", x, x.candidates(0, 100), 1);
        Due.refused("candidates(4, 1)", x, x.candidates(4, 1), 1);
    }

    private static void voteOf() {
        MedalBoard x = four();
        Due.answered("the most liked", x, x.voteOf(0, 0, 8), 2);
        Due.answered("the most liked", x, x.voteOf(1, 0, 8), 3);
        Due.answered("not himself", x, x.voteOf(3, 0, 8), 1);
        Due.answered("one who would run", x, x.voteOf(3, 3, 11), 0);
        Due.answered("of those who run", x, x.voteOf(2, 2, 1), 3);
        Due.refused("for nobody", x, x.voteOf(3, 0, 5), 6);
        Due.refused("no candidate", x, x.voteOf(0, 3, 1), 6);
        x.fall(3);
        Due.refused("the voter fell", x, x.voteOf(3, 0, 5), 7);
        Due.refused("the man fell", x, x.voteOf(0, 3, 5), 7);
        Due.refused("voteOf(4, 0, 1)", x, x.voteOf(4, 0, 1), 1);
        Due.refused("voteOf(0, 4, 1)", x, x.voteOf(0, 4, 1), 1);
        Due.refused("voteOf(3, 0, 0)", x, x.voteOf(3, 0, 0), 1);
        Due.answered("who fell is no candidate", x, x.voteOf(1, 0, 8), 2);
    }

    private static void votes() {
        MedalBoard x = four();
        Due.answered("votes(1, 0, 8)", x, x.votes(1, 0, 8), 5);
        Due.answered("votes(2, 0, 8)", x, x.votes(2, 0, 8), 3);
        Due.answered("votes(3, 0, 8)", x, x.votes(3, 0, 8), 2);
        Due.answered("votes(3, 0, 5)", x, x.votes(3, 0, 5), 6);
        x.charm(3, 2, 9);
        Due.answered("votes(1, 0, 8)", x, x.votes(1, 0, 8), 1);
        x.weigh(2, 0);
        Due.answered("votes(1, 0, 8)", x, x.votes(1, 0, 8), 0);
        Due.refused("no candidate", x, x.votes(0, 0, 99), 7);
        Due.refused("who stands", x, x.votes(1, 0, 5), 7);
        x.fall(1);
        Due.refused("a candidate who fell", x, x.votes(1, 0, 8), 7);
        Due.refused("the man fell", x, x.votes(3, 1, 8), 7);
        Due.refused("votes(4, 0, 8)", x, x.votes(4, 0, 8), 1);
        Due.refused("votes(0, -1, 8)", x, x.votes(0, -1, 8), 1);
        Due.refused("votes(1, 1, 100)", x, x.votes(1, 1, 100), 1);
        Due.answered("who fell has no vote", x, x.votes(3, 0, 8), 0);
    }

    private static void goesTo() {
        MedalBoard x = four();
        Due.answered("goesTo(0, 8)", x, x.goesTo(0, 8), 1);
        Due.answered("goesTo(0, 5)", x, x.goesTo(0, 5), 3);
        Due.answered("one who would run", x, x.goesTo(3, 8), 1);
        Due.refused("no candidate", x, x.goesTo(3, 1), 6);
        x.charm(3, 2, 5);
        Due.answered("of several the first", x, x.goesTo(0, 8), 1);
        x.charm(3, 2, 6);
        Due.answered("the most", x, x.goesTo(0, 8), 2);
        x.fall(3);
        Due.refused("he fell, no candidate", x, x.goesTo(3, 1), 7);
        Due.refused("goesTo(3, 0)", x, x.goesTo(3, 0), 1);
        Due.refused("goesTo(4, 1)", x, x.goesTo(4, 1), 1);
        Due.is("nothing is pinned", x.told(5), 1);
    }

    private static void carries() {
        MedalBoard x = four();
        Due.answered("carries(9)", x, x.carries(9), 1);
        Due.answered("as much is too little", x, x.carries(10), 0);
        Due.answered("carries(0)", x, x.carries(0), 0);
        Due.answered("carries(15)", x, x.carries(15), 1);
        Due.refused("carries(16)", x, x.carries(16), 1);
        Due.refused("carries(-1)", x, x.carries(-1), 1);
        Due.refused("carries(MIN)", x, x.carries(Integer.MIN_VALUE), 1);
        x.fall(0);
        Due.refused("one in it fell", x, x.carries(1), 7);
        Due.refused("one in it fell, one is none", x, x.carries(17), 1);
        Due.answered("of the living", x, x.carries(10), 1);
        x.rule(2, 99);
        Due.answered("all", x, x.carries(14), 1);
        x.weigh(1, 0);
        x.weigh(2, 0);
        x.weigh(3, 0);
        Due.answered("no weight", x, x.carries(14), 0);
        MedalBoard empty = new MedalBoard();
        Due.answered("carries(0) of nobody", empty, empty.carries(0), 0);
        Due.refused("carries(1) of nobody", empty, empty.carries(1), 1);
    }

    private static void fewest() {
        MedalBoard x = four();
        Due.answered("fewest", x, x.fewest(), 2);
        Due.answered("fewestSet", x, x.fewestSet(), 9);
        x.rule(2, 30);
        Due.answered("fewest", x, x.fewest(), 1);
        Due.answered("fewestSet", x, x.fewestSet(), 8);
        x.rule(2, 29);
        Due.answered("the least set", x, x.fewestSet(), 1);
        x.fall(0);
        Due.answered("of the living", x, x.fewestSet(), 8);
        x.rule(2, 99);
        Due.answered("all three", x, x.fewest(), 3);
        Due.answered("all three", x, x.fewestSet(), 14);
        x.fall(1);
        x.fall(2);
        x.weigh(3, 0);
        Due.refused("none do", x, x.fewest(), 6);
        Due.refused("none do", x, x.fewestSet(), 6);
        MedalBoard eight = new MedalBoard();
        eight.rule(2, 99);
        for (int i = 0; i < 8; i++) {
            eight.enlist(0, 1);
        }
        Due.answered("all eight", eight, eight.fewest(), 8);
        Due.answered("all eight", eight, eight.fewestSet(), 255);
    }

    private static void power() {
        MedalBoard x = four();
        Due.fraction("power(0)", x, x.power(0), 1, 4);
        Due.fraction("power(1)", x, x.power(1), 1, 12);
        Due.fraction("power(3)", x, x.power(3), 7, 12);
        Due.refused("power(4)", x, x.power(4), 1);
        Due.is("as told", x.bottom(), 12);
        x.fall(1);
        Due.refused("he fell", x, x.power(1), 7);
        Due.fraction("of the living", x, x.power(3), 2, 3);
        x.fall(0);
        x.fall(2);
        Due.fraction("alone", x, x.power(3), 1, 1);
        x.weigh(3, 0);
        Due.fraction("without weight", x, x.power(3), 0, 1);
        MedalBoard eight = new MedalBoard();
        for (int i = 0; i < 8; i++) {
            eight.enlist(0, 1);
        }
        Due.fraction("eight alike", eight, eight.power(7), 1, 8);
        eight.weigh(0, 9);
        Due.fraction("one has it all", eight, eight.power(0), 1, 1);
        eight.weigh(0, 3);
        Due.fraction("three of ten, six wanted", eight, eight.power(0), 3, 8);
    }

    private static void mightiest() {
        MedalBoard x = four();
        Due.answered("mightiest", x, x.mightiest(), 3);
        x.fall(3);
        Due.answered("three, two, one", x, x.mightiest(), 0);
        x.rule(2, 99);
        Due.answered("of several the first", x, x.mightiest(), 0);
        x.fall(0);
        Due.answered("of the living", x, x.mightiest(), 1);
        x.weigh(1, 0);
        x.weigh(2, 0);
        Due.answered("nobody has any", x, x.mightiest(), 1);
        x.fall(1);
        x.fall(2);
        Due.refused("nobody lives", x, x.mightiest(), 6);
    }

    private static void veto() {
        MedalBoard x = four();
        Due.answered("veto(3)", x, x.veto(3), 1);
        Due.answered("veto(0)", x, x.veto(0), 0);
        x.rule(2, 71);
        Due.answered("veto(0)", x, x.veto(0), 1);
        Due.answered("veto(1)", x, x.veto(1), 0);
        x.fall(2);
        Due.refused("he fell", x, x.veto(2), 7);
        Due.refused("veto(4)", x, x.veto(4), 1);
        Due.refused("veto(-1)", x, x.veto(-1), 1);
        Due.answered("two of nine", x, x.veto(1), 0);
        x.rule(2, 78);
        Due.answered("two of nine", x, x.veto(1), 1);
        x.weigh(0, 0);
        x.weigh(1, 0);
        x.weigh(3, 0);
        Due.answered("none is with him", x, x.veto(0), 0);
    }
}
