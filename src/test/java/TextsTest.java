/** Promises 9 to 15, and the FAULTS of both texts. */
public final class TextsTest {
    private static final String TWO = "man m courage 1;man n courage 2;";

    public static void main(String[] args) {
        tape();
        armies();
        armyStands();
        nothingStaysOfTrials();
        faultsOfAnArmy();
        likesInAText();
        wars();
        faultsOfAWar();
        longTexts();
        told();
        man();
        likes();
        Due.finish();
    }

    private static void tape() {
        MedalBoard x = new MedalBoard();
        for (int i = 1; i <= 45; i++) {
            Due.is("feed " + i, x.feed(0x20202020, 0x20202020, 0x20202020, 0x20202020, 0x20202020), 20 * i);
        }
        Due.is("feed above 900", x.feed(0, 0, 0, 0, 0), -1);
        Due.is("feed above 900, again", x.feed(0, 0, 0, 0, 0), -1);
        Due.is("feed has no status", x.status(), 0);
        Due.refused("army(901)", x, x.army(901), 1);
        Due.refused("army(-1)", x, x.army(-1), 1);
        Due.is("fault stays NONE", x.fault(0), -1);
        Due.refused("war(301)", x, x.war(301), 1);
        Due.answered("army(900)", x, x.army(900), 0);
        Due.is("the tape is empty", x.feed(0, 0, 0, 0, 0), 20);
        Due.refused("army(21)", x, x.army(21), 1);
        Due.is("the tape stays with 1", x.feed(0, 0, 0, 0, 0), 40);
        Due.refused("army(40) of 0s", x, x.army(40), 9);
        Due.fault("0s", x, 1, 0);
        Due.is("the tape is empty with 9", x.feed(0, 0, 0, 0, 0), 20);
        Due.answered("war(0)", x, x.war(0), 0);
        Due.is("the tape is empty behind war()", x.feed(0, 0, 0, 0, 0), 20);
        Due.refused("war(-1)", x, x.war(-1), 1);
        Due.refused("war(21)", x, x.war(21), 1);
        // the highest byte of each int first
        x.army(0);
        x.feed(0x6d616e20, 0x61206366, 0, 0, 0);
        Due.refused("man a cf", x, x.army(8), 9);
        Due.fault("man a cf", x, 2, 6);
    }

    private static void armies() {
        MedalBoard x = new MedalBoard();
        x.enlist(1, 1);
        Due.answered("empty army", x, x.army(0), 0);
        Due.fault("empty army", x, 0, -1);
        Due.is("nobody lives", x.told(3), 0);
        Due.answered("blanks", x, Due.army(x, " \n \n"), 0);
        Due.answered("no blanks but where they must be", x, Due.army(x, "pride0;quota99;man a courage20weight9medals99;"), 1);
        Due.is("pride", x.told(1), 0);
        Due.is("quota", x.told(2), 99);
        Due.is("courage", x.man(0, 0), 20);
        Due.is("weight", x.man(0, 1), 9);
        Due.is("medals", x.man(0, 2), 99);
        Due.answered("blanks all over", x, Due.army(x, "\n pride 9 \n;\nman  abcdefgh\ncourage 0007 medals 2;"), 1);
        Due.is("pride", x.told(1), 9);
        Due.is("quota without", x.told(2), 50);
        Due.is("courage", x.man(0, 0), 7);
        Due.is("weight without", x.man(0, 1), 1);
        Due.is("medals", x.man(0, 2), 2);
        Due.answered("parts in any order", x, Due.army(x, TWO + "quota 1;likes n m 0;pride 3;man o courage 3;likes o n 9;"), 3);
        Due.is("pride", x.told(1), 3);
        Due.is("quota", x.told(2), 1);
        Due.is("likes(1, 0)", x.likes(1, 0), 0);
        Due.is("likes(2, 1)", x.likes(2, 1), 9);
        Due.is("likes(0, 2)", x.likes(0, 2), 5);
    }

    private static void nothingStaysOfTrials() {
        MedalBoard x = Due.withArmy("pride 0;man m courage 1 medals 99;man n courage 0 medals 99;man o courage 2 medals 9;");
        Due.war(x, "face m 2;face n 2;face o 1;face o 3;fall m;fall n;face o 1;lose n;lose o;");
        x.mean(0, 0, 3);
        Due.answered("a new one behind mean()", x, Due.army(x, TWO), 2);
        for (int what = 4; what < 10; what++) {
            Due.is("behind mean(): told(" + what + ")", x.told(what), 0);
        }
    }

    private static void armyStands() {
        MedalBoard x = Due.withArmy(TWO);
        Due.war(x, "face m 1;");
        x.enlist(4, 1);
        x.face(2, 4);
        x.lose(0);
        x.fall(2);
        Due.refused("a fault", x, Due.army(x, "pride 3;man"), 9);
        Due.is("the old one stays", x.told(0), 3);
        Due.is("its pride stays", x.told(1), 1);
        Due.answered("the WAR stays", x, x.live(0), 1);
        Due.refused("1", x, x.army(500), 1);
        Due.is("fault stays with 1", x.fault(0), 2);
        Due.answered("a new one", x, Due.army(x, TWO), 2);
        for (int what = 4; what < 10; what++) {
            Due.is("a new one: told(" + what + ")", x.told(what), 0);
        }
        Due.is("all live", x.told(3), 3);
        Due.refused("no WAR", x, x.live(0), 6);
    }

    private static void bad(String text, int kind, int place) {
        MedalBoard x = new MedalBoard();
        Due.refused(text, x, Due.army(x, text), 9);
        Due.fault(text, x, kind, place);
        Due.is(text + ": fault(2)", x.fault(2), -1);
        Due.is(text + ": fault(-1)", x.fault(-1), -1);
        Due.is(text + ": nobody came", x.told(0), 0);
    }

    private static void faultsOfAnArmy() {
        bad("?", 1, 0);
        bad("pride\t2;", 1, 5);
        bad("pride 2;\r", 1, 8);
        bad("Pride 2;", 1, 0);
        bad("pride 2;" + (char) 200, 1, 8);
        bad("pride 12345;", 1, 6);
        bad("12345", 1, 0);
        bad("pride 1;99999999999999;", 1, 8);
        bad("quota;", 2, 5);
        bad("pride 1 ", 2, 8);
        bad("pride 1\n\n", 2, 9);
        bad(";", 2, 0);
        bad("m", 2, 0);
        bad("end", 2, 0);
        bad("pridee 1;", 2, 0);
        bad("pride 1;;", 2, 8);
        bad("pride a;", 2, 6);
        bad("pride <", 2, 6);
        bad("pride 1>", 2, 7);
        bad("man", 2, 3);
        bad("man 1", 2, 4);
        bad("man abcdefghi courage 1;", 2, 4);
        bad("man m weight 1;", 2, 6);
        bad("man m courage;", 2, 13);
        bad("man m courage 1 courage 1;", 2, 16);
        bad("man m courage 1 weight 1 weight 1;", 2, 25);
        bad("man m courage 1 medals 1 weight 1;", 2, 25);
        bad("man m courage 1 medals 1 medals 1;", 2, 25);
        bad("man m courage 1 2;", 2, 16);
        bad("man m courage 1", 2, 15);
        for (String word : new String[] {"pride", "quota", "man", "courage", "weight", "medals", "likes", "face", "give",
                "lose", "fall", "any", "when", "brave", "worn", "fled", "loop", "end", "stop"}) {
            bad("man " + word + " courage 1;", 2, 4);
            bad(TWO + "likes " + word + " m 1;", 2, 38);
        }
        bad("man m courage 1;man m courage 2;", 3, 20);
        bad("likes m n 1;", 3, 6);
        bad("man m courage 1;likes m n 1;man n courage 1;", 3, 24);
        bad(TWO + "likes o m 1;", 3, 38);
        bad("pride 10;", 4, 6);
        bad("pride 9999;", 4, 6);
        bad("quota 0;", 4, 6);
        bad("quota 100;", 4, 6);
        bad("man m courage 21;", 4, 14);
        bad("man m courage 1 weight 10;", 4, 23);
        bad("man m courage 1 medals 100;", 4, 23);
        bad(TWO + "likes m n 10;", 4, 42);
        bad("pride 1;pride", 5, 8);
        bad("quota 1;man m courage 1;quota", 5, 24);
        bad(TWO + "likes m m", 5, 40);
        bad(TWO + "likes m abcdefghi", 2, 40);
        bad(TWO + "likes m n", 2, 41);
        bad(TWO + "likes m n 1", 2, 43);
        StringBuilder nine = new StringBuilder();
        for (char c = 'a'; c < 'i'; c++) {
            nine.append("man ").append(c).append(" courage 1;");
        }
        Due.is("eight", Due.army(new MedalBoard(), nine.toString()), 8);
        bad(nine + "man", 6, 128);
        bad(nine + "man a courage 1;", 6, 128);
    }

    private static void likesInAText() {
        MedalBoard x = Due.withArmy(TWO + "likes m n 1;likes m n 8;");
        Due.is("told again: the latest", x.likes(0, 1), 8);
        Due.is("one way alone", x.likes(1, 0), 5);
        Due.army(x, TWO);
        Due.is("nothing of the old one", x.likes(0, 1), 5);
    }

    private static void wars() {
        MedalBoard x = Due.withArmy(TWO);
        Due.answered("empty war", x, x.war(0), 0);
        Due.answered("it is a WAR", x, x.live(0), 0);
        Due.answered("all steps", x, Due.war(x, "face m 99;give m n;give m m;lose n;fall m;any;stop;"
            + "when brave m<0;when worn n > 999;when fled m = 5;any;end;end;end;loop 99;end;loop 1;any;end;"), 14);
        Due.fault("all steps", x, 0, -1);
        Due.answered("three within", x, Due.war(x, "loop 2;loop 3;loop 4;any;end;end;loop 5;end;end;"), 5);
        x.enlist(1, 1);
        Due.answered("a WAR stays with one more", x, x.live(1), 35);
    }

    private static void badWar(String text, int kind, int place) {
        MedalBoard x = Due.withArmy(TWO);
        Due.war(x, "stop;");
        Due.refused(text, x, Due.war(x, text), 9);
        Due.fault(text, x, kind, place);
        Due.is(text + ": the old one stays", x.live(0), 1);
    }

    private static void faultsOfAWar() {
        badWar("face m 1;!", 1, 9);
        badWar("loop 12345;", 1, 5);
        badWar("stop", 2, 4);
        badWar("stop 1;", 2, 5);
        badWar("m", 2, 0);
        badWar("man m courage 1;", 2, 0);
        badWar("pride 1;", 2, 0);
        badWar("brave", 2, 0);
        badWar("end;", 2, 0);
        badWar("loop 1;end;end;", 2, 11);
        badWar("loop 1;end", 2, 10);
        badWar("loop 1;any; ", 2, 12);
        badWar("when brave m < 1;any;", 2, 21);
        badWar("when any", 2, 5);
        badWar("when man", 2, 5);
        badWar("when loop", 2, 5);
        badWar("when brave", 2, 10);
        badWar("when brave m", 2, 12);
        badWar("when brave m 1", 2, 13);
        badWar("when brave m ; 1", 2, 13);
        badWar("when brave m < ;", 2, 15);
        badWar("when brave m < 1 end;", 2, 17);
        badWar("face 1", 2, 5);
        badWar("face abcdefghi 1", 2, 5);
        badWar("face m;", 2, 6);
        badWar("give m 1;", 2, 7);
        badWar("give m;", 2, 6);
        badWar("give m n 1;", 2, 9);
        badWar("lose;", 2, 4);
        badWar("fall stop;", 2, 5);
        badWar("any m;", 2, 4);
        badWar("loop;", 2, 4);
        badWar("face o 1;", 3, 5);
        badWar("give o m;", 3, 5);
        badWar("give m o;", 3, 7);
        badWar("lose o;", 3, 5);
        badWar("fall o;", 3, 5);
        badWar("when worn o", 3, 10);
        badWar("face m 0;", 4, 7);
        badWar("face m 100;", 4, 7);
        badWar("loop 0;", 4, 5);
        badWar("loop 100;", 4, 5);
        badWar("when fled m = 1000;", 4, 14);
        String thirty = "any;".repeat(30);
        badWar(thirty + "any", 6, 120);
        badWar(thirty + "when", 6, 120);
        badWar(thirty + "end", 2, 120);
        badWar(thirty + "m", 2, 120);
        String three = "loop 1;when fled m=0;loop 1;";
        badWar(three + "loop", 7, 28);
        badWar(three + "when", 7, 28);
        badWar(three + "end;loop 1;loop 1;", 7, 39);
        badWar(three + "any;".repeat(27) + "loop", 6, 136);
        MedalBoard x = Due.withArmy(TWO);
        Due.answered("thirty", x, Due.war(x, thirty), 30);
        Due.answered("thirty that hold", x, Due.war(x, "loop1;end;".repeat(30)), 30);
        Due.answered("all of them are done", x, x.live(0), 30);
        Due.answered("thirty that hold another", x, Due.war(x, "loop1;any;end;".repeat(15)), 30);
        Due.answered("all of them are done", x, x.live(0), 30);
        x.enlist(1, 1);
        Due.refused("nobody is named so", x, Due.war(x, "fall o;"), 9);
    }

    private static void longTexts() {
        MedalBoard x = Due.withArmy(TWO);
        Due.answered("war of 300 bytes", x, Due.war(x, "any;" + " ".repeat(296)), 1);
        Due.feed(x, "any;" + " ".repeat(297));
        Due.refused("war(301)", x, x.war(301), 1);
        Due.answered("war(4) of the same tape", x, x.war(4), 1);
        Due.answered("army of 900 bytes", x, Due.army(x, " ".repeat(884) + "man m courage 1;"), 1);
        Due.feed(x, " ".repeat(900));
        Due.is("no more", x.feed(0, 0, 0, 0, 0), -1);
        Due.answered("the end of 900 bytes", x, x.army(0), 0);
        Due.refused("a word of 900 letters", x, Due.army(x, "a".repeat(900)), 9);
        Due.fault("a word of 900 letters", x, 2, 0);
        Due.refused("a number of 900 digits", x, Due.army(x, "1".repeat(900)), 9);
        Due.fault("a number of 900 digits", x, 1, 0);
    }

    private static void told() {
        MedalBoard x = Due.withArmy("pride 0;quota 7;man a courage 9 medals 98;man b courage 1 medals 98;man c courage 2;");
        x.face(0, 9);
        x.face(0, 9);
        x.face(0, 9);
        x.face(0, 1);
        x.face(1, 9);
        x.lose(0);
        x.fall(0);
        int[] want = {3, 0, 7, 6, 3, 196, 1, 3, 4, 1};
        for (int what = 0; what < 10; what++) {
            Due.answered("told(" + what + ")", x, x.told(what), want[what]);
        }
        Due.refused("told(-1)", x, x.told(-1), 1);
        Due.refused("told(10)", x, x.told(10), 1);
    }

    private static void man() {
        MedalBoard x = Due.withArmy("pride 4;man a courage 9 weight 3 medals 20;man b courage 1 weight 0 medals 2;");
        x.face(0, 50);
        x.face(1, 50);
        x.face(1, 5);
        x.face(1, 60);
        x.fall(1);
        int[][] want = {{9, 3, 20, 1, 0, 1, 89}, {1, 0, 3, 1, 2, 0, 13}};
        for (int man = 0; man < 2; man++) {
            for (int what = 0; what < 7; what++) {
                Due.answered("man(" + man + ", " + what + ")", x, x.man(man, what), want[man][what]);
            }
        }
        x.rule(1, 5);
        Due.is("99 at most", x.man(0, 6), 99);
        Due.refused("man(2, 0)", x, x.man(2, 0), 1);
        Due.refused("man(-1, 0)", x, x.man(-1, 0), 1);
        Due.refused("man(0, 7)", x, x.man(0, 7), 1);
        Due.refused("man(0, -1)", x, x.man(0, -1), 1);
    }

    private static void likes() {
        MedalBoard x = Due.withArmy(TWO + "likes n m 3;");
        x.fall(0);
        Due.answered("likes(1, 0)", x, x.likes(1, 0), 3);
        Due.answered("likes(0, 1)", x, x.likes(0, 1), 5);
        Due.refused("likes(0, 0)", x, x.likes(0, 0), 7);
        Due.refused("likes(0, 2)", x, x.likes(0, 2), 1);
        Due.refused("likes(2, 2)", x, x.likes(2, 2), 1);
        Due.refused("likes(-1, 0)", x, x.likes(-1, 0), 1);
    }
}
