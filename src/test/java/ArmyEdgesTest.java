/** "Terms", part 1, sentence by sentence: what an ARMY's text may hold, the least and the greatest and one beyond. */
public final class ArmyEdgesTest {
    private static final String TWO = "man m courage 1;man n courage 2;";
    private static final String[] KEPT = {"pride", "quota", "man", "courage", "weight", "medals", "likes", "face", "give",
        "lose", "fall", "any", "when", "brave", "worn", "fled", "loop", "end", "stop"};

    public static void main(String[] args) {
        trays();
        length();
        tokens();
        tokensAsLongAsTheyGo();
        parts();
        names();
        oneNameOneMan();
        pride();
        quota();
        men();
        likes();
        ahead();
        firstFault();
        noToken();
        wrongPlace();
        wrongNames();
        wrongNumbers();
        toldAlready();
        ninth();
        taken();
        for (String left : Sentence.unquoted("TRAYS 0 to 3", "BRAVE is a MAN")) {
            Due.yes("no test for: " + left, false);
        }
        Due.finish();
    }

    private static void trays() {
        Sentence s = Sentence.of("TRAYS 0 to 3 are MISSING at first, or rows of 0 to 60 numbers of 8 bits (sort 0), 16 (1),"
            + " 32 (2)"
            + " or 64 (3).");
        for (int tray = 0; tray <= 3; tray++) {
            s.refuses(2, "read", tray, 0).refuses(2, "write", tray, 0, 0).refuses(2, "copyMedals", tray);
        }
        for (int tray : new int[] {-1, 4}) {
            s.refuses(1, "read", tray, 0).refuses(1, "write", tray, 0, 0).refuses(1, "copyMedals", tray);
            s.refuses(1, "tray", tray, 0, 0).refuses(1, "tray", tray, 3, 60);
        }
        for (int tray = 0; tray <= 3; tray++) {
            s.gives(1, "tray", tray, tray, 0).refuses(3, "read", tray, 0);
            s.gives(1, "tray", tray, tray, 60).gives(0, "read", tray, 59).refuses(3, "read", tray, 60);
            s.gives(1, "tray", tray, tray, 1).gives(0, "read", tray, 0).refuses(3, "read", tray, 1);
        }
        s.refuses(1, "tray", 0, 0, -1).refuses(1, "tray", 0, 0, 61).refuses(1, "tray", 0, -1, 1).refuses(1, "tray", 0, 4, 1);
        s.gives(0, "read", 0, 0);
        int[] bits = {8, 16, 32, 64};
        for (int sort = 0; sort <= 3; sort++) {
            long greatest = Long.MAX_VALUE >> 64 - bits[sort];
            long least = -greatest - 1;
            s.anew().row(0, sort, greatest, least, greatest + 1, least - 1, -1, 0);
            s.holds(0, greatest, least, least, greatest, -1, 0);
        }
    }

    private static void length() {
        Sentence s = Sentence.of("An ARMY is a TEXT of at most 900 bytes.");
        s.army(1, " ".repeat(884) + "man m courage 7;").gives(7, "man", 0, 0);
        s.badArmy(2, 900, " ".repeat(885) + "man m courage 7");
        s.tape(" ".repeat(900)).plain(-1, "feed", 0, 0, 0, 0, 0);
        s.refuses(1, "army", 901).gives(0, "army", 900);
        s.army(0, "");
    }

    private static void tokens() {
        Sentence s = Sentence.of("TOKENS, as long as they go, between them blanks (10, 32): WORDS (small letters), NUMBERS (1"
            + " to 4 digits),"
            + " SIGNS ; < > =");
        for (int b = 0; b < 256; b++) {
            String text = String.valueOf((char) b);
            s.anew();
            if (b == 10 || b == 32) {
                s.army(0, text).army(0, text + text)
                    .army(1, "man" + text + "m" + text + "courage" + text + "1" + text + ";" + text);
            } else if (b >= 'a' && b <= 'z' || b >= '0' && b <= '9' || b >= ';' && b <= '>') {
                s.badArmy(2, 0, text).badArmy(2, 1, " " + text);
            } else {
                s.badArmy(1, 0, text).badArmy(1, 5, "pride" + text).badArmy(1, 8, "pride 1;" + text).badArmy(1, 1, "\n" + text);
            }
        }
    }

    private static void tokensAsLongAsTheyGo() {
        Sentence s = Sentence.of("TOKENS, as long as they go,");
        s.army(1, "pride7;quota8;man m courage9weight6medals5;").gives(7, "told", 1).gives(8, "told", 2);
        s.gives(9, "man", 0, 0).gives(6, "man", 0, 1).gives(5, "man", 0, 2);
        s.badArmy(2, 0, "pridequota 1;").badArmy(2, 0, "pri de 1;").badArmy(2, 8, "pride 1 0;").badArmy(4, 6, "pride 10;");
        // the NAME is "mcourage" here
        s.badArmy(2, 13, "man mcourage 1;");
        Sentence digits = Sentence.of("NUMBERS (1 to 4 digits)");
        digits.army(0, "pride 9;").gives(9, "told", 1).army(0, "pride 0000;").gives(0, "told", 1);
        digits.army(0, "pride 0009;").gives(9, "told", 1);
        digits.badArmy(1, 6, "pride 00009;").badArmy(1, 6, "pride 00000").badArmy(4, 6, "pride 9999;");
        digits.badArmy(2, 11, "pride 0009 9;");
    }

    private static void parts() {
        Sentence.of("ARMY: {PART}.").army(0, "").army(0, " ").army(0, "pride 1;").army(2, TWO).badArmy(2, 32, TWO + ";")
            .badArmy(2, 32, TWO + "m").badArmy(2, 32, TWO + "1").badArmy(2, 32, TWO + "courage");
        Sentence s = Sentence.of("PART: pride NUMBER ; or quota NUMBER ; or man NAME courage NUMBER [weight NUMBER] [medals"
            + " NUMBER] ;"
            + " or likes NAME NAME NUMBER ;");
        s.badArmy(2, 0, "1;").badArmy(2, 6, "pride ;").badArmy(2, 8, "pride 1 ").badArmy(2, 8, "pride 1 pride");
        s.badArmy(2, 6, "quota ;").badArmy(2, 8, "quota 1 ").badArmy(2, 8, "quota 1 quota");
        s.badArmy(2, 0, "m courage 1;").badArmy(2, 4, "man courage 1;").badArmy(2, 6, "man m 1;")
            .badArmy(2, 14, "man m courage ;");
        s.badArmy(2, 15, "man m courage 1").badArmy(2, 16, "man m courage 1 man").badArmy(2, 16, "man m courage 1 2;");
        s.badArmy(2, 23, "man m courage 1 weight ;").badArmy(2, 23, "man m courage 1 weight medals 1;");
        s.badArmy(2, 24, "man m courage 1 weight 1").badArmy(2, 23, "man m courage 1 medals ;");
        s.badArmy(2, 24, "man m courage 1 medals 1").badArmy(2, 25, "man m courage 1 medals 1 weight 1;");
        s.badArmy(2, 6, "man m weight 1 courage 1;").badArmy(2, 6, "man m medals 1;");
        s.badArmy(2, 38, TWO + "likes 1;").badArmy(2, 40, TWO + "likes m 1;").badArmy(2, 42, TWO + "likes m n ;");
        s.badArmy(2, 43, TWO + "likes m n 1").badArmy(2, 44, TWO + "likes m n 1 likes").badArmy(2, 32, TWO + "m likes n 1;");
        Sentence any = Sentence.of("({ } any number of times, [ ] perhaps.)");
        any.army(4, "man a courage 1;man b courage 2 weight 3;man c courage 4 medals 5;man d courage 6 weight 7 medals 8;");
        int[][] want = {{1, 1, 0}, {2, 3, 0}, {4, 1, 5}, {6, 7, 8}};
        for (int man = 0; man < 4; man++) {
            for (int what = 0; what < 3; what++) {
                any.gives(want[man][what], "man", man, what);
            }
        }
        any.badArmy(2, 25, "man m courage 1 weight 1 weight 1;").badArmy(2, 25, "man m courage 1 medals 1 medals 1;");
        // as many PARTS as 900 bytes can hold: 72 likes of twelve bytes behind two MEN
        any.army(2, TWO + "likes m n 1;".repeat(71) + "likes m n 7;").gives(7, "likes", 0, 1);
    }

    private static void names() {
        Sentence s = Sentence.of("NAME: a WORD of 1 to 8 letters that is none of pride, quota, man, courage, weight, medals,"
            + " likes, face,"
            + " give, lose, fall, any, when, brave, worn, fled, loop, end, stop.");
        s.army(1, "man a courage 1;").army(1, "man z courage 1;").army(1, "man abcdefgh courage 1;")
            .army(1, "man zzzzzzzz courage 1;");
        s.badArmy(2, 4, "man abcdefghi courage 1;").badArmy(2, 4, "man 1 courage 1;").badArmy(2, 4, "man ; courage 1;");
        s.badArmy(2, 4, "man " + "a".repeat(40) + " courage 1;");
        for (String word : KEPT) {
            s.anew().badArmy(2, 4, "man " + word + " courage 1;");
            s.badArmy(2, 38, TWO + "likes " + word + " n 1;").badArmy(2, 40, TWO + "likes m " + word + " 1;");
            s.army(1, "man " + word + "x courage 1;").war(1, "fall " + word + "x;").badWar(2, 5, "fall " + word + ";");
            String less = word.substring(1);
            s.army(2, "man " + less + " courage 1;man x" + less.substring(1) + " courage 2;");
        }
    }

    private static void oneNameOneMan() {
        Sentence s = Sentence.of("One NAME is of one man alone.");
        s.badArmy(3, 20, "man m courage 1;man m courage 1;");
        s.badArmy(3, 35, "man abcdefgh courage 1;pride 1;man abcdefgh courage 1;");
        s.army(6, "man abcdefgh courage 1;man abcdefgi courage 1;man bbcdefgh courage 1;man abcdefg courage 1;man a courage 1;"
            + "man aa courage 1;");
        s.war(1, "fall aa;").does("live", 0).gives(31, "told", 3).war(1, "fall abcdefgh;").does("live", 0).gives(30, "told", 3);
    }

    private static void pride() {
        Sentence s = Sentence.of("PRIDE (0 to 9; 1 without).");
        s.army(0, "pride 0;").gives(0, "told", 1).army(0, "pride 9;").gives(9, "told", 1).badArmy(4, 6, "pride 10;");
        s.gives(9, "told", 1).army(0, "quota 7;").gives(1, "told", 1);
    }

    private static void quota() {
        Sentence s = Sentence.of("QUOTA (1 to 99; 50 without).");
        s.army(0, "quota 1;").gives(1, "told", 2).army(0, "quota 99;").gives(99, "told", 2);
        s.badArmy(4, 6, "quota 0;").badArmy(4, 6, "quota 100;").gives(99, "told", 2).army(0, "pride 7;").gives(50, "told", 2);
    }

    private static String eight() {
        StringBuilder text = new StringBuilder();
        for (char c = 'a'; c <= 'h'; c++) {
            text.append("man ").append(c).append(" courage ").append(c - 'a').append(";");
        }
        return text.toString();
    }

    private static void men() {
        Sentence s = Sentence.of("MEN, at most 8: COURAGE (0 to 20), WEIGHT (0 to 9; 1 without), MEDALS (0 to 99; 0 without).");
        s.army(0, "").gives(0, "told", 3).army(8, eight()).gives(255, "told", 3).gives(7, "man", 7, 0).refuses(1, "man", 8, 0);
        s.badArmy(6, 128, eight() + "man i courage 1;").gives(8, "told", 0);
        s.army(1, "man m courage 0;").gives(0, "man", 0, 0).gives(1, "man", 0, 1).gives(0, "man", 0, 2);
        s.army(1, "man m courage 20;").gives(20, "man", 0, 0).badArmy(4, 14, "man m courage 21;");
        s.army(1, "man m courage 1 weight 0;").gives(0, "man", 0, 1);
        s.army(1, "man m courage 1 weight 9;").gives(9, "man", 0, 1).badArmy(4, 23, "man m courage 1 weight 10;");
        s.army(1, "man m courage 1 medals 0;").gives(0, "man", 0, 2);
        s.army(1, "man m courage 1 medals 99;").gives(99, "man", 0, 2).badArmy(4, 23, "man m courage 1 medals 100;");
        s.badArmy(4, 32, "man m courage 1 weight 1 medals 100;").gives(99, "man", 0, 2);
    }

    private static void likes() {
        Sentence s = Sentence.of("LIKES: the first MAN likes the second one so much (0 to 9; 5 if nothing is told; himself 0;"
            + " told again:"
            + " the latest).");
        s.army(2, TWO).gives(5, "likes", 0, 1).gives(5, "likes", 1, 0).refuses(7, "likes", 0, 0);
        s.army(2, TWO + "likes m n 0;").gives(0, "likes", 0, 1).gives(5, "likes", 1, 0);
        s.army(2, TWO + "likes n m 9;").gives(9, "likes", 1, 0).gives(5, "likes", 0, 1);
        s.badArmy(4, 42, TWO + "likes m n 10;").gives(9, "likes", 1, 0);
        s.army(2, TWO + "likes m n 9;likes m n 0;likes m n 3;").gives(3, "likes", 0, 1).gives(5, "likes", 1, 0);
        s.army(8, eight() + "likes a h 1;likes h a 2;likes g h 3;").gives(1, "likes", 0, 7).gives(2, "likes", 7, 0);
        s.gives(3, "likes", 6, 7).gives(5, "likes", 7, 6);
    }

    private static void ahead() {
        Sentence s = Sentence.of("All are numbered as they stand; what a PART names must be told ahead.");
        s.army(8, eight());
        for (int man = 0; man < 8; man++) {
            s.gives(man, "man", man, 0);
        }
        s.army(3, "man z courage 9;pride 1;man a courage 8;man m courage 7;");
        s.gives(9, "man", 0, 0).gives(8, "man", 1, 0).gives(7, "man", 2, 0);
        s.badArmy(3, 6, "likes m n 1;" + TWO).badArmy(3, 24, "man m courage 1;likes m n 1;man n courage 2;");
        s.badArmy(3, 22, "man m courage 1;likes n m 1;man n courage 2;").army(2, TWO + "likes n m 1;");
        // the old ARMY's MEN are not told in the new text
        s.badArmy(3, 6, "likes m n 1;");
    }

    private static void firstFault() {
        Sentence s = Sentence.of("FAULTS, the first along the text (of one TOKEN the least kind):");
        s.badArmy(4, 6, "pride 10;?").badArmy(1, 0, "?pride 10;").badArmy(4, 6, "pride 10 10").badArmy(2, 8, "pride 1 <;");
        s.badArmy(1, 8, "pride 1 ?;").badArmy(3, 20, "man m courage 1;man m courage 21;")
            .badArmy(4, 14, "man m courage 21;man m");
        // 1 ahead of 2, ahead of 4; 2 ahead of 5; 6 at "man" stands ahead of 3 at the NAME
        s.badArmy(1, 0, "12345").badArmy(1, 6, "pride 99999;").badArmy(1, 7, "pride 1A");
        s.badArmy(2, 12, "pride 1;man pride").badArmy(2, 6, "pride pride").badArmy(6, 128, eight() + "man a courage 1;");
        s.badArmy(3, 38, TWO + "likes o o 1;").badArmy(3, 40, TWO + "likes m o 10;").badArmy(5, 40, TWO + "likes m m 10;");
        s.badWar(1, 0, "12345").badWar(2, 0, "end?").badWar(1, 0, "?end");
    }

    private static void noToken() {
        Sentence s = Sentence.of("1 no TOKEN begins so (a NUMBER of 5 digits and more: at its first).");
        s.badArmy(1, 6, "pride 12345;").badArmy(1, 6, "pride 1234567890123;").badArmy(4, 6, "pride 1234;");
        s.badArmy(1, 0, "A").badArmy(1, 3, "man\tm").badArmy(1, 1, " _").badArmy(1, 7, "pride 1:").badArmy(1, 7, "pride 1?");
        s.badArmy(1, 7, "pride 1" + (char) 255).badArmy(1, 7, "pride 1" + (char) 128).badArmy(1, 7, "pride 1" + (char) 0);
        s.badArmy(1, 0, "9".repeat(900));
    }

    private static void wrongPlace() {
        Sentence s = Sentence.of("2 it can't stand there (the end: the text's length; a WORD of 9 letters and more where a"
            + " NAME must stand).");
        s.badArmy(2, 5, "pride").badArmy(2, 6, "pride ").badArmy(2, 9, "pride 1\n ").badArmy(2, 3, "man")
            .badArmy(2, 900, "man" + " ".repeat(897));
        s.badArmy(2, 4, "man abcdefghi").badArmy(2, 5, "man  abcdefghij courage 1;").badArmy(2, 12, "man abcdefgh");
        s.badArmy(2, 38, TWO + "likes abcdefghi").badArmy(2, 40, TWO + "likes m abcdefghi").badArmy(2, 0, "abcdefghi");
        s.badArmy(2, 0, ";").badArmy(2, 6, "pride =1;").badArmy(2, 7, "pride 1<").badArmy(2, 7, "pride 1>;")
            .badArmy(2, 0, "face m 1;");
    }

    private static void wrongNames() {
        Sentence s = Sentence.of("3 a new NAME that is taken; a NAME that is no MAN told ahead.");
        s.badArmy(3, 36, TWO + "man m").badArmy(3, 36, TWO + "man n;").badArmy(2, 37, TWO + "man o");
        s.badArmy(3, 38, TWO + "likes o").badArmy(3, 40, TWO + "likes n o").badArmy(3, 6, "likes m");
        s.army(1, "man m courage 1;").gives(1, "enlist", 1, 1).badArmy(3, 6, "likes m");
    }

    private static void wrongNumbers() {
        Sentence s = Sentence.of("4 a NUMBER that can't be.");
        s.badArmy(4, 6, "pride 10").badArmy(4, 6, "quota 0").badArmy(4, 6, "quota 100").badArmy(4, 14, "man m courage 21");
        s.badArmy(4, 23, "man m courage 1 weight 10").badArmy(4, 23, "man m courage 1 medals 100")
            .badArmy(4, 42, TWO + "likes m n 10");
        s.badArmy(4, 6, "pride 9999").badArmy(4, 6, "quota 0000").badArmy(4, 7, "pride  0010;");
    }

    private static void toldAlready() {
        Sentence s = Sentence.of("5 pride, quota told already (at that WORD); a MAN likes himself (at the second NAME).");
        s.badArmy(5, 8, "pride 1;pride").badArmy(5, 8, "pride 1;pride 1;").badArmy(5, 16, "pride 1;quota 1;quota 1;");
        s.badArmy(5, 24, "pride 1;man m courage 1;pride 2;").badArmy(5, 9, "quota 50;quota 50;").army(0, "quota 1;pride 1;");
        s.badArmy(5, 40, TWO + "likes m m 1;").badArmy(5, 40, TWO + "likes n n").badArmy(2, 41, TWO + "likes n m;");
        // a text that was refused tells nothing to the next one
        s.badArmy(4, 6, "pride 10;").army(0, "pride 2;quota 2;").army(0, "pride 3;quota 3;").gives(3, "told", 1);
    }

    private static void ninth() {
        Sentence s = Sentence.of("6 a ninth man (at that WORD).");
        s.army(8, eight()).badArmy(6, 128, eight() + "man").badArmy(6, 129, eight() + " man i courage 1;");
        s.badArmy(2, 128, eight() + "men").army(8, eight() + "pride 2;likes a b 1;").army(8, "pride 2;" + eight());
    }

    private static void taken() {
        Sentence s = Sentence.of("An ARMY that is taken is there in place of that ahead; all MEN live, nobody has stood or"
            + " fled; there is no WAR.");
        s.men("pride 0;quota 9;man a courage 9 medals 99;man b courage 0 medals 99;man c courage 3;likes a b 9;").war(1, "any;");
        s.gives(1, "face", 0, 9).gives(9, "face", 1, 9).gives(2, "fall", 1).gives(8, "face", 0, 1).gives(98, "lose", 0);
        long[] old = {3, 0, 9, 5, 3, 197, 1, 2, 2, 1};
        s.badArmy(4, 6, "pride 10;").badArmy(2, 16, "man z courage 4 ");
        for (int what = 0; what < 10; what++) {
            s.gives(old[what], "told", what);
        }
        s.gives(1, "live", 0).army(1, "man z courage 4;");
        long[] anew = {1, 1, 50, 1, 0, 0, 0, 0, 0, 0};
        for (int what = 0; what < 10; what++) {
            s.gives(anew[what], "told", what);
        }
        s.gives(0, "man", 0, 3).gives(0, "man", 0, 4).gives(1, "man", 0, 5).refuses(1, "man", 1, 0).refuses(6, "live", 0);
        s.army(0, "").gives(0, "told", 0).gives(0, "told", 3).refuses(1, "man", 0, 0);
        // nor is anything there of what mean() tried
        s.men("pride 0;man m courage 1 medals 99;man n courage 0 medals 99;man o courage 2 medals 9;");
        s.war(9, "face m 2;face n 2;face o 1;face o 3;fall m;fall n;face o 1;lose n;lose o;").does("mean", 0, 0, 20).army(2, TWO);
        for (int what = 4; what < 10; what++) {
            s.gives(0, "told", what);
        }
        s.gives(0, "man", 0, 3).gives(0, "man", 0, 4).gives(0, "man", 1, 4);
    }
}
