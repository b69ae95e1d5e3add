/** "Terms", parts 4 and 5, sentence by sentence: a WAR's text, how it is LIVED, MARKS, FRACTIONS and STATUS, at the edges. */
public final class WarEdgesTest {
    private static final String TWO = "man m courage 1;man n courage 2;";

    public static void main(String[] args) {
        length();
        steps();
        tests();
        compares();
        faultsAsAbove();
        wrongNames();
        wrongNumbers();
        thirtyFirst();
        withinThree();
        faceAndAny();
        missed();
        missedGives();
        numbersOfTests();
        loops();
        mostSteps();
        stepsOfWhens();
        lived();
        draws();
        marks();
        marksKeepAll();
        fractions();
        statusOrder();
        nothingElse();
        withoutStatus();
        belowNought();
        Sentence.of("The constants: `NONE = -1`: None.").plain(-1, "fault", 0);
        Due.is("NONE", MedalBoard.NONE, -1);
        for (String left : Sentence.unquoted("A WAR is a TEXT", "An ARMY of no MEN; PRIDE 1")) {
            Due.yes("no test for: " + left, false);
        }
        Due.finish();
    }

    private static Sentence of(String quote) {
        return Sentence.of(quote).men(TWO);
    }

    private static void length() {
        Sentence s = of("A WAR is a TEXT of at most 300 bytes, of such TOKENS (none at first).");
        s.refuses(6, "live", 0).refuses(6, "mean", 0, 0, 1).war(1, " ".repeat(296) + "any;").gives(1, "live", 0);
        s.badWar(2, 300, " ".repeat(297) + "any").gives(1, "live", 0);
        s.tape("any;" + " ".repeat(297)).refuses(1, "war", 301).gives(1, "war", 300);
        s.tape(" ".repeat(900)).refuses(1, "war", 301).refuses(1, "war", 900).gives(0, "war", 300);
        s.war(0, "").gives(0, "live", 0).war(0, " \n").war(2, "any;\n any\n;").badWar(1, 3, "any\t;").badWar(1, 5, "loop 12345;");
        s.anew().refuses(6, "live", 0).war(1, "any;").gives(1, "live", 0);
    }

    private static void steps() {
        Sentence s = of("WAR: {STEP}.").war(0, "").war(1, "stop;").war(2, "stop;any;").badWar(2, 0, ";").badWar(2, 5, "stop;;")
            .badWar(2, 0, "m");
        s.badWar(2, 0, "1").badWar(2, 0, "man m courage 1;").badWar(2, 0, "pride 1;").badWar(2, 0, "likes m n 1;")
            .badWar(2, 0, "brave m < 1;");
        s = of("STEP: face NAME NUMBER ; or give NAME NAME ; or lose NAME ; or fall NAME ; or any ; or when TEST ; {STEP} end"
            + " ; or loop NUMBER ;"
            + " {STEP} end ; or stop ;");
        s.war(1, "face m 1;").badWar(2, 5, "face 1;").badWar(2, 6, "face m;").badWar(2, 8, "face m 1")
            .badWar(2, 9, "face m 1 1;");
        s.war(1, "give m n;").war(1, "give m m;").badWar(2, 6, "give m;").badWar(2, 8, "give m n").badWar(2, 9, "give m n 1;")
            .badWar(2, 4, "give;");
        s.war(1, "lose m;").badWar(2, 4, "lose;").badWar(2, 6, "lose m").badWar(2, 7, "lose m n;");
        s.war(1, "fall m;").badWar(2, 4, "fall;").badWar(2, 6, "fall m").badWar(2, 7, "fall m n;");
        s.war(1, "any;").badWar(2, 3, "any").badWar(2, 4, "any m;").badWar(2, 4, "any 1;");
        s.war(1, "loop 1;end;").war(2, "loop 1;any;end;").badWar(2, 4, "loop;").badWar(2, 5, "loop m;")
            .badWar(2, 7, "loop 1 any;");
        s.badWar(2, 10, "loop 1;end").badWar(2, 11, "loop 1;end loop").badWar(2, 6, "loop 1");
        s.war(1, "stop;").badWar(2, 4, "stop").badWar(2, 5, "stop 1;").men(TWO);
        s.war(1, "when fled m=0;end;").war(2, "when fled m=0;stop;end;").badWar(2, 4, "when;").badWar(2, 13, "when fled m=0")
            .badWar(2, 14, "when fled m=0 any;");
        s.badWar(2, 17, "when fled m=0;end").war(4, "when fled m=0;loop 2;any;end;stop;end;");
        s.badWar(2, 5, "face abcdefghi 1;").badWar(2, 7, "give m abcdefghi;").badWar(2, 5, "fall any;").badWar(2, 5, "lose <;");
    }

    private static void tests() {
        Sentence s = of("TEST: brave NAME COMPARES NUMBER, or worn NAME COMPARES NUMBER, or fled NAME COMPARES NUMBER.");
        for (String test : new String[] {"brave", "worn", "fled"}) {
            int at = 5 + test.length();
            String head = "when " + test;
            s.men(TWO).war(1, head + " n<7;end;").badWar(2, at, head + ";").badWar(2, at + 1, head + " < 7;")
                .badWar(2, at + 1, head + " 7");
            s.badWar(2, at + 2, head + " n;").badWar(2, at + 3, head + " n 7;").badWar(2, at + 3, head + " n<;")
                .badWar(2, at + 3, head + " n<n;");
            s.badWar(2, at + 4, head + " n<7").badWar(2, at + 3, head + " n<<7;").badWar(2, at + 3, head + " n<=7;")
                .badWar(2, at + 1, head + " " + test + "<7;");
        }
        s.men(TWO);
        for (String other : new String[] {"any", "courage", "weight", "medals", "man", "when", "loop", "m", "bravee", ";", "<", "7"}) {
            s.badWar(2, 5, "when " + other + " n<7;end;");
        }
    }

    private static void compares() {
        Sentence s = of("COMPARES: < or > or =");
        s.badWar(2, 13, "when brave m ; 1;").badWar(1, 12, "when brave m!1;").badWar(2, 13, "when brave m m 1;");
        // n is as BRAVE as 2: one below, as much, one above
        String[] signs = {"<", "<", "<", ">", ">", ">", "=", "=", "="};
        int[] steps = {1, 1, 2, 2, 1, 1, 1, 2, 1};
        for (int i = 0; i < 9; i++) {
            s.men(TWO).war(2, "when brave n" + signs[i] + (1 + i % 3) + ";any;end;").gives(steps[i], "live", 0);
        }
    }

    private static void faultsAsAbove() {
        Sentence s = of("FAULTS: 1, 2 as above (an end without a beginning; the text's end ahead of an end: 2).");
        s.war(1, "stop;").badWar(2, 0, "end;").badWar(2, 4, "any;end;").badWar(2, 11, "loop 1;end;end;").badWar(2, 7, "loop 1;")
            .badWar(2, 8, "loop 1; ");
        s.badWar(2, 14, "loop 1;loop 1;").badWar(2, 18, "loop 1;loop 1;end;").badWar(2, 14, "when fled m=0;")
            .badWar(2, 18, "when fled m=0;any;");
        // what was open in a text that was refused is not open in the next one
        s.badWar(2, 0, "end;").badWar(2, 21, "loop 1;loop 1;loop 1;").war(3, "loop 1;loop 1;loop 1;end;end;end;")
            .badWar(2, 0, "end;");
        s.badWar(1, 0, "?").badWar(1, 5, "loop 12345;").badWar(1, 7, "face m 99999;").badWar(1, 4, "any;Any;")
            .badWar(1, 4, "any;" + (char) 228);
        s.badWar(2, 5, "lose abcdefghi;").badWar(2, 300, "any" + " ".repeat(297)).gives(3, "live", 0);
    }

    private static void wrongNames() {
        Sentence s = of("3 a NAME that is no MAN.");
        s.badWar(3, 5, "face o 1;").badWar(3, 5, "give o m;").badWar(3, 7, "give m o;").badWar(3, 5, "lose o;")
            .badWar(3, 5, "fall o;");
        s.badWar(3, 11, "when brave o<1;").badWar(3, 10, "when worn o<1;").badWar(3, 10, "when fled o<1;")
            .badWar(3, 5, "face mm 0;");
        s.war(1, "fall m;").gives(2, "enlist", 1, 1).badWar(3, 5, "fall o;").war(1, "fall n;").army(1, "man o courage 1;")
            .badWar(3, 5, "fall m;");
        s.war(1, "fall o;").anew().badWar(3, 5, "fall m;");
    }

    private static void wrongNumbers() {
        Sentence s = of("4 a NUMBER that can't be.");
        s.war(1, "face m 1;").war(1, "face m 99;").badWar(4, 7, "face m 0;").badWar(4, 7, "face m 100;")
            .badWar(4, 7, "face m 9999");
        s.war(1, "loop 1;end;").war(1, "loop 99;end;").badWar(4, 5, "loop 0;").badWar(4, 5, "loop 100;")
            .badWar(4, 5, "loop 0000;").war(1, "loop 0099;end;");
        for (String test : new String[] {"brave", "worn", "fled"}) {
            String head = "when " + test + " m=";
            s.war(1, head + "0;end;").war(1, head + "999;end;").badWar(4, head.length(), head + "1000;")
                .badWar(4, head.length(), head + "9999;");
        }
    }

    private static void thirtyFirst() {
        Sentence s = of("6 a 31st STEP (at its WORD; end is none).");
        String thirty = "any;".repeat(30);
        s.war(30, thirty).gives(30, "live", 0).badWar(6, 120, thirty + "any").badWar(6, 121, thirty + " stop;")
            .badWar(6, 120, thirty + "face");
        s.badWar(6, 120, thirty + "when").badWar(6, 120, thirty + "loop 1;").badWar(2, 120, thirty + "end;")
            .badWar(2, 120, thirty + "m");
        s.men(TWO).war(30, "loop 1;" + "any;".repeat(29) + "end;").badWar(6, 127, "loop 1;" + "any;".repeat(29) + "end;any;");
        // the fullest of all: 300 bytes, thirty STEPS that hold, all but one within the first
        s.war(30, "loop2;" + "loop1;end;".repeat(29) + "end;").gives(59, "live", 0);
        s.war(30, "loop1;end;".repeat(30)).gives(30, "live", 0)
            .badWar(6, 290, "loop1;" + "any;".repeat(29) + " ".repeat(168) + "any;");
    }

    private static void withinThree() {
        Sentence s = of("7 a when, loop within three others (at its WORD).");
        s.war(3, "loop 1;loop 1;loop 1;end;end;end;").war(4, "loop 1;when fled m=0;loop 1;any;end;end;end;");
        s.badWar(7, 21, "loop 1;loop 1;loop 1;loop").badWar(7, 21, "loop 1;loop 1;loop 1;when")
            .badWar(7, 22, "loop 1;loop 1;loop 1; loop 1;end;end;end;end;");
        s.badWar(7, 28, "when fled m=0;loop 1;loop 1;when fled m=0;").badWar(7, 25, "loop 1;loop 1;loop 1;any;loop 1;");
        s.war(6, "loop 1;loop 1;loop 1;end;loop 1;end;end;loop 1;end;end;loop 1;end;");
        // of one TOKEN the least kind: the 31st that is within three others, too
        s.badWar(6, 129, "loop 1;loop 1;loop 1;" + "any;".repeat(27) + "loop 1;")
            .badWar(7, 125, "loop 1;loop 1;loop 1;" + "any;".repeat(26) + "loop 1;");
    }

    /** A seed, the MAN of eight and the size that it draws: the least and the greatest of each among them. */
    private static final int[][] DRAWN = {{0, 7, 15}, {17, 5, 8}, {18, 2, 8}, {725, 0, 1}, {237, 7, 20}, {9998, 7, 3}, {9999, 4, 2}};

    private static void faceAndAny() {
        Sentence s = of("face: a size (1 to 99); any: a MAN by a draw by how many there are faces a DANGER, its size 1 and a"
            + " draw by 20 together.");
        s.men("pride 9;man a courage 9 medals 10;man b courage 0;").war(3, "face b 1;face a 99;face b 99;").gives(3, "live", 0);
        s.gives(1, "man", 0, 3).gives(1, "man", 1, 2).gives(2, "man", 1, 4);
        for (int[] d : DRAWN) {
            for (int less = 0; less <= 1; less++) {
                s.anew();
                for (int i = 0; i < 8; i++) {
                    s.gives(i, "enlist", d[2] - less, 1);
                }
                s.war(1, "any;").gives(1, "live", d[0]).gives(1, "man", d[1], 3 + less).gives(1 - less, "told", 8)
                    .gives(less, "told", 9);
            }
        }
    }

    private static void missed() {
        Sentence s = Sentence.of("What can't be is MISSED: a face (by any, too) of one who fell, a give of oneself to"
            + " oneself, of one without MEDALS, of one"
            + " who fell, to one, or to one with 99, a lose of one without MEDALS, a fall of one who fell, any without MEN"
            + " (no draws).");
        String men = "man a courage 5 medals 1;man b courage 5 medals 99;man c courage 5;";
        String[] misses = {"fall a;face a 1;", "fall a;face a 99;", "give a a;", "give c a;", "fall a;give a c;", "fall c;give a c;", "give a b;",
            "lose c;", "fall c;fall c;", "lose a;lose a;"};
        for (String war : misses) {
            int steps = war.length() - war.replace(";", "").length();
            s.men(men).war(steps, war).gives(steps, "live", 0).gives(1, "lived", 0).gives(0, "lived", 4).gives(0, "told", 8)
                .gives(0, "told", 9);
        }
        String[] fine = {"face a 1;", "give a c;", "give b c;", "lose a;", "fall a;lose a;", "fall c;", "fall b;fall a;", "stop;", "loop 1;end;"};
        for (String war : fine) {
            int steps = war.length() - war.replace(";", "").length() - (war.contains("end") ? 1 : 0);
            s.men(men).war(steps, war).gives(steps, "live", 0).gives(0, "lived", 0);
        }
        s.men(men).war(4, "fall a;fall b;fall c;any;").gives(4, "live", 0).gives(1, "lived", 0).gives(0, "lived", 1)
            .gives(0, "lived", 2);
        s.anew().war(1, "any;").gives(1, "live", 9999).gives(1, "lived", 0).war(2, "loop 99;any;end;").gives(100, "live", 0)
            .gives(99, "lived", 0);
        // told anew each time
        s.war(1, "stop;").gives(1, "live", 0).gives(0, "lived", 0);
    }

    private static void missedGives() {
        Sentence s = Sentence.of("to one, or to one with 99").men("man a courage 0 medals 2;man b courage 0 medals 98;")
            .war(2, "give a b;give a b;");
        s.gives(2, "live", 0).gives(1, "lived", 0).gives(1, "man", 0, 2).gives(99, "man", 1, 2).gives(0, "told", 7);
    }

    private static void numbersOfTests() {
        Sentence s = Sentence.of("brave, worn (MEDALS), fled (how often he FLED): 0 to 999.");
        s.men("man a courage 20 medals 99;man b courage 0;")
            .war(7, "when brave a=99;when worn a=99;when brave b=0;any;end;end;end;when worn b=0;when fled b=0;end;stop;end;");
        s.gives(7, "live", 0).war(2, "when brave a>999;any;end;").gives(1, "live", 0).war(2, "when brave a<999;any;end;")
            .gives(2, "live", 0);
        s.war(2, "when worn b<0;any;end;").gives(1, "live", 0).war(2, "when worn b>0;any;end;").gives(1, "live", 0);
        // one FLED 297 times: more than 99, and a TEST tells it
        s.men("man a courage 0;man b courage 0;").war(4, "loop 99;face b 1;face b 1;face b 1;end;").gives(298, "live", 0)
            .gives(297, "man", 1, 4);
        s.war(2, "when fled b=297;stop;end;").gives(2, "live", 0).war(2, "when fled b>297;stop;end;").gives(1, "live", 0);
        s.war(2, "when fled b<298;stop;end;").gives(2, "live", 0).war(2, "when fled a=0;stop;end;").gives(2, "live", 0);
        s.does("fall", 1).war(2, "when fled b>296;stop;end;").gives(2, "live", 0);
    }

    private static void loops() {
        Sentence s = of("loop n (1 to 99): as often.");
        s.war(2, "loop 1;face m 9;end;").gives(2, "live", 0).gives(1, "lived", 2).war(2, "loop 99;face m 9;end;")
            .gives(100, "live", 0).gives(99, "lived", 2);
        s.war(1, "loop 99;end;").gives(1, "live", 0).badWar(4, 5, "loop 0;end;").badWar(4, 5, "loop 100;end;");
        s.war(3, "loop 2;loop 99;face m 9;end;end;").gives(201, "live", 0).gives(198, "lived", 2);
        s.war(3, "loop 99;loop 1;end;face m 9;end;").gives(199, "live", 0).gives(99, "lived", 2);
        s.war(3, "loop 99;face m 9;stop;end;").gives(3, "live", 0).gives(1, "lived", 2);
    }

    private static void mostSteps() {
        Sentence s = of("At most 300 STEPS (when, loop count as one each time they are come to from ahead; end does not).");
        String most = "loop 99;face m 9;face m 9;face m 9;end;";
        s.war(4, most).gives(298, "live", 0).gives(0, "lived", 4).war(5, most + "any;").gives(299, "live", 0)
            .gives(0, "lived", 4);
        s.war(6, most + "any;any;").gives(300, "live", 0).gives(0, "lived", 4);
        s.war(7, most + "any;any;fall m;").gives(300, "live", 0).gives(1, "lived", 4).gives(1, "man", 0, 5);
        s.war(7, most + "any;stop;fall m;").gives(300, "live", 0).gives(0, "lived", 4);
        s.war(6, most + "any;loop 99;end;").gives(300, "live", 0).gives(0, "lived", 4);
        s.war(7, most + "any;loop 2;any;end;").gives(300, "live", 0).gives(1, "lived", 4);
        s.war(7, most + "any;when fled m<0;any;end;").gives(300, "live", 0).gives(0, "lived", 4);
        s.war(6, most + "loop 1;any;end;").gives(300, "live", 0).gives(0, "lived", 4);
        s.war(6, most + "loop 2;any;end;").gives(300, "live", 0).gives(1, "lived", 4);
        s.war(3, "loop 99;loop 99;loop 99;end;end;end;").gives(300, "live", 0).gives(1, "lived", 4);
    }

    private static void stepsOfWhens() {
        Sentence s = of("when, loop count as one each time they are come to from ahead; end does not");
        s.war(2, "when fled m=9;any;end;").gives(1, "live", 0).war(1, "when fled m=0;end;").gives(1, "live", 0);
        s.war(3, "loop 3;when fled m=9;any;end;end;").gives(4, "live", 0).war(3, "loop 3;loop 2;any;end;end;")
            .gives(10, "live", 0);
        s.war(3, "loop 2;when fled m<99;loop 7;end;end;end;").gives(5, "live", 0);
    }

    private static void lived() {
        Sentence s = of("LIVED by a seed (0 to 9,999): all is as it is then.");
        s.refuses(1, "live", -1).refuses(1, "live", 10000).refuses(6, "live", 0).war(3, "face m 9;face n 2;fall m;");
        s.refuses(1, "live", -1).refuses(1, "live", 10000).refuses(1, "live", Integer.MIN_VALUE)
            .refuses(1, "live", Integer.MAX_VALUE);
        s.gives(0, "told", 9).gives(3, "live", 0).gives(1, "man", 0, 4).gives(1, "man", 0, 2).gives(0, "man", 0, 5)
            .gives(1, "man", 1, 3);
        // m fell: he neither faces nor falls once more, and is no CANDIDATE
        s.gives(3, "live", 9999).gives(2, "lived", 0).gives(1, "lived", 1).gives(0, "lived", 3).gives(1, "told", 6)
            .gives(2, "man", 1, 3);
    }

    private static void draws() {
        Sentence s = Sentence.of("Draws: s, at first the seed, becomes what is left of s times 3,109 and 11,321 by 65,536;"
            + " the draw by n is the rest of s by 8,"
            + " rounded down, by n.");
        // 17 is the greatest seed whose first s needs no wrap-around: 64174; with 18 it is 67283, of which 1747 are left
        int[][] first = {{0, 11321, 15478}, {1, 14430, 47567}, {17, 64174, 36703}, {18, 1747, 3256}, {9999, 34148, 9133}};
        for (int[] f : first) {
            for (int men = 1; men <= 8; men++) {
                int man = f[1] / 8 % men;
                int size = 1 + f[2] / 8 % 20;
                s.anew();
                for (int i = 0; i < men; i++) {
                    s.gives(i, "enlist", i == man ? size : 0, 1);
                }
                s.war(1, "any;").gives(1, "live", f[0]).gives(1, "man", man, 3).does("train", man, size - 1);
                s.gives(1, "live", f[0]).gives(1, "man", man, 4).gives(1, "told", 8).gives(1, "told", 9);
            }
        }
        // each seed begins anew, and two "any" draw four times: seed 0 by eight gives MAN 7, then MAN 0
        s.anew();
        for (int i = 0; i < 8; i++) {
            s.gives(i, "enlist", 0, 1);
        }
        s.war(2, "any;any;").gives(2, "live", 0).gives(1, "man", 7, 4).gives(1, "man", 0, 4).gives(2, "live", 0)
            .gives(2, "man", 7, 4);
        s.gives(2, "man", 0, 4).gives(2, "live", 17).gives(1, "man", 5, 4).gives(1, "man", 6, 4);
    }

    private static void marks() {
        Sentence s = of("MARKS, at most 3: the ARMY with all that became of it, the WAR are kept as they are; all is taken"
            + " back to the latest MARK, which"
            + " is gone then.");
        s.refuses(6, "undo").gives(1, "mark").gives(0, "undo").refuses(6, "undo");
        for (int i = 1; i <= 3; i++) {
            s.gives(1, "weigh", 0, i).gives(i, "mark");
        }
        s.does("weigh", 0, 9).refuses(4, "mark").refuses(4, "mark").gives(9, "man", 0, 1);
        s.gives(2, "undo").gives(3, "man", 0, 1).gives(3, "mark").refuses(4, "mark").gives(2, "undo").gives(1, "undo")
            .gives(2, "man", 0, 1);
        s.gives(0, "undo").gives(1, "man", 0, 1).refuses(6, "undo").gives(1, "man", 0, 1).gives(1, "mark");
        // a new ARMY, a new WAR take no MARK away
        s.army(0, "").war(1, "stop;").gives(0, "undo").gives(2, "told", 0).refuses(6, "live", 0);
    }

    private static void marksKeepAll() {
        Sentence s = Sentence.of("the ARMY with all that became of it, the WAR are kept as they are");
        s.men("pride 0;quota 7;man a courage 9 weight 2 medals 99;man b courage 1 weight 3 medals 99;man c courage 2;likes a"
            + " b 8;")
            .war(1, "face a 2;");
        s.gives(1, "face", 0, 2).gives(9, "face", 1, 2).gives(2, "fall", 2).gives(98, "lose", 0).gives(8, "face", 0, 1)
            .gives(1, "mark");
        long[] told = {3, 0, 7, 3, 3, 197, 1, 2, 2, 1};
        s.does("fall", 1).does("face", 0, 1).does("face", 0, 99).does("lose", 0).does("train", 0, 3).does("weigh", 0, 9)
            .does("charm", 0, 1, 1);
        s.does("rule", 1, 9).does("rule", 2, 99).does("enlist", 4, 4).war(2, "any;any;").gives(2, "live", 3)
            .army(1, "man z courage 3;");
        s.row(0, 0, 5).tells(3, 20, "chance", 0, 1, 1).tape("x").gives(0, "undo");
        for (int what = 0; what < 10; what++) {
            s.gives(told[what], "told", what);
        }
        long[][] men = {{9, 2, 98, 2, 0, 1, 9}, {1, 3, 99, 0, 1, 1, 1}, {2, 1, 0, 0, 0, 0, 2}};
        for (int man = 0; man < 3; man++) {
            for (int what = 0; what < 7; what++) {
                s.gives(men[man][what], "man", man, what);
            }
        }
        s.gives(8, "likes", 0, 1).gives(5, "likes", 1, 0);
        // TRAYS, the tape, the FRACTION and what live() told are of no MARK
        s.gives(5, "read", 0, 0).plain(3, "top").plain(20, "bottom").gives(0, "lived", 4).plain(40, "feed", 0, 0, 0, 0, 0);
        s.gives(1, "live", 0).gives(1, "lived", 1).gives(3, "told", 8);
    }

    private static void fractions() {
        Sentence s = Sentence.of("FRACTIONS are told by top() and bottom() without a common divisor, the bottom above 0; 0 is"
            + " 0 by 1.");
        s.plain(0, "top").plain(1, "bottom").men("man a courage 4;man b courage 5;man c courage 20;man d courage 0;");
        s.tells(1, 5, "chance", 0, 1, 1).tells(1, 4, "chance", 1, 1, 1).tells(1, 1, "chance", 2, 9, 9)
            .tells(0, 1, "chance", 3, 9, 9);
        s.tells(0, 1, "luck", 3, 0).tells(1, 5, "luck", 0, 3).war(1, "face c 20;").tells(1, 1, "mean", 0, 0, 20)
            .tells(0, 1, "mean", 2, 0, 20);
        s.tells(1, 4, "power", 0).does("weigh", 0, 0).tells(0, 1, "power", 0).tells(1, 3, "power", 1);
    }

    private static void statusOrder() {
        Sentence s = Sentence.of("STATUS of a call is the first of these that holds: 1 a number that can't be; no such TRAY,"
            + " MAN; a set with what there is none"
            + " of. 2 the TRAY is MISSING. 3 a place that the TRAY has not, or too few numbers. 4 one too many. 5 a number in"
            + " a TRAY that can't be. 6 there is"
            + " none such (of who lives; of who fell it is 7). 7 it can't be. 8 TRAYS are of unlike sorts. 9 a FAULT. 0 else.");
        s.men("pride 9;man a courage 0;man b courage 20 medals 99;man c courage 20 medals 99;man d courage 0;").does("fall", 2)
            .does("fall", 3);
        s.row(0, 0, 100, 7).row(1, 1, 9);
        s.refuses(1, "carries", 16).refuses(1, "carries", 20).refuses(7, "carries", 4).refuses(1, "carries", -1)
            .gives(0, "carries", 0);
        s.refuses(1, "most", 4, 3, 1).refuses(1, "most", 2, 4, 1).refuses(1, "most", 2, 3, 5).refuses(2, "most", 2, 3, 1)
            .refuses(3, "most", 2, 0, 3);
        s.refuses(5, "most", 2, 0, 1).refuses(5, "most", 0, 0, 2).refuses(7, "most", 2, 1, 1).gives(1, "most", 0, 1, 1);
        s.refuses(6, "limit", 1).refuses(7, "limit", 2).refuses(7, "limit", 3).refuses(1, "limit", 4).gives(1, "limit", 0);
        s.refuses(7, "goesTo", 2, 1).refuses(6, "goesTo", 0, 1).refuses(1, "goesTo", 2, 0).refuses(7, "voteOf", 0, 2, 1)
            .refuses(6, "voteOf", 0, 0, 1);
        s.refuses(7, "voteOf", 3, 0, 1).refuses(1, "voteOf", 3, 0, 0).refuses(7, "moveOf", 0, 2, 1, 1)
            .refuses(6, "moveOf", 0, 1, 1, 1);
        s.refuses(5, "moveOf", 0, 2, 0, 1).refuses(3, "moveOf", 0, 2, 0, 3).refuses(2, "moveOf", 0, 2, 3, 1)
            .refuses(1, "moveOf", 0, 2, 3, 0);
        s.refuses(5, "ask", 0, 0, 1).refuses(3, "ask", 0, 0, 2).refuses(5, "seenAt", 0, 0, 1, 0).refuses(1, "seenAt", 0, 0, 1, 2);
        s.row(2, 0, 1, 1, 1, 0).refuses(6, "ask", 0, 2, 2).refuses(6, "seenAt", 0, 2, 2, 1).gives(0, "seen", 0, 2, 2);
        s.refuses(1, "pour", 0, -1, 3, 0, 1).refuses(2, "pour", 0, 99, 3, 0, 1).refuses(8, "pour", 0, 99, 1, 0, 1)
            .refuses(3, "pour", 0, 99, 0, 0, 1);
        for (int i = 4; i < 8; i++) {
            s.gives(i, "enlist", 0, 0);
        }
        s.refuses(1, "enlist", 21, 0).refuses(1, "enlist", 0, 10).refuses(4, "enlist", 0, 0).refuses(1, "army", 1)
            .badArmy(2, 0, "m");
    }

    private static void nothingElse() {
        Sentence s = Sentence.of("With another STATUS than 0 a call gives NONE, or false, and changes nothing else (but"
            + " army(), war() with 9 the tape, and what"
            + " fault() tells).");
        s.men(TWO).war(1, "stop;").tape("any;").refuses(1, "army", 21).refuses(1, "war", 21).refuses(1, "army", -1)
            .plain(0, "fault", 0).plain(-1, "fault", 1);
        s.refuses(9, "army", 4).plain(2, "fault", 0).plain(0, "fault", 1).plain(20, "feed", 0x616e7921, 0, 0, 0, 0);
        s.refuses(9, "war", 4).plain(1, "fault", 0).plain(3, "fault", 1).plain(20, "feed", 0, 0, 0, 0, 0);
        s.refuses(1, "war", 21).plain(1, "fault", 0).plain(3, "fault", 1).plain(40, "feed", 0, 0, 0, 0, 0).gives(2, "told", 0)
            .gives(1, "live", 0);
    }

    private static void withoutStatus() {
        Sentence s = Sentence.of("status(), top(), bottom(), feed(), fault() have none.").refuses(1, "told", 10);
        for (int i = 0; i < 45; i++) {
            s.plain(20 * i + 20, "feed", 0, 0, 0, 0, 0);
        }
        s.plain(-1, "feed", 0, 0, 0, 0, 0).plain(1, "status").plain(0, "top").plain(1, "bottom").plain(-1, "fault", 0)
            .plain(-1, "fault", 9);
        s.plain(1, "status").gives(0, "told", 0).plain(-1, "feed", 0, 0, 0, 0, 0).plain(-1, "fault", 2).plain(0, "status");
    }

    private static void belowNought() {
        Sentence s = Sentence.of("Where a number may be below 0, STATUS tells NONE from -1.");
        s.men("man a courage 0;man b courage 0 medals 1;").row(0, 3, -1, 0).gives(-1, "read", 0, 0).refuses(3, "read", 0, 2)
            .refuses(3, "read", 0, -1);
        s.gives(-1, "game", 0, 1, 0, 0).refuses(5, "game", 0, 1, 0, 1).gives(1, "game", 1, 0, 0, 0)
            .refuses(1, "game", 0, 1, 0, -1);
    }
}
