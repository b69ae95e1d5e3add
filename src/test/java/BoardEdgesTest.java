/** "Terms", parts 2 and 3, sentence by sentence: DANGERS, BOARDS and what is looked ahead, at the edges. */
public final class BoardEdgesTest {
    public static void main(String[] args) {
        brave();
        wouldStand();
        sizes();
        faces();
        fled();
        candidates();
        eachVotes();
        goesTo();
        melted();
        give();
        lose();
        fall();
        carries();
        carriesExactly();
        power();
        orders();
        faceFirst();
        seen();
        seenTwos();
        ask();
        pairs();
        pairsOfSeveral();
        game();
        gameByTurns();
        move();
        chance();
        for (String left : Sentence.unquoted("BRAVE is a MAN", "A WAR is a TEXT")) {
            Due.yes("no test for: " + left, false);
        }
        Due.finish();
    }

    private static void brave() {
        Sentence s = Sentence.of("BRAVE is a MAN by his COURAGE and PRIDE for each of his MEDALS, together (99 at most).");
        s.men("pride 9;man a courage 0;man b courage 8 medals 10;man c courage 9 medals 10;man d courage 10 medals 10;"
            + "man e courage 20 medals 99;man f courage 0 medals 1;man g courage 20;");
        int[] by9 = {0, 98, 99, 99, 99, 9, 20};
        int[] by0 = {0, 8, 9, 10, 20, 0, 20};
        int[] by1 = {0, 18, 19, 20, 99, 1, 20};
        for (int man = 0; man < 7; man++) {
            s.gives(by9[man], "man", man, 6);
        }
        s.does("rule", 1, 0);
        for (int man = 0; man < 7; man++) {
            s.gives(by0[man], "man", man, 6);
        }
        s.does("rule", 1, 1).does("fall", 4).does("fall", 5);
        for (int man = 0; man < 7; man++) {
            s.gives(by1[man], "man", man, 6);
        }
    }

    /** BRAVE 0, 1, 98 and 99. */
    private static final String LOW_AND_HIGH =
        "pride 9;man a courage 0;man b courage 1;man c courage 8 medals 10;man d courage 9 medals 10;";

    private static void wouldStand() {
        Sentence s = Sentence.of("He WOULD STAND a DANGER of a size (1 to 99), if he is as BRAVE or more; else he WOULD RUN.");
        s.men(LOW_AND_HIGH).gives(14, "brave", 1).gives(12, "brave", 2).gives(12, "brave", 98).gives(8, "brave", 99);
        s.gives(1, "limit", 0).gives(2, "limit", 1).gives(99, "limit", 2).refuses(6, "limit", 3);
        s.gives(9, "face", 0, 1).gives(9, "face", 1, 2).gives(9, "face", 2, 99).gives(9, "face", 0, 99);
        s.gives(0, "face", 1, 1).men(LOW_AND_HIGH).gives(0, "face", 2, 98).men(LOW_AND_HIGH).gives(0, "face", 3, 99);
    }

    private static void sizes() {
        Sentence s = Sentence.of("a DANGER of a size (1 to 99)").men(LOW_AND_HIGH);
        for (int size : new int[] {0, 100, -1, Integer.MIN_VALUE, Integer.MAX_VALUE}) {
            s.refuses(1, "face", 3, size).refuses(1, "brave", size).refuses(1, "candidates", 3, size)
                .refuses(1, "goesTo", 3, size);
            s.refuses(1, "voteOf", 3, 3, size).refuses(1, "votes", 0, 3, size).refuses(1, "couples", size);
            s.refuses(1, "fondness", size).refuses(1, "partner", 1, size);
        }
        s.men(LOW_AND_HIGH).gives(1, "candidates", 3, 1).gives(7, "candidates", 3, 99).gives(0, "goesTo", 3, 1)
            .gives(0, "goesTo", 3, 99);
        s.gives(0, "voteOf", 3, 3, 1).gives(1, "voteOf", 0, 3, 99).gives(3, "votes", 0, 3, 1).gives(3, "votes", 0, 3, 99);
        s.gives(1, "couples", 1).gives(1, "couples", 99).gives(10, "fondness", 1).gives(10, "fondness", 99);
        s.gives(0, "partner", 1, 1).gives(0, "partner", 3, 99);
        for (int size : new int[] {0, 100, -1}) {
            s.men(LOW_AND_HIGH).row(0, 3, size, 1).refuses(5, "most", 3, 0, 1).refuses(5, "facesAt", 3, 0, 1, 0)
                .refuses(5, "seen", 3, 0, 1);
            s.refuses(5, "seenAt", 3, 0, 1, 0).refuses(5, "ask", 3, 0, 1).refuses(5, "game", 3, 0, 0, 1)
                .refuses(5, "moveOf", 3, 0, 0, 1);
        }
        for (int size : new int[] {1, 99}) {
            s.men(LOW_AND_HIGH).row(0, 0, size, 1).gives(1, "most", 0, 0, 1).gives(size == 1 ? 1 : 3, "facesAt", 0, 0, 1, 0);
            s.gives(size == 1 ? 21 : 12, "seen", 3, 0, 1).gives(10, "game", 3, 0, 0, 1).gives(0, "moveOf", 3, 0, 0, 1);
            s.gives(20, "seenAt", 3, 0, 1, 1).gives(size == 1 ? 99 : 1, "ask", 3, 0, 1);
        }
    }

    private static void faces() {
        Sentence s = Sentence.of("FACE: a living MAN faces a DANGER.").men(LOW_AND_HIGH);
        s.gives(0, "face", 3, 1).does("fall", 3).refuses(7, "face", 3, 1).refuses(7, "face", 3, 99).gives(1, "man", 3, 3)
            .gives(0, "man", 3, 4);
        s.refuses(1, "face", 4, 1).refuses(1, "face", -1, 1).gives(1, "told", 8).gives(0, "told", 9);
    }

    private static void fled() {
        Sentence s = Sentence.of("If he WOULD RUN, he FLED.").men(LOW_AND_HIGH);
        for (int i = 1; i <= 12; i++) {
            s.gives(9, "face", 1, 2).gives(i, "man", 1, 4).gives(i, "told", 9);
        }
        s.gives(0, "man", 1, 3).gives(0, "told", 8).gives(20, "told", 5).gives(0, "told", 6).gives(0, "told", 7);
    }

    private static void candidates() {
        Sentence s = Sentence.of("If he WOULD STAND, he STOOD, and the BOARD sits on whom the MEDAL goes to: CANDIDATES are"
            + " all other living MEN"
            + " who WOULD RUN that DANGER.");
        s.men("man a courage 5;").gives(0, "candidates", 0, 5).gives(0, "candidates", 0, 99).gives(8, "face", 0, 5)
            .gives(1, "man", 0, 3);
        s.anew();
        for (int i = 0; i < 8; i++) {
            s.gives(i, "enlist", i == 3 ? 6 : 5, 1);
        }
        // all are as BRAVE as 5, one alone as 6: seven other ones WOULD RUN it, and nobody but he STOOD it
        s.gives(0, "candidates", 3, 5).gives(247, "candidates", 3, 6).gives(247, "candidates", 3, 7)
            .gives(254, "candidates", 0, 7);
        s.gives(246, "candidates", 0, 6).does("fall", 0).does("fall", 7).gives(118, "candidates", 3, 6);
        s.gives(1, "face", 3, 6).gives(1, "man", 3, 3).gives(1, "man", 1, 2).gives(1, "told", 8);
    }

    private static void eachVotes() {
        Sentence s = Sentence.of("Each living MAN votes by his WEIGHT for the CANDIDATE that he likes the most, but himself,"
            + " of several the"
            + " first; no vote, if there is none but himself.");
        s.men("man a courage 9 weight 9;man b courage 9 weight 0;man c courage 1 weight 5;man d courage 1 weight 3;man e"
            + " courage 1 weight 2;");
        // all like each other alike: the first, but c himself, who votes for d
        s.gives(2, "voteOf", 0, 0, 9).gives(2, "voteOf", 1, 0, 9).gives(3, "voteOf", 2, 0, 9).gives(2, "voteOf", 3, 0, 9);
        s.gives(14, "votes", 2, 0, 9).gives(5, "votes", 3, 0, 9).gives(0, "votes", 4, 0, 9);
        s.does("charm", 0, 2, 0).does("charm", 0, 3, 0).does("charm", 0, 4, 0).gives(2, "voteOf", 0, 0, 9);
        s.does("charm", 0, 4, 1).gives(4, "voteOf", 0, 0, 9).does("charm", 0, 3, 1).gives(3, "voteOf", 0, 0, 9);
        s.does("charm", 0, 4, 9).gives(4, "voteOf", 0, 0, 9).does("charm", 0, 1, 9).gives(4, "voteOf", 0, 0, 9);
        s.gives(5, "votes", 2, 0, 9).gives(5, "votes", 3, 0, 9).gives(9, "votes", 4, 0, 9);
        s.does("fall", 0).gives(0, "votes", 4, 1, 9).gives(5, "votes", 2, 1, 9);
        s.does("fall", 2).does("fall", 3).refuses(6, "voteOf", 4, 1, 9).gives(4, "voteOf", 1, 1, 9).gives(0, "votes", 4, 1, 9);
        s.does("weigh", 1, 9).gives(9, "votes", 4, 1, 9).refuses(6, "voteOf", 1, 1, 1).refuses(6, "voteOf", 1, 4, 9);
        s.gives(1, "voteOf", 4, 4, 10);
    }

    private static void goesTo() {
        Sentence s = Sentence.of("It goes to the CANDIDATE with the most votes, of several the first; he has a MEDAL more (99"
            + " at most; what is"
            + " more is lost).");
        s.men("pride 0;man a courage 9 weight 1;man b courage 1 weight 1;man c courage 1 weight 0 medals 97;likes a c 9;");
        // a for c, b for c, c (of no WEIGHT) for b; from 97 to 98, to 99, and no more
        for (int i = 0; i < 2; i++) {
            s.gives(2, "goesTo", 0, 9).gives(2, "face", 0, 9).gives(98 + i, "man", 2, 2).gives(0, "told", 7);
        }
        s.gives(2, "face", 0, 9).gives(99, "man", 2, 2).gives(1, "told", 7).gives(2, "face", 0, 9).gives(2, "told", 7)
            .gives(99, "told", 5);
        s.does("weigh", 2, 2).does("charm", 2, 1, 9).gives(2, "votes", 1, 0, 9).gives(2, "votes", 2, 0, 9)
            .gives(1, "goesTo", 0, 9);
        s.does("weigh", 2, 1).gives(2, "goesTo", 0, 9).does("weigh", 2, 3).gives(1, "face", 0, 9).gives(1, "man", 1, 2);
        s.does("weigh", 0, 0).does("weigh", 1, 0).does("weigh", 2, 0).gives(1, "goesTo", 0, 9).gives(0, "votes", 1, 0, 9);
        s.does("fall", 1).gives(2, "goesTo", 0, 9).gives(0, "votes", 2, 0, 9).does("fall", 0).refuses(6, "goesTo", 2, 9);
    }

    private static void melted() {
        Sentence s = Sentence.of("If there is no CANDIDATE, it is MELTED.");
        s.men("man a courage 5;man b courage 4;").gives(8, "face", 0, 4).gives(1, "told", 6).gives(0, "told", 5)
            .gives(0, "told", 7);
        s.gives(1, "face", 0, 5).gives(1, "told", 6).gives(8, "face", 0, 5).gives(2, "told", 6).does("fall", 1)
            .gives(8, "face", 0, 5);
        s.gives(3, "told", 6).gives(1, "told", 5).gives(4, "told", 8);
    }

    private static void give() {
        Sentence s = Sentence.of("GIVE: a living MAN gives a MEDAL to another living one.");
        s.men("man a courage 0 medals 1;man b courage 0 medals 98;man c courage 0 medals 5;man d courage 0;");
        s.refuses(7, "give", 0, 0).gives(99, "give", 0, 1).gives(0, "man", 0, 2).refuses(7, "give", 0, 1)
            .refuses(7, "give", 0, 2);
        s.refuses(7, "give", 2, 1).gives(1, "give", 1, 0).gives(99, "give", 2, 1).refuses(7, "give", 3, 0)
            .refuses(7, "give", 3, 3);
        s.does("fall", 2).refuses(7, "give", 2, 0).refuses(7, "give", 0, 2).gives(1, "give", 0, 3);
        s.gives(104, "told", 5).gives(0, "told", 7);
    }

    private static void lose() {
        Sentence s = Sentence.of("LOSE: a MEDAL is lost.");
        s.men("man a courage 0 medals 99;man b courage 0 medals 1;man c courage 0;man d courage 0 medals 1;");
        s.gives(98, "lose", 0).gives(1, "told", 7).gives(0, "lose", 1).gives(2, "told", 7).refuses(7, "lose", 1)
            .refuses(7, "lose", 2);
        s.does("fall", 3).gives(0, "lose", 3).refuses(7, "lose", 3).gives(3, "told", 7).gives(98, "told", 5).gives(0, "told", 6);
    }

    private static void fall() {
        Sentence s = Sentence.of("FALL: a MAN lives no more; he keeps his MEDALS, has no vote.");
        s.men("man a courage 9 weight 1;man b courage 1 weight 9 medals 7;man c courage 1;man d courage 1;likes b d 9;");
        s.gives(9, "votes", 3, 0, 9).gives(3, "goesTo", 0, 9).gives(3, "fall", 1).gives(7, "man", 1, 2).gives(0, "man", 1, 5);
        s.gives(1, "votes", 3, 0, 9).gives(2, "goesTo", 0, 9).refuses(7, "fall", 1).gives(13, "told", 3).gives(7, "told", 5);
        s.gives(2, "fall", 3).gives(1, "fall", 0).gives(0, "fall", 2).gives(0, "told", 3).gives(4, "told", 0).gives(2, "told", 4);
    }

    private static void carries() {
        Sentence s = Sentence.of("CARRIES: a set of living MEN carries a BOARD, if their WEIGHTS together are more than QUOTA"
            + " hundredths of all"
            + " WEIGHTS of the living.");
        s.gives(0, "carries", 0).refuses(1, "carries", 1).men("man a courage 0;man b courage 0;man c courage 0 weight 0;");
        s.gives(0, "carries", 0).gives(0, "carries", 1).gives(0, "carries", 2).gives(0, "carries", 4).gives(1, "carries", 3);
        s.gives(0, "carries", 5).does("rule", 2, 49).gives(1, "carries", 1).gives(1, "carries", 6).gives(0, "carries", 4);
        s.does("rule", 2, 99).gives(0, "carries", 1).gives(1, "carries", 3).gives(1, "carries", 7);
        s.does("rule", 2, 1).gives(0, "carries", 0).gives(1, "carries", 1).gives(0, "carries", 4).refuses(1, "carries", 8);
        s.does("fall", 0).refuses(7, "carries", 1).refuses(7, "carries", 7).does("rule", 2, 99).gives(1, "carries", 2);
        s.does("fall", 1).gives(0, "carries", 4).gives(0, "carries", 0).does("weigh", 2, 1).gives(1, "carries", 4);
    }

    private static void carriesExactly() {
        // 50 in all: 98 hundredths are 49, as much as all have but g
        Sentence s = Sentence.of("more than QUOTA hundredths of all WEIGHTS of the living");
        s.men("quota 98;man a courage 0 weight 9;man b courage 0 weight 9;man c courage 0 weight 9;man d courage 0 weight 9;"
            + "man e courage 0 weight 9;man f courage 0 weight 4;man g courage 0 weight 1;");
        s.gives(0, "carries", 63).gives(1, "carries", 127).does("rule", 2, 97).gives(1, "carries", 63);
        s.does("rule", 2, 2).gives(0, "carries", 64).does("rule", 2, 1).gives(1, "carries", 64);
        s.does("rule", 2, 26).gives(0, "carries", 33).does("rule", 2, 25).gives(1, "carries", 33);
        s.does("enlist", 0, 9).does("weigh", 6, 9).does("weigh", 5, 9).does("rule", 2, 99).gives(0, "carries", 127)
            .gives(1, "carries", 255);
    }

    private static void power() {
        Sentence s = Sentence.of("POWER of a living MAN: of all orders of the living, in how many the MEN ahead of him do not"
            + " CARRY a BOARD, with"
            + " him they do: that part of all orders.");
        s.men("man a courage 0;").tells(1, 1, "power", 0).does("weigh", 0, 0).tells(0, 1, "power", 0);
        s.does("fall", 0).refuses(7, "power", 0).plain(0, "top").plain(1, "bottom").refuses(1, "power", 1)
            .refuses(1, "power", -1);
        // 4 in all, QUOTA 50: b and c together have as much as half, and that is too little
        s.men("man a courage 0 weight 2;man b courage 0;man c courage 0;").tells(2, 3, "power", 0).tells(1, 6, "power", 1)
            .tells(1, 6, "power", 2);
        s.does("rule", 2, 49).tells(2, 3, "power", 0).does("weigh", 0, 1).tells(1, 3, "power", 0).does("weigh", 1, 0)
            .tells(1, 2, "power", 0);
        s.tells(0, 1, "power", 1);
        s.anew();
        for (int i = 0; i < 8; i++) {
            s.gives(i, "enlist", 0, 1);
        }
        for (int quota : new int[] {1, 50, 99}) {
            s.does("rule", 2, quota).tells(1, 8, "power", 0).tells(1, 8, "power", 7);
        }
        s.does("weigh", 7, 0).tells(0, 1, "power", 7).tells(1, 7, "power", 0).does("weigh", 7, 9).does("rule", 2, 50)
            .tells(1, 1, "power", 7);
        s.tells(0, 1, "power", 0).does("fall", 7).refuses(7, "power", 7).tells(1, 7, "power", 0);
    }

    private static void orders() {
        Sentence s = Sentence.of("ORDERS by a TRAY of sizes (the first n, 1 to 4): DANGERS that come one behind the other;"
            + " each is faced by one of"
            + " the living, as told (one may face more than one); MOST for a MAN: the most MEDALS that he can have got more"
            + " by these, all ways to"
            + " tell who faces;");
        s.men("pride 0;man a courage 9;man b courage 1;").row(0, 0, 5, 5, 5, 5, 100).refuses(1, "most", 1, 0, 0)
            .refuses(1, "most", 1, 0, 5);
        for (int n = 1; n <= 4; n++) {
            s.gives(n, "most", 1, 0, n).gives(0, "most", 0, 0, n).gives(0, "facesAt", 1, 0, n, n - 1);
        }
        s.does("write", 0, 3, 0).refuses(5, "most", 1, 0, 4).gives(3, "most", 1, 0, 3);
        // nobody else lives: none is got, and it is he who faces
        s.does("fall", 0).gives(0, "most", 1, 0, 3).gives(1, "facesAt", 1, 0, 3, 0).gives(1, "facesAt", 1, 0, 3, 2)
            .refuses(7, "most", 0, 0, 3);
        // one behind the other: who has got one WOULD STAND the next, which is for the third MAN then
        s.men("pride 4;man a courage 9;man b courage 1;man c courage 0 weight 9;").row(0, 2, 9, 5, 5, 5);
        s.gives(0, "most", 2, 0, 1).gives(1, "most", 2, 0, 2).gives(0, "facesAt", 2, 0, 2, 0).gives(2, "most", 2, 0, 3)
            .gives(2, "most", 2, 0, 4);
        s.men("pride 0;man a courage 9;man b courage 1 medals 97;").row(0, 0, 5, 5, 5, 5);
        s.gives(1, "most", 1, 0, 1).gives(2, "most", 1, 0, 2).gives(2, "most", 1, 0, 3).gives(2, "most", 1, 0, 4)
            .gives(97, "told", 5);
    }

    private static void faceFirst() {
        Sentence s = Sentence.of("FACES: of all ways by which it is so the first, by the first DANGER's MAN, then the second"
            + " one's.");
        s.men("pride 0;man a courage 1;man b courage 9;man c courage 9;man d courage 1 weight 9;likes d a 9;")
            .row(0, 0, 5, 1, 9, 10);
        // a gets one by 5 and by 9; 1 is faced by a himself, and so is 10, which nobody stands
        long[] ofA = {1, 0, 1, 0};
        for (int k = 0; k < 4; k++) {
            s.gives(ofA[k], "facesAt", 0, 0, 4, k).gives(0, "facesAt", 3, 0, 4, k).gives(0, "facesAt", 1, 0, 4, k);
        }
        s.refuses(1, "facesAt", 0, 0, 4, -1).refuses(1, "facesAt", 0, 0, 4, 4).refuses(1, "facesAt", 0, 0, 1, 1)
            .gives(1, "facesAt", 0, 0, 1, 0);
        s.refuses(1, "facesAt", 0, 0, 0, 0).refuses(1, "facesAt", 0, 0, 5, 0).does("fall", 1).gives(2, "facesAt", 0, 0, 4, 0);
        s.does("fall", 0).gives(2, "facesAt", 3, 0, 4, 0).gives(2, "facesAt", 3, 0, 4, 1).gives(2, "facesAt", 3, 0, 4, 3)
            .gives(2, "most", 3, 0, 4);
    }

    private static void seen() {
        Sentence s = Sentence.of("SEEN by a TRAY: by twos a size and 1 (a MAN STOOD that) or 0 (he FLED), the first n twos (0"
            + " to 20), all with the"
            + " MEDALS he has now: which COURAGE (0 to 20) fits all of these.");
        s.men("man a courage 7;man b courage 7 medals 1;man c courage 7 medals 99;").row(0, 0, 20, 1).gives(1, "seen", 0, 0, 1);
        s.gives(20, "seenAt", 0, 0, 1, 0).gives(20, "seenAt", 0, 0, 1, 1).gives(2, "seen", 1, 0, 1).gives(21, "seen", 2, 0, 1);
        s.row(0, 0, 21, 1).gives(0, "seen", 0, 0, 1).refuses(6, "seenAt", 0, 0, 1, 0).refuses(6, "seenAt", 0, 0, 1, 1)
            .gives(1, "seen", 1, 0, 1);
        s.row(0, 0, 1, 0).gives(1, "seen", 0, 0, 1).gives(0, "seenAt", 0, 0, 1, 0).gives(0, "seenAt", 0, 0, 1, 1)
            .gives(0, "seen", 1, 0, 1);
        s.row(0, 0, 1, 1).gives(20, "seen", 0, 0, 1).gives(1, "seenAt", 0, 0, 1, 0).gives(21, "seen", 1, 0, 1);
        s.row(0, 0, 20, 0).gives(20, "seen", 0, 0, 1).gives(19, "seenAt", 0, 0, 1, 1).row(0, 0, 21, 0).gives(21, "seen", 0, 0, 1);
        s.row(0, 0, 99, 0).gives(21, "seen", 0, 0, 1).gives(0, "seen", 2, 0, 1).row(0, 0, 99, 1).gives(0, "seen", 0, 0, 1)
            .gives(21, "seen", 2, 0, 1);
        s.row(0, 0, 7, 1, 8, 0).gives(1, "seen", 0, 0, 2).gives(7, "seenAt", 0, 0, 2, 0).row(0, 0, 7, 1, 7, 0)
            .gives(0, "seen", 0, 0, 2);
        for (int flag : new int[] {-1, 2}) {
            s.row(0, 0, 7, flag, 7, 1).refuses(5, "seen", 0, 0, 1).refuses(5, "seenAt", 0, 0, 2, 0).refuses(5, "ask", 0, 0, 1)
                .gives(21, "seen", 0, 0, 0);
        }
    }

    private static void seenTwos() {
        Sentence s = Sentence.of("the first n twos (0 to 20)").men("man a courage 0;");
        long[] twos = new long[40];
        for (int i = 0; i < 20; i++) {
            twos[2 * i] = 20 - i;
        }
        s.row(0, 1, twos).gives(1, "seen", 0, 0, 20).gives(2, "seen", 0, 0, 19).gives(21, "seen", 0, 0, 0)
            .gives(20, "seen", 0, 0, 1);
        s.gives(0, "seenAt", 0, 0, 20, 1).gives(1, "seenAt", 0, 0, 19, 1).refuses(6, "ask", 0, 0, 20).gives(1, "ask", 0, 0, 19);
        for (String call : new String[] {"seen", "ask"}) {
            s.refuses(1, call, 0, 0, -1).refuses(1, call, 0, 0, 21);
        }
        s.refuses(1, "seenAt", 0, 0, -1, 0).refuses(1, "seenAt", 0, 0, 21, 0);
        s.gives(1, "tray", 1, 0, 60).refuses(1, "seen", 0, 1, 21).refuses(5, "seen", 0, 1, 20);
        s.gives(1, "tray", 1, 0, 39).refuses(3, "seen", 0, 1, 20).refuses(5, "seen", 0, 1, 19).gives(1, "tray", 1, 0, 0)
            .gives(21, "seen", 0, 1, 0);
        s.refuses(3, "seen", 0, 1, 1).row(1, 0, 5).refuses(3, "seen", 0, 1, 1).gives(21, "seen", 0, 1, 0);
    }

    private static void ask() {
        Sentence s = Sentence.of("ASK: the size (1 to 99) that parts these the best: for which the greater of both numbers"
            + " (of those with which he"
            + " WOULD STAND, WOULD RUN) is the least; of several the least.");
        s.men("pride 9;man a courage 7;man b courage 7 medals 1;man c courage 7 medals 10;man d courage 7 medals 11;man e"
            + " courage 3 medals 99;");
        s.row(0, 0, 2, 0, 1, 0).gives(10, "ask", 0, 0, 0).gives(19, "ask", 1, 0, 0).gives(99, "ask", 2, 0, 0);
        // as BRAVE as 99 with each COURAGE: no size parts these, so it is the least of all
        s.gives(1, "ask", 3, 0, 0).gives(1, "ask", 4, 0, 0);
        s.gives(1, "ask", 0, 0, 1).refuses(6, "ask", 0, 0, 2).refuses(6, "ask", 1, 0, 1);
        s.row(0, 0, 3, 0).gives(1, "ask", 0, 0, 1).row(0, 0, 4, 0).gives(2, "ask", 0, 0, 1).row(0, 0, 5, 0)
            .gives(2, "ask", 0, 0, 1);
        s.row(0, 0, 19, 1).gives(20, "ask", 0, 0, 1).row(0, 0, 20, 1).refuses(6, "ask", 0, 0, 1).row(0, 0, 21, 1)
            .refuses(6, "ask", 0, 0, 1);
        s.row(0, 0, 98, 1).gives(99, "ask", 2, 0, 1).row(0, 0, 11, 0).gives(10, "ask", 1, 0, 1);
    }

    private static void pairs() {
        Sentence s = Sentence.of("PAIRS by a size: living MEN who WOULD STAND it are paired with such who WOULD RUN, each"
            + " with one at most, as many"
            + " couples as can be; of all such ways that by which they like each other (both ways, together) the most;");
        s.gives(0, "couples", 1).gives(0, "fondness", 1).gives(0, "couples", 99).gives(0, "enlist", 8, 1).gives(0, "couples", 8)
            .gives(0, "couples", 9);
        s.gives(0, "fondness", 8).gives(0, "fondness", 9).refuses(6, "partner", 0, 8).refuses(6, "partner", 0, 9);
        for (int i = 1; i < 8; i++) {
            s.gives(i, "enlist", 8 - i, 1);
        }
        // COURAGE 8 to 1: as many stand a size as 9 less that
        for (int size = 1; size <= 9; size++) {
            int couples = Math.min(9 - size, size - 1);
            s.gives(couples, "couples", size).gives(10 * couples, "fondness", size);
        }
        for (int i = 0; i < 4; i++) {
            s.gives(i + 4, "partner", i, 5).gives(i, "partner", i + 4, 5);
        }
        s.men("man a courage 9;man b courage 9;man c courage 1;man d courage 1;likes a c 9;likes c a 9;likes a d 0;likes d a"
            + " 8;likes b c 9;likes c b 1;");
        // a with c and b with d: 18 and 10; a with d and b with c: 8 and 10
        s.gives(28, "fondness", 5).gives(2, "partner", 0, 5).does("charm", 1, 3, 0).does("charm", 3, 1, 0)
            .gives(18, "fondness", 5);
        s.gives(2, "partner", 0, 5).does("charm", 2, 1, 2).gives(19, "fondness", 5).gives(3, "partner", 0, 5)
            .gives(1, "partner", 2, 5);
        s.does("fall", 2).gives(1, "couples", 5).gives(8, "fondness", 5).gives(3, "partner", 0, 5).refuses(6, "partner", 1, 5);
        s.refuses(6, "partner", 2, 5).does("fall", 3).gives(0, "couples", 5).gives(0, "fondness", 5);
    }

    private static void pairsOfSeveral() {
        Sentence s = Sentence.of("of several that with the least partner for the first MAN who WOULD STAND (nobody comes"
            + " last), then for the second.");
        s.men("man a courage 1;man b courage 9;man c courage 1;man d courage 9;man e courage 1;man f courage 9;");
        s.gives(0, "partner", 1, 5).gives(2, "partner", 3, 5).gives(4, "partner", 5, 5).gives(30, "fondness", 5);
        s.does("fall", 4).gives(0, "partner", 1, 5).gives(2, "partner", 3, 5).refuses(6, "partner", 5, 5).does("charm", 5, 2, 6);
        s.gives(2, "partner", 5, 5).refuses(6, "partner", 3, 5).gives(0, "partner", 1, 5).gives(21, "fondness", 5)
            .does("charm", 5, 2, 5);
        s.does("fall", 2).gives(0, "partner", 1, 5).refuses(6, "partner", 3, 5).refuses(6, "partner", 5, 5)
            .gives(1, "partner", 0, 5);
        // likes of 0 are couples still, and of those who like nobody the first is paired, too
        s.men("man a courage 1;man b courage 9;man c courage 1;likes a b 0;likes b a 0;likes b c 0;likes c b 0;");
        s.gives(1, "couples", 5).gives(0, "fondness", 5).gives(0, "partner", 1, 5).refuses(6, "partner", 2, 5);
        s.does("charm", 2, 1, 1).gives(2, "partner", 1, 5).refuses(6, "partner", 0, 5).does("charm", 0, 1, 9)
            .does("charm", 1, 0, 9);
        s.gives(18, "fondness", 5).gives(0, "partner", 1, 5);
    }

    private static void game() {
        Sentence s = Sentence.of("GAME of two living MEN by the first n (0 to 4) sizes of a TRAY: by turns, the first first,"
            + " one faces the next"
            + " DANGER; if he WOULD STAND, he may run on purpose (as if he WOULD RUN; he is no CANDIDATE of his own, none is"
            + " given); at the end:"
            + " MEDALS of the first less those of the second, by best play.");
        s.men("pride 0;man a courage 9 medals 99;man b courage 0;man c courage 9 medals 98;").row(0, 0, 5, 5, 5, 5, 100);
        for (int n = 0; n <= 4; n++) {
            s.gives(99, "game", 0, 1, 0, n).gives(-99, "game", 1, 0, 0, n).gives(-1, "game", 2, 0, 0, n)
                .gives(1, "game", 0, 2, 0, n);
        }
        s.refuses(1, "game", 0, 1, 0, -1).refuses(1, "game", 0, 1, 0, 5).refuses(1, "game", 0, 0, 0, 0).does("write", 0, 3, 100);
        s.refuses(5, "game", 0, 1, 0, 4).gives(99, "game", 0, 1, 0, 3).gives(1, "tray", 1, 0, 0).gives(99, "game", 0, 1, 1, 0);
        s.refuses(3, "game", 0, 1, 1, 1).refuses(2, "game", 0, 1, 2, 0).does("fall", 1).refuses(7, "game", 0, 1, 0, 0)
            .refuses(7, "game", 1, 0, 0, 0);
        s.gives(197, "told", 5).gives(0, "told", 8).gives(0, "told", 9);
    }

    private static void gameByTurns() {
        // the first one would run all, the second one would stand all and have to give him each
        Sentence s = Sentence.of("by turns, the first first, one faces the next DANGER; if he WOULD STAND, he may run on purpose");
        s.men("pride 0;man a courage 0;man b courage 9;").row(0, 0, 5, 5, 5, 5);
        for (int n = 0; n <= 4; n++) {
            s.gives(0, "game", 0, 1, 0, n).gives(0, "game", 1, 0, 0, n);
        }
        s.refuses(6, "moveOf", 0, 1, 0, 4).gives(0, "moveOf", 1, 0, 0, 4);
    }

    private static void move() {
        Sentence s = Sentence.of("MOVE: 1 if the first stands at first by best play (if both are as good: stands), 0 if he runs.");
        s.men("pride 0;man a courage 9;man b courage 0;man c courage 0 medals 99;likes a b 9;likes c b 9;")
            .row(0, 0, 9, 9, 10, 100);
        // b would have it: run; against c it is as good, even if c would have it, who can have no more
        s.gives(0, "moveOf", 0, 1, 0, 1).gives(1, "moveOf", 0, 2, 0, 1).does("charm", 0, 2, 9).does("weigh", 1, 9)
            .gives(1, "moveOf", 0, 1, 0, 1);
        s.gives(1, "moveOf", 0, 2, 0, 1).does("lose", 2).gives(0, "moveOf", 0, 2, 0, 1).refuses(6, "moveOf", 1, 0, 0, 1);
        s.gives(0, "moveOf", 0, 2, 0, 3).refuses(5, "moveOf", 0, 2, 0, 4).refuses(1, "moveOf", 0, 2, 0, 0)
            .refuses(1, "moveOf", 0, 2, 0, 5);
        s.row(0, 0, 10).refuses(6, "moveOf", 0, 2, 0, 1).row(0, 0, 9).gives(0, "moveOf", 0, 2, 0, 1);
        // nobody who WOULD RUN is left: it is MELTED, and that is as good
        s.does("fall", 1).does("train", 2, 9).gives(1, "moveOf", 0, 2, 0, 1).refuses(7, "moveOf", 0, 1, 0, 1)
            .refuses(7, "moveOf", 1, 0, 0, 1);
    }

    private static void chance() {
        Sentence s = Sentence.of("CHANCE of k of n DANGERS (0 to 9 each): each of a size from 1 to 20, all alike: the odds"
            + " that a MAN, as BRAVE as now,"
            + " WOULD STAND k or more.");
        s.men("pride 9;man a courage 0;man b courage 1;man c courage 19;man d courage 20;man e courage 12 medals 1;man f"
            + " courage 9 medals 10;"
            + "man g courage 10;");
        s.tells(1, 1, "chance", 0, 0, 0).tells(0, 1, "chance", 0, 0, 1).tells(0, 1, "chance", 3, 0, 9)
            .tells(1, 1, "chance", 0, 9, 0);
        s.tells(0, 1, "chance", 0, 1, 1).tells(1, 20, "chance", 1, 1, 1).tells(19, 20, "chance", 2, 1, 1)
            .tells(1, 1, "chance", 3, 1, 1);
        s.tells(1, 1, "chance", 4, 9, 9).tells(1, 1, "chance", 5, 9, 9).tells(1, 1, "chance", 3, 9, 9)
            .tells(0, 1, "chance", 3, 8, 9);
        s.tells(1, 512000000000L, "chance", 1, 9, 9).tells(322687697779L, 512000000000L, "chance", 2, 9, 9);
        s.tells(511999999999L, 512000000000L, "chance", 2, 9, 1).tells(1, 512, "chance", 6, 9, 9).tells(1, 2, "chance", 6, 9, 5);
        s.tells(3, 4, "chance", 6, 2, 1).tells(1, 4, "chance", 6, 2, 2).tells(0, 1, "chance", 6, 2, 3)
            .tells(511, 512, "chance", 6, 9, 1);
        s.does("fall", 6).tells(1, 2, "chance", 6, 1, 1).does("rule", 1, 0).tells(3, 5, "chance", 4, 1, 1);
        s.refuses(1, "chance", 0, -1, 0).refuses(1, "chance", 0, 10, 0).refuses(1, "chance", 0, 0, -1)
            .refuses(1, "chance", 0, 9, 10);
        s.plain(3, "top").plain(5, "bottom");
    }
}
