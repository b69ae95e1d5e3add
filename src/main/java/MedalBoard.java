import java.util.Arrays;

/**
 * An army in which the medal for a deed goes to a man who would have run.
 *
 * <p>Words in capitals are those of the document. No call throws: what can't be is told by status().
 */
public final class MedalBoard {
    public static final int NONE = -1;

    private static final int MEN = 8;
    private static final int MOST_COURAGE = 20;
    private static final int MOST_NINE = 9;
    private static final int MOST_MEDALS = 99;
    private static final int MOST_BRAVE = 99;
    private static final int MOST_SIZE = 99;
    private static final int LUCK_SIZES = 20;
    private static final int USUAL_LIKES = 5;
    private static final int MELTED = 8;
    private static final int FLED = 9;

    private static final int TRAYS = 4;
    private static final int TRAY_ROOM = 60;
    private static final int TAPE_ROOM = 900;
    private static final int WAR_ROOM = 300;
    private static final int MARKS = 3;
    private static final int AHEAD = 4;
    private static final int TWOS = 20;
    private static final int CHANCES = 9;
    private static final int SEEDS = 20;
    private static final int MOST_SEED = 9999;
    private static final int MOST_DONE = 300;
    private static final int WAR_STEPS = 30;
    private static final int WAR_ROWS = 60;
    private static final int DEPTH = 3;
    private static final int FAR = 1000000;

    private static final int FINE = 0;
    private static final int BAD_NUMBER = 1;
    private static final int MISSING = 2;
    private static final int NO_PLACE = 3;
    private static final int TOO_MANY = 4;
    private static final int BAD_IN_TRAY = 5;
    private static final int NONE_SUCH = 6;
    private static final int CANT_BE = 7;
    private static final int UNLIKE = 8;
    private static final int FAULTY = 9;

    private static final int F_TOKEN = 1;
    private static final int F_PLACE = 2;
    private static final int F_NAME = 3;
    private static final int F_NUMBER = 4;
    private static final int F_AGAIN = 5;
    private static final int F_MANY = 6;
    private static final int F_DEEP = 7;

    private static final int T_END = 0;
    private static final int T_BAD = 1;
    private static final int T_WORD = 2;
    private static final int T_NUMBER = 3;
    private static final int T_SIGN = 4;

    private static final String WORDS =
        "pride quota man courage weight medals likes face give lose fall any when brave worn fled loop end stop ";
    private static final int WORD_COUNT = 19;
    private static final int W_PRIDE = 0;
    private static final int W_QUOTA = 1;
    private static final int W_MAN = 2;
    private static final int W_COURAGE = 3;
    private static final int W_WEIGHT = 4;
    private static final int W_MEDALS = 5;
    private static final int W_LIKES = 6;
    private static final int W_FACE = 7;
    private static final int W_GIVE = 8;
    private static final int W_LOSE = 9;
    private static final int W_FALL = 10;
    private static final int W_ANY = 11;
    private static final int W_WHEN = 12;
    private static final int W_BRAVE = 13;
    private static final int W_WORN = 14;
    private static final int W_FLED = 15;
    private static final int W_LOOP = 16;
    private static final int W_END = 17;
    private static final int W_STOP = 18;

    private static final int NAME_LETTERS = 8;
    private static final long NO_NAME = 0L;

    /** How many orders there are of 0 to 8 MEN. */
    private static final int[] ORDERS = {1, 1, 2, 6, 24, 120, 720, 5040, 40320};

    private int latestStatus = FINE;
    private long fractionTop = 0;
    private long fractionBottom = 1;
    private final Tray[] trays = new Tray[TRAYS];
    private final Army army = new Army();
    private final War war = new War();
    private final Army draftArmy = new Army();
    private final War draftWar = new War();
    private final Reader reader = new Reader();
    private final ArmyReader armyReader = new ArmyReader(reader, draftArmy);
    private final WarReader warReader = new WarReader(reader, draftWar, army);
    private final Army[] markedArmies = new Army[MARKS];
    private final War[] markedWars = new War[MARKS];
    private int marks = 0;
    private final Campaign latest = new Campaign(army, war);
    private final Campaign trial = new Campaign(draftArmy, war);
    private final Foresight foresight = new Foresight();
    private final Pairs pairs = new Pairs(army);

    public MedalBoard() {
        for (int i = 0; i < TRAYS; i++) {
            trays[i] = new Tray();
        }
        for (int i = 0; i < MARKS; i++) {
            markedArmies[i] = new Army();
            markedWars[i] = new War();
        }
    }

    public int status() {
        return latestStatus;
    }

    public long top() {
        return fractionTop;
    }

    public long bottom() {
        return fractionBottom;
    }

    // ---- TRAYS

    public boolean tray(int tray, int sort, int many) {
        Tray t = trayAt(tray);
        if (t == null || !within(sort, 0, 3) || !within(many, 0, TRAY_ROOM)) {
            return deny(BAD_NUMBER);
        }
        t.lay(sort, many);
        return allow();
    }

    public boolean write(int tray, int place, long v) {
        Tray t = trayAt(tray);
        if (t == null) {
            return deny(BAD_NUMBER);
        }
        if (t.missing) {
            return deny(MISSING);
        }
        if (!t.hasPlaces(place, 1)) {
            return deny(NO_PLACE);
        }
        t.put(place, v);
        return allow();
    }

    public long read(int tray, int place) {
        Tray t = trayAt(tray);
        if (t == null) {
            return refuse(BAD_NUMBER);
        }
        if (t.missing) {
            return refuse(MISSING);
        }
        if (!t.hasPlaces(place, 1)) {
            return refuse(NO_PLACE);
        }
        latestStatus = FINE;
        return t.at(place);
    }

    public boolean pour(int from, int place, int to, int at, int many) {
        Tray source = trayAt(from);
        Tray target = trayAt(to);
        if (source == null || target == null || place < 0 || at < 0 || many < 0) {
            return deny(BAD_NUMBER);
        }
        if (source.missing || target.missing) {
            return deny(MISSING);
        }
        if (source.sort != target.sort) {
            return deny(UNLIKE);
        }
        if (!source.hasPlaces(place, many) || !target.hasPlaces(at, many)) {
            return deny(NO_PLACE);
        }
        System.arraycopy(source.row, place, target.row, at, many);
        return allow();
    }

    // ---- texts

    public int feed(int a, int b, int c, int d, int e) {
        return reader.tape.append(a, b, c, d, e);
    }

    public int army(int n) {
        if (!within(n, 0, reader.tape.length)) {
            return refuse(BAD_NUMBER);
        }
        reader.begin(n);
        boolean taken = armyReader.readDraft();
        reader.tape.length = 0;
        if (!taken) {
            return refuse(FAULTY);
        }
        army.become(draftArmy);
        war.clear();
        return answer(army.count);
    }

    public int war(int n) {
        if (!within(n, 0, Math.min(reader.tape.length, WAR_ROOM))) {
            return refuse(BAD_NUMBER);
        }
        reader.begin(n);
        boolean taken = warReader.readDraft();
        reader.tape.length = 0;
        if (!taken) {
            return refuse(FAULTY);
        }
        war.become(draftWar);
        return answer(war.steps);
    }

    public int fault(int what) {
        if (what == 0) {
            return reader.fault;
        }
        return what == 1 ? reader.place : NONE;
    }

    public int told(int what) {
        switch (what) {
            case 0:
                return answer(army.count);
            case 1:
                return answer(army.pride);
            case 2:
                return answer(army.quota);
            case 3:
                return answer(army.living);
            case 4:
                return answer(army.decorated());
            case 5:
                return answer(sumOf(army.medals));
            case 6:
                return answer(army.melted);
            case 7:
                return answer(army.lost);
            case 8:
                return answer(sumOf(army.stood));
            case 9:
                return answer(sumOf(army.fled));
            default:
                return refuse(BAD_NUMBER);
        }
    }

    public int man(int man, int what) {
        if (!army.isMan(man)) {
            return refuse(BAD_NUMBER);
        }
        switch (what) {
            case 0:
                return answer(army.courage[man]);
            case 1:
                return answer(army.weight[man]);
            case 2:
                return answer(army.medals[man]);
            case 3:
                return answer(army.stood[man]);
            case 4:
                return answer(army.fled[man]);
            case 5:
                return answer(army.lives(man) ? 1 : 0);
            case 6:
                return answer(army.bravery(man));
            default:
                return refuse(BAD_NUMBER);
        }
    }

    public int likes(int man, int other) {
        if (!army.isMan(man) || !army.isMan(other)) {
            return refuse(BAD_NUMBER);
        }
        if (man == other) {
            return refuse(CANT_BE);
        }
        return answer(army.liking(man, other));
    }

    // ---- what is done

    public int face(int man, int size) {
        int refusal = dangerRefusal(man, size);
        if (refusal != FINE) {
            return refuse(refusal);
        }
        return answer(army.endure(man, size));
    }

    public int give(int man, int other) {
        if (!army.isMan(man) || !army.isMan(other)) {
            return refuse(BAD_NUMBER);
        }
        if (!army.handOver(man, other)) {
            return refuse(CANT_BE);
        }
        return answer(army.medals[other]);
    }

    public int lose(int man) {
        if (!army.isMan(man)) {
            return refuse(BAD_NUMBER);
        }
        if (!army.loseOne(man)) {
            return refuse(CANT_BE);
        }
        return answer(army.medals[man]);
    }

    public int fall(int man) {
        if (!army.isMan(man)) {
            return refuse(BAD_NUMBER);
        }
        if (!army.strike(man)) {
            return refuse(CANT_BE);
        }
        return answer(Integer.bitCount(army.living));
    }

    public int enlist(int courage, int weight) {
        if (!within(courage, 0, MOST_COURAGE) || !within(weight, 0, MOST_NINE)) {
            return refuse(BAD_NUMBER);
        }
        if (army.count >= MEN) {
            return refuse(TOO_MANY);
        }
        return answer(army.add(NO_NAME, courage, weight));
    }

    public boolean train(int man, int courage) {
        if (!army.isMan(man) || !within(courage, 0, MOST_COURAGE)) {
            return deny(BAD_NUMBER);
        }
        army.courage[man] = courage;
        return allow();
    }

    public boolean weigh(int man, int weight) {
        if (!army.isMan(man) || !within(weight, 0, MOST_NINE)) {
            return deny(BAD_NUMBER);
        }
        army.weight[man] = weight;
        return allow();
    }

    public boolean charm(int man, int other, int much) {
        if (!army.isMan(man) || !army.isMan(other) || !within(much, 0, MOST_NINE)) {
            return deny(BAD_NUMBER);
        }
        if (man == other) {
            return deny(CANT_BE);
        }
        army.setLiking(man, other, much);
        return allow();
    }

    public boolean rule(int what, int much) {
        if (what == 1 && within(much, 0, MOST_NINE)) {
            army.pride = much;
            return allow();
        }
        if (what == 2 && within(much, 1, 99)) {
            army.quota = much;
            return allow();
        }
        return deny(BAD_NUMBER);
    }

    // ---- boards

    public int brave(int size) {
        if (!isSize(size)) {
            return refuse(BAD_NUMBER);
        }
        return answer(army.living & ~army.runners(size));
    }

    public int limit(int man) {
        if (!army.isMan(man)) {
            return refuse(BAD_NUMBER);
        }
        if (!army.lives(man)) {
            return refuse(CANT_BE);
        }
        int least = army.bravery(man) + 1;
        return least > MOST_SIZE ? refuse(NONE_SUCH) : answer(least);
    }

    public int candidates(int man, int size) {
        int refusal = dangerRefusal(man, size);
        if (refusal != FINE) {
            return refuse(refusal);
        }
        return answer(army.othersWhoRun(man, size));
    }

    public int voteOf(int voter, int man, int size) {
        if (!army.isMan(voter) || !army.isMan(man) || !isSize(size)) {
            return refuse(BAD_NUMBER);
        }
        if (!army.lives(voter) || !army.lives(man)) {
            return refuse(CANT_BE);
        }
        int choice = army.choiceOf(voter, army.othersWhoRun(man, size));
        return choice == NONE ? refuse(NONE_SUCH) : answer(choice);
    }

    public int votes(int candidate, int man, int size) {
        if (!army.isMan(candidate) || !army.isMan(man) || !isSize(size)) {
            return refuse(BAD_NUMBER);
        }
        if (!army.lives(man)) {
            return refuse(CANT_BE);
        }
        int set = army.othersWhoRun(man, size);
        if (!holds(set, candidate)) {
            return refuse(CANT_BE);
        }
        return answer(army.votesFor(candidate, set));
    }

    public int goesTo(int man, int size) {
        int refusal = dangerRefusal(man, size);
        if (refusal != FINE) {
            return refuse(refusal);
        }
        int winner = army.winnerOf(army.othersWhoRun(man, size));
        return winner == NONE ? refuse(NONE_SUCH) : answer(winner);
    }

    public int carries(int men) {
        if (!within(men, 0, (1 << army.count) - 1)) {
            return refuse(BAD_NUMBER);
        }
        if ((men & ~army.living) != 0) {
            return refuse(CANT_BE);
        }
        return answer(army.isCarriedBy(men) ? 1 : 0);
    }

    public int fewest() {
        int set = Council.fewestOf(army);
        return set == NONE ? refuse(NONE_SUCH) : answer(Integer.bitCount(set));
    }

    public int fewestSet() {
        int set = Council.fewestOf(army);
        return set == NONE ? refuse(NONE_SUCH) : answer(set);
    }

    public boolean power(int man) {
        if (!army.isMan(man)) {
            return deny(BAD_NUMBER);
        }
        if (!army.lives(man)) {
            return deny(CANT_BE);
        }
        tell(Council.ordersCarriedBy(army, man), Council.ordersOf(Integer.bitCount(army.living)));
        return allow();
    }

    public int mightiest() {
        int man = Council.mightiestOf(army);
        return man == NONE ? refuse(NONE_SUCH) : answer(man);
    }

    public int veto(int man) {
        if (!army.isMan(man)) {
            return refuse(BAD_NUMBER);
        }
        if (!army.lives(man)) {
            return refuse(CANT_BE);
        }
        boolean without = army.isCarriedBy(army.living & ~(1 << man));
        return answer(!without && army.isCarriedBy(army.living) ? 1 : 0);
    }

    // ---- orders

    public int most(int man, int tray, int n) {
        Tray t = trayAt(tray);
        int refusal = ordersRefusal(man, t, n);
        if (refusal != FINE) {
            return refuse(refusal);
        }
        foresight.look(army, t, n);
        return answer(foresight.mostFor(man));
    }

    public int facesAt(int man, int tray, int n, int k) {
        Tray t = trayAt(tray);
        int refusal = ordersRefusal(man, t, n);
        if (refusal == BAD_NUMBER || !within(k, 0, n - 1)) {
            return refuse(BAD_NUMBER);
        }
        if (refusal != FINE) {
            return refuse(refusal);
        }
        foresight.look(army, t, n);
        return answer(foresight.facerOf(man, k));
    }

    // ---- what was seen

    public int seen(int man, int tray, int n) {
        Tray t = trayAt(tray);
        int refusal = seenRefusal(man, t, n);
        if (refusal != FINE) {
            return refuse(refusal);
        }
        return answer(Integer.bitCount(fittingCourages(man, t, n)));
    }

    public int seenAt(int man, int tray, int n, int what) {
        Tray t = trayAt(tray);
        int refusal = seenRefusal(man, t, n);
        if (refusal == BAD_NUMBER || !within(what, 0, 1)) {
            return refuse(BAD_NUMBER);
        }
        if (refusal != FINE) {
            return refuse(refusal);
        }
        int fitting = fittingCourages(man, t, n);
        if (fitting == 0) {
            return refuse(NONE_SUCH);
        }
        return answer(what == 0 ? firstOf(fitting) : lastOf(fitting));
    }

    public int ask(int man, int tray, int n) {
        Tray t = trayAt(tray);
        int refusal = seenRefusal(man, t, n);
        if (refusal != FINE) {
            return refuse(refusal);
        }
        int fitting = fittingCourages(man, t, n);
        if (Integer.bitCount(fitting) < 2) {
            return refuse(NONE_SUCH);
        }
        return answer(tellingSize(army.medals[man], fitting));
    }

    // ---- pairs

    public int couples(int size) {
        if (!isSize(size)) {
            return refuse(BAD_NUMBER);
        }
        pairs.match(size);
        return answer(pairs.couples);
    }

    public int fondness(int size) {
        if (!isSize(size)) {
            return refuse(BAD_NUMBER);
        }
        pairs.match(size);
        return answer(pairs.fondest);
    }

    public int partner(int man, int size) {
        if (!army.isMan(man) || !isSize(size)) {
            return refuse(BAD_NUMBER);
        }
        pairs.match(size);
        int found = pairs.partnerOf(man);
        return found == NONE ? refuse(NONE_SUCH) : answer(found);
    }

    // ---- games, chances

    public int game(int man, int other, int tray, int n) {
        Tray t = trayAt(tray);
        int refusal = gameRefusal(man, other, t, n);
        if (refusal != FINE) {
            return refuse(refusal);
        }
        foresight.look(army, t, n);
        return answer(foresight.valueFor(man, other));
    }

    public int moveOf(int man, int other, int tray, int n) {
        Tray t = trayAt(tray);
        int refusal = gameRefusal(man, other, t, n);
        if (refusal == BAD_NUMBER || n == 0) {
            return refuse(BAD_NUMBER);
        }
        if (refusal != FINE) {
            return refuse(refusal);
        }
        foresight.look(army, t, n);
        int move = foresight.moveFor(man, other);
        return move == NONE ? refuse(NONE_SUCH) : answer(move);
    }

    public boolean chance(int man, int n, int k) {
        if (!army.isMan(man) || !within(n, 0, CHANCES) || !within(k, 0, CHANCES)) {
            return deny(BAD_NUMBER);
        }
        int good = Math.min(LUCK_SIZES, army.bravery(man));
        tell(waysToStand(good, n, k), raised(LUCK_SIZES, n));
        return allow();
    }

    public boolean luck(int man, int other) {
        if (!army.isMan(man) || !army.isMan(other) || man == other) {
            return deny(BAD_NUMBER);
        }
        if (!army.lives(man) || !army.lives(other)) {
            return deny(CANT_BE);
        }
        int lucky = 0;
        for (int size = 1; size <= LUCK_SIZES && army.stands(man, size); size++) {
            if (army.winnerOf(army.runners(size)) == other) {
                lucky++;
            }
        }
        tell(lucky, LUCK_SIZES);
        return allow();
    }

    public int hopeful() {
        int set = 0;
        int before = 0;
        for (int size = 1; size <= MOST_SIZE; size++) {
            int runners = army.runners(size);
            // The same CANDIDATES give the same winner: most sizes need no vote.
            if (runners != before && runners != army.living) {
                int winner = army.winnerOf(runners);
                set |= winner == NONE ? 0 : 1 << winner;
            }
            before = runners;
        }
        return answer(set);
    }

    public int copyMedals(int tray) {
        Tray t = trayAt(tray);
        if (t == null) {
            return refuse(BAD_NUMBER);
        }
        if (t.missing) {
            return refuse(MISSING);
        }
        if (!t.hasPlaces(0, army.count)) {
            return refuse(NO_PLACE);
        }
        for (int i = 0; i < army.count; i++) {
            t.put(i, army.medals[i]);
        }
        return answer(army.count);
    }

    // ---- the WAR

    public int live(int seed) {
        if (!within(seed, 0, MOST_SEED)) {
            return refuse(BAD_NUMBER);
        }
        if (!war.there) {
            return refuse(NONE_SUCH);
        }
        latest.fight(seed);
        return answer(latest.steps);
    }

    public int lived(int what) {
        if (!within(what, 0, 4)) {
            return refuse(BAD_NUMBER);
        }
        if (!latest.fought) {
            return refuse(NONE_SUCH);
        }
        return answer(latest.report(what));
    }

    public boolean mean(int man, int seed, int many) {
        if (!army.isMan(man) || !within(many, 1, SEEDS) || !within(seed, 0, MOST_SEED + 1 - many)) {
            return deny(BAD_NUMBER);
        }
        if (!war.there) {
            return deny(NONE_SUCH);
        }
        long sum = 0;
        for (int i = 0; i < many; i++) {
            draftArmy.become(army);
            trial.fight(seed + i);
            sum += draftArmy.medals[man];
        }
        tell(sum, many);
        return allow();
    }

    // ---- MARKS

    public int mark() {
        if (!within(marks, 0, MARKS - 1)) {
            return refuse(TOO_MANY);
        }
        markedArmies[marks].become(army);
        markedWars[marks].become(war);
        marks++;
        return answer(marks);
    }

    public int undo() {
        if (!within(marks, 1, MARKS)) {
            return refuse(NONE_SUCH);
        }
        marks--;
        army.become(markedArmies[marks]);
        war.become(markedWars[marks]);
        return answer(marks);
    }

    // ---- answers

    private int answer(int value) {
        latestStatus = FINE;
        return value;
    }

    private int refuse(int status) {
        latestStatus = status;
        return NONE;
    }

    private boolean allow() {
        latestStatus = FINE;
        return true;
    }

    private boolean deny(int status) {
        latestStatus = status;
        return false;
    }

    private void tell(long over, long under) {
        long divisor = commonDivisor(over, under);
        if (divisor > 0) {
            fractionTop = over / divisor;
            fractionBottom = under / divisor;
        }
    }

    // ---- which STATUS a call has

    private Tray trayAt(int tray) {
        return within(tray, 0, TRAYS - 1) ? trays[tray] : null;
    }

    private int dangerRefusal(int man, int size) {
        if (!army.isMan(man) || !isSize(size)) {
            return BAD_NUMBER;
        }
        return army.lives(man) ? FINE : CANT_BE;
    }

    private int ordersRefusal(int man, Tray t, int n) {
        if (!army.isMan(man) || t == null || !within(n, 1, AHEAD)) {
            return BAD_NUMBER;
        }
        int refusal = t.sizesRefusal(n, 1);
        if (refusal != FINE) {
            return refusal;
        }
        return army.lives(man) ? FINE : CANT_BE;
    }

    private int gameRefusal(int man, int other, Tray t, int n) {
        boolean two = army.isMan(man) && army.isMan(other) && man != other;
        if (!two || t == null || !within(n, 0, AHEAD)) {
            return BAD_NUMBER;
        }
        int refusal = t.sizesRefusal(n, 1);
        if (refusal != FINE) {
            return refusal;
        }
        return army.lives(man) && army.lives(other) ? FINE : CANT_BE;
    }

    private int seenRefusal(int man, Tray t, int n) {
        if (!army.isMan(man) || t == null || !within(n, 0, TWOS)) {
            return BAD_NUMBER;
        }
        int refusal = t.sizesRefusal(n, 2);
        if (refusal != FINE) {
            return refusal;
        }
        for (int i = 0; i < n; i++) {
            long stood = t.at(2 * i + 1);
            if (stood != 0 && stood != 1) {
                return BAD_IN_TRAY;
            }
        }
        return FINE;
    }

    // ---- COURAGES as a set of 21

    private int fittingCourages(int man, Tray t, int n) {
        int fitting = 0;
        if (t == null || !army.isMan(man)) {
            return fitting;
        }
        for (int courage = 0; courage <= MOST_COURAGE; courage++) {
            int bravery = army.braveryWith(courage, army.medals[man]);
            boolean fits = true;
            for (int i = 0; i < n && fits; i++) {
                fits = (bravery >= t.at(2 * i)) == (t.at(2 * i + 1) == 1);
            }
            if (fits) {
                fitting |= 1 << courage;
            }
        }
        return fitting;
    }

    private int tellingSize(int medals, int fitting) {
        int best = 1;
        int all = Integer.bitCount(fitting);
        int leastGreater = all + 1;
        for (int size = 1; size <= MOST_SIZE; size++) {
            int standing = 0;
            for (int courage = 0; courage <= MOST_COURAGE; courage++) {
                if (holds(fitting, courage) && army.braveryWith(courage, medals) >= size) {
                    standing++;
                }
            }
            int greater = Math.max(standing, all - standing);
            if (greater < leastGreater) {
                leastGreater = greater;
                best = size;
            }
        }
        return best;
    }

    // ---- numbers

    private static boolean within(int v, int least, int greatest) {
        return v >= least && v <= greatest;
    }

    private static boolean isSize(int v) {
        return within(v, 1, MOST_SIZE);
    }

    private static boolean holds(int set, int member) {
        return within(member, 0, 30) && (set >> member & 1) != 0;
    }

    private static int firstOf(int set) {
        for (int i = 0; i <= MOST_COURAGE; i++) {
            if (holds(set, i)) {
                return i;
            }
        }
        return NONE;
    }

    private static int lastOf(int set) {
        for (int i = MOST_COURAGE; i >= 0; i--) {
            if (holds(set, i)) {
                return i;
            }
        }
        return NONE;
    }

    private static int sumOf(int[] row) {
        int sum = 0;
        for (int v : row) {
            sum += v;
        }
        return sum;
    }

    private static long commonDivisor(long a, long b) {
        long x = a;
        long y = b;
        for (int turn = 0; turn < 200 && y != 0; turn++) {
            long rest = x % y;
            x = y;
            y = rest;
        }
        return x;
    }

    private static long raised(long base, int times) {
        long product = 1;
        for (int i = 0; i < times; i++) {
            product *= base;
        }
        return product;
    }

    /** In how many of the 20 to the n-th ways k or more of n sizes are among the good ones. */
    private static long waysToStand(int good, int n, int k) {
        long sum = 0;
        long choices = 1;
        for (int j = 0; j <= n; j++) {
            if (j >= k) {
                sum += choices * raised(good, j) * raised(LUCK_SIZES - good, n - j);
            }
            choices = choices * (n - j) / (j + 1);
        }
        return sum;
    }

    /** A row of numbers of one sort. */
    private static final class Tray {
        final long[] row = new long[TRAY_ROOM];
        boolean missing = true;
        int sort = 0;
        int many = 0;

        void lay(int newSort, int newMany) {
            missing = false;
            sort = newSort;
            many = newMany;
            Arrays.fill(row, 0L);
        }

        boolean hasPlaces(int place, int count) {
            return place >= 0 && count >= 0 && count <= many && place <= many - count;
        }

        void put(int place, long v) {
            if (hasPlaces(place, 1)) {
                row[place] = cut(v);
            }
        }

        long at(int place) {
            return hasPlaces(place, 1) ? row[place] : 0L;
        }

        /** STATUS of n sizes that stand so many places apart. */
        int sizesRefusal(int n, int apart) {
            if (missing) {
                return MISSING;
            }
            if (!hasPlaces(0, n * apart)) {
                return NO_PLACE;
            }
            for (int i = 0; i < n; i++) {
                long size = at(i * apart);
                if (size < 1 || size > MOST_SIZE) {
                    return BAD_IN_TRAY;
                }
            }
            return FINE;
        }

        private long cut(long v) {
            switch (sort) {
                case 0:
                    return (byte) v;
                case 1:
                    return (short) v;
                case 2:
                    return (int) v;
                default:
                    return v;
            }
        }
    }

    /** The tape, and its first bytes as TOKENS, one at a time. */
    private static final class Tape {
        final byte[] bytes = new byte[TAPE_ROOM];
        final long[] wordCodes = new long[WORD_COUNT];
        int length = 0;
        int kind = T_END;
        int start = 0;
        int value = 0;
        int word = NONE;
        long name = NO_NAME;
        private int end = 0;
        private int at = 0;

        Tape() {
            long code = 0;
            int index = 0;
            for (int i = 0; i < WORDS.length(); i++) {
                char c = WORDS.charAt(i);
                if (c != ' ') {
                    code = code * 32 + (c - 'a' + 1);
                } else if (index < WORD_COUNT) {
                    wordCodes[index] = code;
                    code = 0;
                    index++;
                }
            }
        }

        int append(int a, int b, int c, int d, int e) {
            if (length > TAPE_ROOM - 20) {
                return NONE;
            }
            appendFour(a);
            appendFour(b);
            appendFour(c);
            appendFour(d);
            appendFour(e);
            return length;
        }

        private void appendFour(int four) {
            for (int shift = 24; shift >= 0 && length < TAPE_ROOM; shift -= 8) {
                bytes[length] = (byte) (four >> shift);
                length++;
            }
        }

        void rewind(int n) {
            end = Math.max(0, Math.min(n, TAPE_ROOM));
            at = 0;
        }

        void next() {
            while (at < end && (bytes[at] == 10 || bytes[at] == 32)) {
                at++;
            }
            start = at;
            word = NONE;
            name = NO_NAME;
            value = 0;
            if (at >= end) {
                kind = T_END;
            } else if (isLetter(bytes[at])) {
                takeLetters();
            } else if (isDigit(bytes[at])) {
                takeDigits();
            } else {
                value = bytes[at];
                kind = value == ';' || value == '<' || value == '>' || value == '=' ? T_SIGN : T_BAD;
                at++;
            }
        }

        private void takeLetters() {
            long code = 0;
            while (at < end && bytes[at] >= 'a' && bytes[at] <= 'z') {
                code = code * 32 + (bytes[at] - 'a' + 1);
                at++;
            }
            kind = T_WORD;
            // A longer WORD is no NAME and none of the WORDS that are kept: it stays without either.
            if (at - start <= NAME_LETTERS) {
                for (int i = 0; i < WORD_COUNT; i++) {
                    if (wordCodes[i] == code) {
                        word = i;
                    }
                }
                name = word == NONE ? code : NO_NAME;
            }
        }

        private void takeDigits() {
            while (at < end && bytes[at] >= '0' && bytes[at] <= '9') {
                value = value * 10 + (bytes[at] - '0');
                at++;
            }
            kind = at - start > 4 ? T_BAD : T_NUMBER;
        }

        private static boolean isLetter(int b) {
            return b >= 'a' && b <= 'z';
        }

        private static boolean isDigit(int b) {
            return b >= '0' && b <= '9';
        }
    }

    /** Takes TOKEN by TOKEN off the tape and keeps the FAULT. */
    private static final class Reader {
        final Tape tape = new Tape();
        int fault = NONE;
        int place = NONE;

        void begin(int n) {
            fault = 0;
            place = NONE;
            tape.rewind(n);
            tape.next();
        }

        boolean fail(int kind) {
            // Of one TOKEN the least kind: one that is none at all has no other FAULT.
            fault = tape.kind == T_BAD ? F_TOKEN : kind;
            place = tape.start;
            return false;
        }

        boolean atEnd() {
            return tape.kind == T_END;
        }

        boolean isSign(int sign) {
            return tape.kind == T_SIGN && tape.value == sign;
        }

        boolean takeSign(int sign) {
            if (!isSign(sign)) {
                return fail(F_PLACE);
            }
            tape.next();
            return true;
        }

        boolean takeWord(int word) {
            if (tape.word != word) {
                return fail(F_PLACE);
            }
            tape.next();
            return true;
        }

        /** A NUMBER in its bounds, or NONE with a FAULT. */
        int takeNumber(int least, int greatest) {
            int value = tape.value;
            if (tape.kind != T_NUMBER) {
                fail(F_PLACE);
                return NONE;
            }
            if (!within(value, least, greatest)) {
                fail(F_NUMBER);
                return NONE;
            }
            tape.next();
            return value;
        }

        /** The MAN whose NAME stands here, other than one, or NONE with a FAULT. */
        int takeMan(Army army, int butNot) {
            if (tape.name == NO_NAME) {
                fail(F_PLACE);
                return NONE;
            }
            int man = army.named(tape.name);
            if (man == NONE) {
                fail(F_NAME);
                return NONE;
            }
            if (man == butNot) {
                fail(F_AGAIN);
                return NONE;
            }
            tape.next();
            return man;
        }
    }

    /** An ARMY's text. */
    private static final class ArmyReader {
        private final Reader in;
        private final Army army;
        private boolean prideTold = false;
        private boolean quotaTold = false;

        ArmyReader(Reader reader, Army draft) {
            in = reader;
            army = draft;
        }

        boolean readDraft() {
            army.clear();
            prideTold = false;
            quotaTold = false;
            boolean good = true;
            for (int parts = 0; parts <= TAPE_ROOM && good && !in.atEnd(); parts++) {
                switch (in.tape.word) {
                    case W_PRIDE:
                        good = takePride();
                        break;
                    case W_QUOTA:
                        good = takeQuota();
                        break;
                    case W_MAN:
                        good = takeNewMan();
                        break;
                    case W_LIKES:
                        good = takeLikes();
                        break;
                    default:
                        good = in.fail(F_PLACE);
                }
            }
            return good;
        }

        private boolean takePride() {
            if (prideTold) {
                return in.fail(F_AGAIN);
            }
            prideTold = true;
            in.tape.next();
            army.pride = in.takeNumber(0, MOST_NINE);
            return army.pride != NONE && in.takeSign(';');
        }

        private boolean takeQuota() {
            if (quotaTold) {
                return in.fail(F_AGAIN);
            }
            quotaTold = true;
            in.tape.next();
            army.quota = in.takeNumber(1, 99);
            return army.quota != NONE && in.takeSign(';');
        }

        private boolean takeNewMan() {
            if (army.count >= MEN) {
                return in.fail(F_MANY);
            }
            in.tape.next();
            long name = in.tape.name;
            if (name == NO_NAME) {
                return in.fail(F_PLACE);
            }
            if (army.named(name) != NONE) {
                return in.fail(F_NAME);
            }
            in.tape.next();
            if (!in.takeWord(W_COURAGE)) {
                return false;
            }
            int courage = in.takeNumber(0, MOST_COURAGE);
            int weight = courage == NONE ? NONE : takeIfTold(W_WEIGHT, MOST_NINE, 1);
            int medals = weight == NONE ? NONE : takeIfTold(W_MEDALS, MOST_MEDALS, 0);
            if (medals == NONE || !in.takeSign(';')) {
                return false;
            }
            int man = army.add(name, courage, weight);
            if (man != NONE) {
                army.medals[man] = medals;
            }
            return true;
        }

        private int takeIfTold(int word, int greatest, int without) {
            if (in.tape.word != word) {
                return without;
            }
            in.tape.next();
            return in.takeNumber(0, greatest);
        }

        private boolean takeLikes() {
            in.tape.next();
            int man = in.takeMan(army, NONE);
            int other = man == NONE ? NONE : in.takeMan(army, man);
            int much = other == NONE ? NONE : in.takeNumber(0, MOST_NINE);
            if (much == NONE || !in.takeSign(';')) {
                return false;
            }
            army.setLiking(man, other, much);
            return true;
        }
    }

    /** A WAR's text. */
    private static final class WarReader {
        private final Reader in;
        private final War war;
        private final Army army;
        private final int[] open = new int[DEPTH];
        private int depth = 0;

        WarReader(Reader reader, War draft, Army men) {
            in = reader;
            war = draft;
            army = men;
        }

        boolean readDraft() {
            war.clear();
            war.there = true;
            depth = 0;
            boolean good = true;
            for (int parts = 0; parts <= WAR_ROOM && good && !in.atEnd(); parts++) {
                int word = in.tape.word;
                good = word == W_END ? takeEnd() : takeBegin(word) && takeRest(word) && takeLast(word);
            }
            if (good && depth > 0) {
                good = in.fail(F_PLACE);
            }
            return good;
        }

        private boolean takeEnd() {
            if (!within(depth, 1, DEPTH)) {
                return in.fail(F_PLACE);
            }
            in.tape.next();
            if (!in.takeSign(';')) {
                return false;
            }
            depth--;
            war.close(open[depth]);
            return true;
        }

        private boolean takeBegin(int word) {
            boolean deed = within(word, W_FACE, W_ANY) || word == W_STOP;
            if (!deed && !holdsOthers(word)) {
                return in.fail(F_PLACE);
            }
            if (war.steps >= WAR_STEPS || !within(war.rows, 0, WAR_ROWS - 1)) {
                return in.fail(F_MANY);
            }
            if (holdsOthers(word) && !within(depth, 0, DEPTH - 1)) {
                return in.fail(F_DEEP);
            }
            in.tape.next();
            return true;
        }

        private boolean takeLast(int word) {
            if (!in.takeSign(';')) {
                return false;
            }
            if (holdsOthers(word) && within(depth, 0, DEPTH - 1)) {
                open[depth] = war.rows;
                depth++;
            }
            war.step(word);
            return true;
        }

        private static boolean holdsOthers(int word) {
            return word == W_WHEN || word == W_LOOP;
        }

        /** What stands between a STEP's WORD and its last sign: into the row behind the WAR's last. */
        private boolean takeRest(int word) {
            int row = war.rows;
            if (!within(row, 0, WAR_ROWS - 1)) {
                return in.fail(F_MANY);
            }
            switch (word) {
                case W_FACE:
                    war.man[row] = in.takeMan(army, NONE);
                    war.number[row] = war.man[row] == NONE ? NONE : in.takeNumber(1, MOST_SIZE);
                    return war.number[row] != NONE;
                case W_GIVE:
                    war.man[row] = in.takeMan(army, NONE);
                    war.other[row] = war.man[row] == NONE ? NONE : in.takeMan(army, NONE);
                    return war.other[row] != NONE;
                case W_LOSE:
                case W_FALL:
                    war.man[row] = in.takeMan(army, NONE);
                    return war.man[row] != NONE;
                case W_WHEN:
                    return takeTest(row);
                case W_LOOP:
                    war.number[row] = in.takeNumber(1, 99);
                    return war.number[row] != NONE;
                default:
                    return true;
            }
        }

        private boolean takeTest(int row) {
            int test = in.tape.word;
            if (!within(test, W_BRAVE, W_FLED)) {
                return in.fail(F_PLACE);
            }
            war.other[row] = test;
            in.tape.next();
            war.man[row] = in.takeMan(army, NONE);
            if (war.man[row] == NONE) {
                return false;
            }
            if (!in.isSign('<') && !in.isSign('>') && !in.isSign('=')) {
                return in.fail(F_PLACE);
            }
            war.sign[row] = in.tape.value;
            in.tape.next();
            war.number[row] = in.takeNumber(0, 999);
            return war.number[row] != NONE;
        }
    }

    /** The MEN, and all that became of them. */
    private static final class Army {
        final long[] name = new long[MEN];
        final int[] courage = new int[MEN];
        final int[] weight = new int[MEN];
        final int[] medals = new int[MEN];
        final int[] stood = new int[MEN];
        final int[] fled = new int[MEN];
        final int[] liked = new int[MEN * MEN];
        final int[] votes = new int[MEN];
        int count = 0;
        int living = 0;
        int pride = 1;
        int quota = 50;
        int melted = 0;
        int lost = 0;

        void clear() {
            Arrays.fill(name, NO_NAME);
            Arrays.fill(courage, 0);
            Arrays.fill(weight, 0);
            Arrays.fill(medals, 0);
            Arrays.fill(stood, 0);
            Arrays.fill(fled, 0);
            count = 0;
            living = 0;
            pride = 1;
            quota = 50;
            melted = 0;
            lost = 0;
        }

        void become(Army other) {
            System.arraycopy(other.name, 0, name, 0, MEN);
            System.arraycopy(other.courage, 0, courage, 0, MEN);
            System.arraycopy(other.weight, 0, weight, 0, MEN);
            System.arraycopy(other.medals, 0, medals, 0, MEN);
            System.arraycopy(other.stood, 0, stood, 0, MEN);
            System.arraycopy(other.fled, 0, fled, 0, MEN);
            System.arraycopy(other.liked, 0, liked, 0, MEN * MEN);
            count = other.count;
            living = other.living;
            pride = other.pride;
            quota = other.quota;
            melted = other.melted;
            lost = other.lost;
        }

        int add(long newName, int newCourage, int newWeight) {
            if (!within(count, 0, MEN - 1)) {
                return NONE;
            }
            int man = count;
            name[man] = newName;
            courage[man] = newCourage;
            weight[man] = newWeight;
            medals[man] = 0;
            stood[man] = 0;
            fled[man] = 0;
            for (int other = 0; other < man; other++) {
                liked[man * MEN + other] = USUAL_LIKES;
                liked[other * MEN + man] = USUAL_LIKES;
            }
            liked[man * MEN + man] = 0;
            living |= 1 << man;
            count++;
            return man;
        }

        int named(long wanted) {
            for (int i = 0; i < count; i++) {
                if (name[i] == wanted) {
                    return i;
                }
            }
            return NONE;
        }

        boolean isMan(int man) {
            return man >= 0 && man < count;
        }

        boolean lives(int man) {
            return isMan(man) && (living >> man & 1) != 0;
        }

        int liking(int man, int other) {
            return isMan(man) && isMan(other) ? liked[man * MEN + other] : 0;
        }

        void setLiking(int man, int other, int much) {
            if (isMan(man) && isMan(other)) {
                liked[man * MEN + other] = much;
            }
        }

        int decorated() {
            int set = 0;
            for (int i = 0; i < count; i++) {
                if (medals[i] > 0) {
                    set |= 1 << i;
                }
            }
            return set;
        }

        int bravery(int man) {
            return isMan(man) ? braveryWith(courage[man], medals[man]) : 0;
        }

        int braveryWith(int someCourage, int someMedals) {
            int sum = someCourage + pride * someMedals;
            return sum > MOST_BRAVE ? MOST_BRAVE : sum;
        }

        boolean stands(int man, int size) {
            return bravery(man) >= size;
        }

        /** The living who WOULD RUN: the CANDIDATES, whoever it is that STOOD. */
        int runners(int size) {
            int set = 0;
            for (int i = 0; i < count; i++) {
                if ((living >> i & 1) != 0 && braveryWith(courage[i], medals[i]) < size) {
                    set |= 1 << i;
                }
            }
            return set;
        }

        /** CANDIDATES, if one STOOD, even one who WOULD RUN. */
        int othersWhoRun(int man, int size) {
            return isMan(man) ? runners(size) & ~(1 << man) : 0;
        }

        int choiceOf(int voter, int candidates) {
            int best = NONE;
            int mostLiked = NONE;
            if (voter < 0 || voter >= count) {
                return NONE;
            }
            for (int i = 0; i < count; i++) {
                int likes = liked[voter * MEN + i];
                if (i != voter && (candidates >> i & 1) != 0 && likes > mostLiked) {
                    mostLiked = likes;
                    best = i;
                }
            }
            return best;
        }

        int votesFor(int candidate, int candidates) {
            int sum = 0;
            for (int voter = 0; voter < count; voter++) {
                if ((living >> voter & 1) != 0 && choiceOf(voter, candidates) == candidate) {
                    sum += weight[voter];
                }
            }
            return sum;
        }

        int winnerOf(int candidates) {
            Arrays.fill(votes, 0);
            for (int voter = 0; voter < count; voter++) {
                int choice = (living >> voter & 1) != 0 ? choiceOf(voter, candidates) : NONE;
                if (choice != NONE) {
                    votes[choice] += weight[voter];
                }
            }
            int best = NONE;
            int mostVotes = NONE;
            for (int i = 0; i < count; i++) {
                if ((candidates >> i & 1) != 0 && votes[i] > mostVotes) {
                    mostVotes = votes[i];
                    best = i;
                }
            }
            return best;
        }

        /** FACE: whom the MEDAL goes to, or MELTED, or FLED. */
        int endure(int man, int size) {
            if (!isMan(man)) {
                return FLED;
            }
            if (bravery(man) < size) {
                fled[man]++;
                return FLED;
            }
            stood[man]++;
            int winner = winnerOf(runners(size));
            if (winner == NONE) {
                melted++;
                return MELTED;
            }
            if (!pin(winner)) {
                lost++;
            }
            return winner;
        }

        boolean pin(int man) {
            if (!isMan(man) || medals[man] >= MOST_MEDALS) {
                return false;
            }
            medals[man]++;
            return true;
        }

        void unpin(int man) {
            if (isMan(man) && medals[man] > 0) {
                medals[man]--;
            }
        }

        boolean handOver(int man, int other) {
            if (man == other || !lives(man) || !lives(other) || medals[man] == 0 || !pin(other)) {
                return false;
            }
            medals[man]--;
            return true;
        }

        boolean loseOne(int man) {
            if (!isMan(man) || medals[man] == 0) {
                return false;
            }
            medals[man]--;
            lost++;
            return true;
        }

        boolean strike(int man) {
            if (!lives(man)) {
                return false;
            }
            living &= ~(1 << man);
            return true;
        }

        int weightOf(int set) {
            int sum = 0;
            for (int i = 0; i < count; i++) {
                if ((set >> i & 1) != 0) {
                    sum += weight[i];
                }
            }
            return sum;
        }

        boolean isCarriedBy(int set) {
            return weightOf(set) * 100 > quota * weightOf(living);
        }
    }

    /** Who CARRIES a BOARD, over all sets and orders of the living. */
    private static final class Council {
        /** The least of the smallest sets that CARRY, or NONE. */
        static int fewestOf(Army army) {
            int best = NONE;
            int fewest = MEN + 1;
            for (int set = 1; set <= army.living; set++) {
                int size = Integer.bitCount(set);
                if ((set & ~army.living) == 0 && size < fewest && army.isCarriedBy(set)) {
                    fewest = size;
                    best = set;
                }
            }
            return best;
        }

        static int ordersOf(int men) {
            return within(men, 0, MEN) ? ORDERS[men] : 1;
        }

        static int ordersCarriedBy(Army army, int man) {
            int others = army.living & ~(1 << man);
            int all = Integer.bitCount(others);
            int orders = 0;
            for (int ahead = 0; ahead <= others; ahead++) {
                boolean possible = (ahead & ~others) == 0;
                if (possible && !army.isCarriedBy(ahead) && army.isCarriedBy(ahead | 1 << man)) {
                    int size = Integer.bitCount(ahead);
                    orders += ordersOf(size) * ordersOf(all - size);
                }
            }
            return orders;
        }

        static int mightiestOf(Army army) {
            int best = NONE;
            int mostOrders = NONE;
            for (int man = 0; man < army.count; man++) {
                int orders = army.lives(man) ? ordersCarriedBy(army, man) : NONE;
                if (orders > mostOrders) {
                    mostOrders = orders;
                    best = man;
                }
            }
            return best;
        }
    }

    /**
     * DANGERS that come one behind the other, tried on an ARMY of its own.
     *
     * <p>Whoever STOOD, the MEDAL goes to the same MAN; so a DANGER has but two ways: somebody stands, or nobody.
     */
    private static final class Foresight {
        private final Army men = new Army();
        private final int[] sizes = new int[AHEAD];
        private int dangers = 0;

        void look(Army army, Tray tray, int n) {
            men.become(army);
            dangers = tray == null ? 0 : Math.max(0, Math.min(n, AHEAD));
            for (int i = 0; i < dangers; i++) {
                sizes[i] = (int) tray.at(i);
            }
        }

        int mostFor(int man) {
            return men.isMan(man) ? mostFrom(man, 0) - men.medals[man] : 0;
        }

        int facerOf(int man, int k) {
            int facer = NONE;
            for (int i = 0; men.isMan(man) && i <= k && i < dangers; i++) {
                facer = firstBestFacer(man, i);
                if (i < k && men.stands(facer, sizes[i])) {
                    men.pin(men.winnerOf(men.runners(sizes[i])));
                }
            }
            return facer;
        }

        private int firstBestFacer(int man, int k) {
            int runners = men.runners(sizes[k]);
            int runner = firstOf(runners);
            int stander = firstOf(men.living & ~runners);
            if (runner == NONE || stander == NONE) {
                return Math.max(runner, stander);
            }
            int fled = mostFrom(man, k + 1);
            int stood = mostIfStood(man, k, runners);
            if (fled == stood) {
                return Math.min(runner, stander);
            }
            return fled > stood ? runner : stander;
        }

        /** The most MEDALS one can have at the end, the DANGERS from k on being left. */
        private int mostFrom(int man, int k) {
            if (k >= dangers) {
                return men.medals[man];
            }
            int runners = men.runners(sizes[k]);
            int fled = runners == 0 ? NONE : mostFrom(man, k + 1);
            int stood = runners == men.living ? NONE : mostIfStood(man, k, runners);
            return Math.max(fled, stood);
        }

        private int mostIfStood(int man, int k, int runners) {
            int winner = men.winnerOf(runners);
            boolean pinned = men.pin(winner);
            int most = mostFrom(man, k + 1);
            if (pinned) {
                men.unpin(winner);
            }
            return most;
        }

        int valueFor(int man, int other) {
            return men.isMan(man) && men.isMan(other) ? valueFrom(man, other, 0) : 0;
        }

        /** 1 or 0; NONE if one WOULD RUN. */
        int moveFor(int man, int other) {
            if (dangers == 0 || !men.isMan(man) || !men.isMan(other) || !men.stands(man, sizes[0])) {
                return NONE;
            }
            return valueIfStood(man, other, 0) >= valueFrom(man, other, 1) ? 1 : 0;
        }

        private int valueFrom(int man, int other, int k) {
            if (k >= dangers) {
                return men.medals[man] - men.medals[other];
            }
            boolean ofFirst = k % 2 == 0;
            int fled = valueFrom(man, other, k + 1);
            if (!men.stands(ofFirst ? man : other, sizes[k])) {
                return fled;
            }
            int stood = valueIfStood(man, other, k);
            return ofFirst ? Math.max(fled, stood) : Math.min(fled, stood);
        }

        private int valueIfStood(int man, int other, int k) {
            int winner = men.winnerOf(men.runners(sizes[k]));
            boolean pinned = men.pin(winner);
            int value = valueFrom(man, other, k + 1);
            if (pinned) {
                men.unpin(winner);
            }
            return value;
        }
    }

    /** PAIRS of those who WOULD STAND with those who WOULD RUN. */
    private static final class Pairs {
        private final int[] heroes = new int[MEN];
        private final int[] tried = new int[MEN];
        private final int[] chosen = new int[MEN];
        private final Army army;
        private int heroCount = 0;
        int couples = 0;
        int fondest = 0;

        Pairs(Army men) {
            army = men;
        }

        void match(int size) {
            int cowards = army.runners(size);
            heroCount = 0;
            for (int i = 0; i < army.count; i++) {
                if (army.lives(i) && (cowards >> i & 1) == 0) {
                    heroes[heroCount] = i;
                    heroCount++;
                }
            }
            couples = Math.min(heroCount, Integer.bitCount(cowards));
            fondest = NONE;
            search(0, cowards, heroCount - couples, 0);
        }

        /** All ways from the k-th hero on, the first in order first: so of several the first stays. */
        private void search(int k, int free, int alone, int fond) {
            if (k >= heroCount) {
                if (fond > fondest) {
                    fondest = fond;
                    System.arraycopy(tried, 0, chosen, 0, MEN);
                }
                return;
            }
            int hero = heroes[k];
            for (int i = 0; i < army.count; i++) {
                if ((free >> i & 1) != 0) {
                    tried[k] = i;
                    search(k + 1, free & ~(1 << i), alone, fond + army.liking(hero, i) + army.liking(i, hero));
                }
            }
            if (alone > 0) {
                tried[k] = NONE;
                search(k + 1, free, alone - 1, fond);
            }
        }

        int partnerOf(int man) {
            for (int k = 0; k < heroCount; k++) {
                if (heroes[k] == man) {
                    return chosen[k];
                }
                if (chosen[k] == man) {
                    return heroes[k];
                }
            }
            return NONE;
        }
    }

    /** A WAR in rows: its STEPS, and the ends of those that hold others. */
    private static final class War {
        final int[] deed = new int[WAR_ROWS];
        final int[] man = new int[WAR_ROWS];
        final int[] other = new int[WAR_ROWS];
        final int[] sign = new int[WAR_ROWS];
        final int[] number = new int[WAR_ROWS];
        /** Of a STEP that holds others its end's row, of an end that STEP's row. */
        final int[] mate = new int[WAR_ROWS];
        boolean there = false;
        int rows = 0;
        int steps = 0;

        void clear() {
            there = false;
            rows = 0;
            steps = 0;
        }

        void become(War from) {
            System.arraycopy(from.deed, 0, deed, 0, WAR_ROWS);
            System.arraycopy(from.man, 0, man, 0, WAR_ROWS);
            System.arraycopy(from.other, 0, other, 0, WAR_ROWS);
            System.arraycopy(from.sign, 0, sign, 0, WAR_ROWS);
            System.arraycopy(from.number, 0, number, 0, WAR_ROWS);
            System.arraycopy(from.mate, 0, mate, 0, WAR_ROWS);
            there = from.there;
            rows = from.rows;
            steps = from.steps;
        }

        /** The row behind the last, filled already, is a STEP from now on. */
        void step(int word) {
            if (within(rows, 0, WAR_ROWS - 1)) {
                deed[rows] = word;
                rows++;
                steps++;
            }
        }

        void close(int opener) {
            if (within(rows, 0, WAR_ROWS - 1) && within(opener, 0, WAR_ROWS - 1)) {
                deed[rows] = W_END;
                mate[rows] = opener;
                mate[opener] = rows;
                rows++;
            }
        }
    }

    /** A WAR as it is LIVED, and what is told of it. */
    private static final class Campaign {
        private final int[] roundsLeft = new int[WAR_ROWS];
        private final Army army;
        private final War war;
        private int drawn = 0;
        boolean fought = false;
        int steps = 0;
        private int missed = 0;
        private int stood = 0;
        private int fled = 0;
        private int pinned = 0;
        private int left = 0;

        Campaign(Army men, War plan) {
            army = men;
            war = plan;
        }

        void fight(int seed) {
            begin(seed);
            int at = 0;
            for (int turn = 0; turn < FAR && within(at, 0, war.rows - 1); turn++) {
                if (war.deed[at] == W_END) {
                    at = behindEnd(at);
                } else if (steps < MOST_DONE) {
                    steps++;
                    at = behindStep(at);
                } else {
                    left = 1;
                    return;
                }
            }
        }

        private void begin(int seed) {
            drawn = seed;
            fought = true;
            steps = 0;
            missed = 0;
            stood = 0;
            fled = 0;
            pinned = 0;
            left = 0;
        }

        private int behindEnd(int at) {
            int opener = war.mate[at];
            if (!within(opener, 0, WAR_ROWS - 1) || war.deed[opener] != W_LOOP) {
                return at + 1;
            }
            roundsLeft[opener]--;
            return roundsLeft[opener] > 0 ? opener + 1 : at + 1;
        }

        private int behindStep(int at) {
            int man = war.man[at];
            switch (war.deed[at]) {
                case W_FACE:
                    faceDanger(man, war.number[at]);
                    break;
                case W_GIVE:
                    countMiss(army.handOver(man, war.other[at]));
                    break;
                case W_LOSE:
                    countMiss(army.loseOne(man));
                    break;
                case W_FALL:
                    countMiss(army.strike(man));
                    break;
                case W_ANY:
                    if (army.count > 0) {
                        man = drawBy(army.count);
                        faceDanger(man, 1 + drawBy(LUCK_SIZES));
                    } else {
                        missed++;
                    }
                    break;
                case W_WHEN:
                    return testHolds(at) ? at + 1 : war.mate[at] + 1;
                case W_LOOP:
                    roundsLeft[at] = war.number[at];
                    break;
                default:
                    return war.rows;
            }
            return at + 1;
        }

        private void countMiss(boolean done) {
            if (!done) {
                missed++;
            }
        }

        private void faceDanger(int man, int size) {
            if (!army.lives(man)) {
                missed++;
                return;
            }
            int came = army.endure(man, size);
            if (came == FLED) {
                fled++;
                return;
            }
            stood++;
            if (came != MELTED) {
                pinned++;
            }
        }

        private int drawBy(int n) {
            drawn = (drawn * 3109 + 11321) % 65536;
            return n > 0 ? drawn / 8 % n : 0;
        }

        private boolean testHolds(int at) {
            int man = war.man[at];
            if (!army.isMan(man)) {
                return false;
            }
            int value = army.medals[man];
            if (war.other[at] == W_BRAVE) {
                value = army.bravery(man);
            } else if (war.other[at] == W_FLED) {
                value = army.fled[man];
            }
            switch (war.sign[at]) {
                case '<':
                    return value < war.number[at];
                case '>':
                    return value > war.number[at];
                default:
                    return value == war.number[at];
            }
        }

        int report(int what) {
            switch (what) {
                case 0:
                    return missed;
                case 1:
                    return stood;
                case 2:
                    return fled;
                case 3:
                    return pinned;
                default:
                    return left;
            }
        }
    }
}
