import java.io.ByteArrayOutputStream;
import java.math.BigInteger;
import java.nio.charset.StandardCharsets;
import java.util.ArrayList;
import java.util.Arrays;
import java.util.List;
import java.util.function.IntPredicate;
import java.util.regex.Matcher;
import java.util.regex.Pattern;

/**
 * The document once more, written to be compared with: by copies, exceptions and by trying all ways.
 *
 * <p>Nothing here is shared with the class that is tested.
 */
public final class Model {
    private static final List<String> KEPT = List.of("pride", "quota", "man", "courage", "weight", "medals", "likes", "face",
        "give", "lose", "fall", "any", "when", "brave", "worn", "fled", "loop", "end", "stop");
    private static final Pattern TOKEN = Pattern.compile("[a-z]+|[0-9]+|[;<>=]");

    /** A call that has another STATUS than 0. */
    private static final class Refused extends RuntimeException {
        private static final long serialVersionUID = 1;
        private final int status;

        Refused(int status) {
            super(null, null, false, false);
            this.status = status;
        }
    }

    private static final class Fault extends RuntimeException {
        private static final long serialVersionUID = 1;
        private final int kind;
        private final int place;

        Fault(int kind, int place) {
            super(null, null, false, false);
            this.kind = kind;
            this.place = place;
        }
    }

    /** A WAR that is over ahead of its text. */
    private static final class Over extends RuntimeException {
        private static final long serialVersionUID = 1;

        Over() {
            super(null, null, false, false);
        }
    }

    private static final class Man {
        private String name = null;
        private int courage;
        private int weight;
        private int medals;
        private int stood;
        private int fled;
        private boolean lives = true;
        private int[] likes = {5, 5, 5, 5, 5, 5, 5, 5};

        private Man copy() {
            Man m = new Man();
            m.name = name;
            m.courage = courage;
            m.weight = weight;
            m.medals = medals;
            m.stood = stood;
            m.fled = fled;
            m.lives = lives;
            m.likes = likes.clone();
            return m;
        }
    }

    private static final class Step {
        private String word;
        private String test;
        private int man;
        private int other;
        private char sign;
        private int number;
        private final List<Step> held = new ArrayList<>();
    }

    private static final class State {
        private int pride = 1;
        private int quota = 50;
        private int melted;
        private int lost;
        private List<Man> men = new ArrayList<>();
        private List<Step> war = null;

        private State copy() {
            State s = new State();
            s.pride = pride;
            s.quota = quota;
            s.melted = melted;
            s.lost = lost;
            for (Man m : men) {
                s.men.add(m.copy());
            }
            s.war = war;
            return s;
        }

        private int brave(int man) {
            return Math.min(99, men.get(man).courage + pride * men.get(man).medals);
        }

        private boolean stands(int man, int size) {
            return brave(man) >= size;
        }

        private List<Integer> living() {
            List<Integer> all = new ArrayList<>();
            for (int i = 0; i < men.size(); i++) {
                if (men.get(i).lives) {
                    all.add(i);
                }
            }
            return all;
        }

        private List<Integer> candidates(int man, int size) {
            List<Integer> all = living();
            all.removeIf(m -> m == man || stands(m, size));
            return all;
        }

        private int voteOf(int voter, int man, int size) {
            int best = -1;
            for (int c : candidates(man, size)) {
                if (c != voter && (best < 0 || men.get(voter).likes[c] > men.get(voter).likes[best])) {
                    best = c;
                }
            }
            return best;
        }

        private int votes(int candidate, int man, int size) {
            int sum = 0;
            for (int voter : living()) {
                sum += voteOf(voter, man, size) == candidate ? men.get(voter).weight : 0;
            }
            return sum;
        }

        private int goesTo(int man, int size) {
            int best = -1;
            for (int c : candidates(man, size)) {
                if (best < 0 || votes(c, man, size) > votes(best, man, size)) {
                    best = c;
                }
            }
            return best;
        }

        private int face(int man, int size) {
            if (!stands(man, size)) {
                men.get(man).fled++;
                return 9;
            }
            int to = goesTo(man, size);
            men.get(man).stood++;
            if (to < 0) {
                melted++;
                return 8;
            }
            men.get(to).medals++;
            if (men.get(to).medals > 99) {
                men.get(to).medals = 99;
                lost++;
            }
            return to;
        }

        private boolean give(int man, int other) {
            Man a = men.get(man);
            Man b = men.get(other);
            if (a == b || !a.lives || !b.lives || a.medals < 1 || b.medals > 98) {
                return false;
            }
            a.medals--;
            b.medals++;
            return true;
        }

        private boolean lose(int man) {
            if (men.get(man).medals < 1) {
                return false;
            }
            men.get(man).medals--;
            lost++;
            return true;
        }

        private boolean fall(int man) {
            boolean lived = men.get(man).lives;
            men.get(man).lives = false;
            return lived;
        }

        private boolean carries(List<Integer> set) {
            int sum = 0;
            int all = 0;
            for (int m : living()) {
                all += men.get(m).weight;
                sum += set.contains(m) ? men.get(m).weight : 0;
            }
            return sum * 100 > quota * all;
        }
    }

    private static final class Tray {
        private final int sort;
        private final long[] row;

        Tray(int sort, int many) {
            this.sort = sort;
            row = new long[many];
        }
    }

    /** A WAR that is being LIVED. */
    private static final class Run {
        private final State state;
        private long s;
        private final int[] told = new int[5];
        private int steps;

        Run(State state, int seed) {
            this.state = state;
            s = seed;
        }

        private int draw(int n) {
            s = (s * 3109 + 11321) % 65536;
            return (int) (s / 8 % n);
        }

        private void all() {
            try {
                inOrder(state.war);
            } catch (Over e) {
                return;
            }
        }

        private void inOrder(List<Step> list) {
            for (Step step : list) {
                if (steps == 300) {
                    told[4] = 1;
                    throw new Over();
                }
                steps++;
                one(step);
            }
        }

        private void one(Step step) {
            switch (step.word) {
                case "face" -> face(step.man, step.number);
                case "give" -> miss(!state.give(step.man, step.other));
                case "lose" -> miss(!state.lose(step.man));
                case "fall" -> miss(!state.fall(step.man));
                case "any" -> any();
                case "when" -> {
                    if (holds(step)) {
                        inOrder(step.held);
                    }
                }
                case "loop" -> {
                    for (int i = 0; i < step.number; i++) {
                        inOrder(step.held);
                    }
                }
                default -> throw new Over();
            }
        }

        private boolean holds(Step step) {
            Man m = state.men.get(step.man);
            int v = step.test.equals("brave") ? state.brave(step.man) : step.test.equals("worn") ? m.medals : m.fled;
            return step.sign == '<' ? v < step.number : step.sign == '>' ? v > step.number : v == step.number;
        }

        private void any() {
            if (state.men.isEmpty()) {
                miss(true);
                return;
            }
            int man = draw(state.men.size());
            int size = draw(20) + 1;
            face(man, size);
        }

        private void miss(boolean missed) {
            told[0] += missed ? 1 : 0;
        }

        private void face(int man, int size) {
            if (!state.men.get(man).lives) {
                miss(true);
                return;
            }
            int came = state.face(man, size);
            told[1] += came != 9 ? 1 : 0;
            told[2] += came == 9 ? 1 : 0;
            told[3] += came < 8 ? 1 : 0;
        }
    }

    /** Both texts, by descent. */
    private final class Text {
        private final String text;
        private int at = 0;
        private int steps = 0;

        Text(String text) {
            this.text = text;
        }

        private void blanks() {
            while (at < text.length() && (text.charAt(at) == 10 || text.charAt(at) == 32)) {
                at++;
            }
        }

        /** The TOKEN that comes, "" at the end. */
        private String look() {
            blanks();
            if (at == text.length()) {
                return "";
            }
            Matcher m = TOKEN.matcher(text).region(at, text.length());
            if (!m.lookingAt() || Character.isDigit(m.group().charAt(0)) && m.group().length() > 4) {
                throw new Fault(1, at);
            }
            return m.group();
        }

        private boolean comes(String token) {
            return look().equals(token);
        }

        private void skip() {
            at += look().length();
        }

        private void take(String token) {
            if (!comes(token)) {
                throw new Fault(2, at);
            }
            skip();
        }

        private int number(int least, int greatest) {
            String t = look();
            if (!t.matches("[0-9]+")) {
                throw new Fault(2, at);
            }
            int v = Integer.parseInt(t);
            if (v < least || v > greatest) {
                throw new Fault(4, at);
            }
            skip();
            return v;
        }

        private String name() {
            String t = look();
            if (!t.matches("[a-z]{1,8}") || KEPT.contains(t)) {
                throw new Fault(2, at);
            }
            return t;
        }

        private int find(State s, String name) {
            for (int i = 0; i < s.men.size(); i++) {
                if (name.equals(s.men.get(i).name)) {
                    return i;
                }
            }
            return -1;
        }

        private int known(State s, int butNot) {
            int man = find(s, name());
            if (man < 0) {
                throw new Fault(3, at);
            }
            if (man == butNot) {
                throw new Fault(5, at);
            }
            skip();
            return man;
        }

        private State army() {
            State s = new State();
            boolean pride = false;
            boolean quota = false;
            while (!comes("")) {
                if (comes("pride")) {
                    again(pride);
                    pride = true;
                    skip();
                    s.pride = number(0, 9);
                } else if (comes("quota")) {
                    again(quota);
                    quota = true;
                    skip();
                    s.quota = number(1, 99);
                } else if (comes("man")) {
                    s.men.add(man(s));
                } else {
                    take("likes");
                    int man = known(s, -1);
                    int other = known(s, man);
                    s.men.get(man).likes[other] = number(0, 9);
                }
                take(";");
            }
            return s;
        }

        private void again(boolean told) {
            if (told) {
                throw new Fault(5, at);
            }
        }

        private Man man(State s) {
            if (s.men.size() == 8) {
                throw new Fault(6, at);
            }
            skip();
            Man m = new Man();
            m.name = name();
            if (find(s, m.name) >= 0) {
                throw new Fault(3, at);
            }
            skip();
            take("courage");
            m.courage = number(0, 20);
            m.weight = 1;
            if (comes("weight")) {
                skip();
                m.weight = number(0, 9);
            }
            if (comes("medals")) {
                skip();
                m.medals = number(0, 99);
            }
            return m;
        }

        private List<Step> steps(int depth) {
            List<Step> list = new ArrayList<>();
            while (depth == 0 ? !comes("") : !comes("end")) {
                list.add(step(depth));
            }
            return list;
        }

        private Step step(int depth) {
            Step step = new Step();
            step.word = look();
            boolean holds = step.word.equals("when") || step.word.equals("loop");
            if (!holds && !List.of("face", "give", "lose", "fall", "any", "stop").contains(step.word)) {
                throw new Fault(2, at);
            }
            if (steps == 30) {
                throw new Fault(6, at);
            }
            if (holds && depth == 3) {
                throw new Fault(7, at);
            }
            steps++;
            skip();
            switch (step.word) {
                case "face" -> {
                    step.man = known(state, -1);
                    step.number = number(1, 99);
                }
                case "give" -> {
                    step.man = known(state, -1);
                    step.other = known(state, -1);
                }
                case "lose", "fall" -> step.man = known(state, -1);
                case "when" -> test(step);
                case "loop" -> step.number = number(1, 99);
                default -> { }
            }
            take(";");
            if (holds) {
                step.held.addAll(steps(depth + 1));
                take("end");
                take(";");
            }
            return step;
        }

        private void test(Step step) {
            step.test = look();
            if (!List.of("brave", "worn", "fled").contains(step.test)) {
                throw new Fault(2, at);
            }
            skip();
            step.man = known(state, -1);
            if (!comes("<") && !comes(">") && !comes("=")) {
                throw new Fault(2, at);
            }
            step.sign = look().charAt(0);
            skip();
            step.number = number(0, 999);
        }
    }

    private State state = new State();
    private final Tray[] trays = new Tray[4];
    private ByteArrayOutputStream tape = new ByteArrayOutputStream();
    private int faultKind = -1;
    private int faultPlace = -1;
    private int status = 0;
    private BigInteger top = BigInteger.ZERO;
    private BigInteger bottom = BigInteger.ONE;
    private final List<State> marks = new ArrayList<>();
    private Run latest = null;

    private interface Answer {
        long get();
    }

    private long by(Answer answer, long refusal) {
        try {
            long v = answer.get();
            status = 0;
            return v;
        } catch (Refused r) {
            status = r.status;
            return refusal;
        }
    }

    private int ask(Answer answer) {
        return (int) by(answer, -1);
    }

    private boolean tell(Answer answer) {
        return by(answer, 0) != 0;
    }

    private static void need(boolean good, int elseStatus) {
        if (!good) {
            throw new Refused(elseStatus);
        }
    }

    private void fraction(BigInteger over, BigInteger under) {
        BigInteger d = over.gcd(under);
        top = over.divide(d);
        bottom = under.divide(d);
    }

    private boolean isMan(int man) {
        return man >= 0 && man < state.men.size();
    }

    private static boolean isSize(long size) {
        return size >= 1 && size <= 99;
    }

    private boolean lives(int man) {
        return state.men.get(man).lives;
    }

    private static int set(List<Integer> members) {
        int v = 0;
        for (int m : members) {
            v |= 1 << m;
        }
        return v;
    }

    private static List<Integer> members(int set) {
        List<Integer> list = new ArrayList<>();
        for (int i = 0; i < 8; i++) {
            if ((set & 1 << i) != 0) {
                list.add(i);
            }
        }
        return list;
    }

    /** How many MEN there are, without a STATUS. */
    int headCount() {
        return state.men.size();
    }

    public int status() {
        return status;
    }

    public long top() {
        return top.longValueExact();
    }

    public long bottom() {
        return bottom.longValueExact();
    }

    public boolean tray(int tray, int sort, int many) {
        return tell(() -> {
            need(tray >= 0 && tray < 4 && sort >= 0 && sort < 4 && many >= 0 && many <= 60, 1);
            trays[tray] = new Tray(sort, many);
            return 1;
        });
    }

    private Tray there(int tray) {
        need(tray >= 0 && tray < 4, 1);
        need(trays[tray] != null, 2);
        return trays[tray];
    }

    public boolean write(int tray, int place, long v) {
        return tell(() -> {
            Tray t = there(tray);
            need(place >= 0 && place < t.row.length, 3);
            int gone = 64 - (8 << t.sort);
            t.row[place] = v << gone >> gone;
            return 1;
        });
    }

    public long read(int tray, int place) {
        return by(() -> {
            Tray t = there(tray);
            need(place >= 0 && place < t.row.length, 3);
            return t.row[place];
        }, -1);
    }

    public boolean pour(int from, int place, int to, int at, int many) {
        return tell(() -> {
            need(from >= 0 && from < 4 && to >= 0 && to < 4 && place >= 0 && at >= 0 && many >= 0, 1);
            Tray a = trays[from];
            Tray b = trays[to];
            need(a != null && b != null, 2);
            need(a.sort == b.sort, 8);
            need((long) place + many <= a.row.length && (long) at + many <= b.row.length, 3);
            long[] old = a.row.clone();
            for (int i = 0; i < many; i++) {
                b.row[at + i] = old[place + i];
            }
            return 1;
        });
    }

    public int feed(int a, int b, int c, int d, int e) {
        if (tape.size() + 20 > 900) {
            return -1;
        }
        for (int four : new int[] {a, b, c, d, e}) {
            tape.write(four >>> 24);
            tape.write(four >>> 16 & 255);
            tape.write(four >>> 8 & 255);
            tape.write(four & 255);
        }
        return tape.size();
    }

    private Text taken(int n) {
        String text = new String(tape.toByteArray(), StandardCharsets.ISO_8859_1).substring(0, n);
        tape.reset();
        faultKind = 0;
        faultPlace = -1;
        return new Text(text);
    }

    private Refused faulty(Fault f) {
        faultKind = f.kind;
        faultPlace = f.place;
        return new Refused(9);
    }

    public int army(int n) {
        return ask(() -> {
            need(n >= 0 && n <= tape.size(), 1);
            try {
                state = taken(n).army();
            } catch (Fault f) {
                throw faulty(f);
            }
            return state.men.size();
        });
    }

    public int war(int n) {
        return ask(() -> {
            need(n >= 0 && n <= tape.size() && n <= 300, 1);
            Text text = taken(n);
            try {
                state.war = text.steps(0);
            } catch (Fault f) {
                throw faulty(f);
            }
            return text.steps;
        });
    }

    public int fault(int what) {
        return what == 0 ? faultKind : what == 1 ? faultPlace : -1;
    }

    public int told(int what) {
        return ask(() -> {
            need(what >= 0 && what <= 9, 1);
            int[] sums = new int[3];
            List<Integer> decorated = new ArrayList<>();
            for (int i = 0; i < state.men.size(); i++) {
                Man m = state.men.get(i);
                sums[0] += m.medals;
                sums[1] += m.stood;
                sums[2] += m.fled;
                if (m.medals > 0) {
                    decorated.add(i);
                }
            }
            return new int[] {state.men.size(), state.pride, state.quota, set(state.living()), set(decorated), sums[0],
                state.melted, state.lost, sums[1], sums[2]}[what];
        });
    }

    public int man(int man, int what) {
        return ask(() -> {
            need(isMan(man) && what >= 0 && what <= 6, 1);
            Man m = state.men.get(man);
            return new int[] {m.courage, m.weight, m.medals, m.stood, m.fled, m.lives ? 1 : 0, state.brave(man)}[what];
        });
    }

    public int likes(int man, int other) {
        return ask(() -> {
            need(isMan(man) && isMan(other), 1);
            need(man != other, 7);
            return state.men.get(man).likes[other];
        });
    }

    public int face(int man, int size) {
        return ask(() -> {
            need(isMan(man) && isSize(size), 1);
            need(lives(man), 7);
            return state.face(man, size);
        });
    }

    public int give(int man, int other) {
        return ask(() -> {
            need(isMan(man) && isMan(other), 1);
            need(state.give(man, other), 7);
            return state.men.get(other).medals;
        });
    }

    public int lose(int man) {
        return ask(() -> {
            need(isMan(man), 1);
            need(state.lose(man), 7);
            return state.men.get(man).medals;
        });
    }

    public int fall(int man) {
        return ask(() -> {
            need(isMan(man), 1);
            need(state.fall(man), 7);
            return state.living().size();
        });
    }

    public int enlist(int courage, int weight) {
        return ask(() -> {
            need(courage >= 0 && courage <= 20 && weight >= 0 && weight <= 9, 1);
            need(state.men.size() < 8, 4);
            Man m = new Man();
            m.courage = courage;
            m.weight = weight;
            state.men.add(m);
            return state.men.size() - 1;
        });
    }

    public boolean train(int man, int courage) {
        return tell(() -> {
            need(isMan(man) && courage >= 0 && courage <= 20, 1);
            state.men.get(man).courage = courage;
            return 1;
        });
    }

    public boolean weigh(int man, int weight) {
        return tell(() -> {
            need(isMan(man) && weight >= 0 && weight <= 9, 1);
            state.men.get(man).weight = weight;
            return 1;
        });
    }

    public boolean charm(int man, int other, int much) {
        return tell(() -> {
            need(isMan(man) && isMan(other) && much >= 0 && much <= 9, 1);
            need(man != other, 7);
            state.men.get(man).likes[other] = much;
            return 1;
        });
    }

    public boolean rule(int what, int much) {
        return tell(() -> {
            need(what == 1 && much >= 0 && much <= 9 || what == 2 && much >= 1 && much <= 99, 1);
            if (what == 1) {
                state.pride = much;
            } else {
                state.quota = much;
            }
            return 1;
        });
    }

    public int brave(int size) {
        return ask(() -> {
            need(isSize(size), 1);
            List<Integer> all = state.living();
            all.removeIf(m -> !state.stands(m, size));
            return set(all);
        });
    }

    public int limit(int man) {
        return ask(() -> {
            need(isMan(man), 1);
            need(lives(man), 7);
            for (int size = 1; size <= 99; size++) {
                if (!state.stands(man, size)) {
                    return size;
                }
            }
            throw new Refused(6);
        });
    }

    public int candidates(int man, int size) {
        return ask(() -> {
            need(isMan(man) && isSize(size), 1);
            need(lives(man), 7);
            return set(state.candidates(man, size));
        });
    }

    public int voteOf(int voter, int man, int size) {
        return ask(() -> {
            need(isMan(voter) && isMan(man) && isSize(size), 1);
            need(lives(voter) && lives(man), 7);
            int choice = state.voteOf(voter, man, size);
            need(choice >= 0, 6);
            return choice;
        });
    }

    public int votes(int candidate, int man, int size) {
        return ask(() -> {
            need(isMan(candidate) && isMan(man) && isSize(size), 1);
            need(lives(man) && state.candidates(man, size).contains(candidate), 7);
            return state.votes(candidate, man, size);
        });
    }

    public int goesTo(int man, int size) {
        return ask(() -> {
            need(isMan(man) && isSize(size), 1);
            need(lives(man), 7);
            int to = state.goesTo(man, size);
            need(to >= 0, 6);
            return to;
        });
    }

    public int carries(int men) {
        return ask(() -> {
            need(men >= 0 && men < 1 << state.men.size(), 1);
            need(state.living().containsAll(members(men)), 7);
            return state.carries(members(men)) ? 1 : 0;
        });
    }

    private List<List<Integer>> carrying() {
        List<List<Integer>> all = new ArrayList<>();
        for (int v = 0; v < 256; v++) {
            if (state.living().containsAll(members(v)) && state.carries(members(v))) {
                all.add(members(v));
            }
        }
        all.sort((a, b) -> a.size() != b.size() ? a.size() - b.size() : set(a) - set(b));
        need(!all.isEmpty(), 6);
        return all;
    }

    public int fewest() {
        return ask(() -> carrying().get(0).size());
    }

    public int fewestSet() {
        return ask(() -> set(carrying().get(0)));
    }

    /** Of all orders, one by one, in how many each of the living carries it. */
    private long[] pivots() {
        long[] counts = new long[9];
        orders(state.living(), new ArrayList<>(), counts);
        return counts;
    }

    private void orders(List<Integer> left, List<Integer> ahead, long[] counts) {
        if (left.isEmpty()) {
            counts[8]++;
            return;
        }
        for (int m : left) {
            List<Integer> rest = new ArrayList<>(left);
            rest.remove(Integer.valueOf(m));
            List<Integer> with = new ArrayList<>(ahead);
            with.add(m);
            if (!state.carries(ahead) && state.carries(with)) {
                counts[m] += factorial(rest.size());
            }
            orders(rest, with, counts);
        }
    }

    private static long factorial(int n) {
        return n < 2 ? 1 : n * factorial(n - 1);
    }

    public boolean power(int man) {
        return tell(() -> {
            need(isMan(man), 1);
            need(lives(man), 7);
            long[] counts = pivots();
            fraction(BigInteger.valueOf(counts[man]), BigInteger.valueOf(counts[8]));
            return 1;
        });
    }

    public int mightiest() {
        return ask(() -> {
            need(!state.living().isEmpty(), 6);
            long[] counts = pivots();
            int best = -1;
            for (int m : state.living()) {
                if (best < 0 || counts[m] > counts[best]) {
                    best = m;
                }
            }
            return best;
        });
    }

    public int veto(int man) {
        return ask(() -> {
            need(isMan(man), 1);
            need(lives(man), 7);
            boolean with = false;
            for (int v = 0; v < 256; v++) {
                List<Integer> set = members(v);
                if (state.living().containsAll(set) && state.carries(set)) {
                    if (!set.contains(man)) {
                        return 0;
                    }
                    with = true;
                }
            }
            return with ? 1 : 0;
        });
    }

    private int[] sizes(int tray, int n, int apart) {
        need(trays[tray] != null, 2);
        long[] row = trays[tray].row;
        need(row.length >= n * apart, 3);
        int[] found = new int[n];
        for (int i = 0; i < n; i++) {
            need(isSize(row[i * apart]), 5);
            found[i] = (int) row[i * apart];
        }
        return found;
    }

    /** The most, then who faces what. */
    private int[] orders(int man, int tray, int n, IntPredicate k) {
        need(isMan(man) && tray >= 0 && tray < 4 && n >= 1 && n <= 4 && k.test(n), 1);
        int[] sizes = sizes(tray, n, 1);
        need(lives(man), 7);
        int[] best = new int[n + 1];
        best[0] = -1;
        tryAll(state, man, sizes, new int[n], 0, best);
        return best;
    }

    private void tryAll(State s, int man, int[] sizes, int[] faces, int k, int[] best) {
        if (k == sizes.length) {
            int more = s.men.get(man).medals - state.men.get(man).medals;
            if (more > best[0]) {
                best[0] = more;
                System.arraycopy(faces, 0, best, 1, k);
            }
            return;
        }
        for (int m : s.living()) {
            State next = s.copy();
            next.face(m, sizes[k]);
            faces[k] = m;
            tryAll(next, man, sizes, faces, k + 1, best);
        }
    }

    public int most(int man, int tray, int n) {
        return ask(() -> orders(man, tray, n, x -> true)[0]);
    }

    public int facesAt(int man, int tray, int n, int k) {
        return ask(() -> orders(man, tray, n, x -> k >= 0 && k < x)[k + 1]);
    }

    private List<Integer> fitting(int man, int tray, int n, boolean more) {
        need(isMan(man) && tray >= 0 && tray < 4 && n >= 0 && n <= 20 && more, 1);
        int[] sizes = sizes(tray, n, 2);
        List<Integer> fit = new ArrayList<>();
        State s = state.copy();
        for (int i = 0; i < n; i++) {
            need(trays[tray].row[2 * i + 1] == 0 || trays[tray].row[2 * i + 1] == 1, 5);
        }
        for (int courage = 0; courage <= 20; courage++) {
            s.men.get(man).courage = courage;
            boolean good = true;
            for (int i = 0; i < n; i++) {
                good &= s.stands(man, sizes[i]) == (trays[tray].row[2 * i + 1] == 1);
            }
            if (good) {
                fit.add(courage);
            }
        }
        return fit;
    }

    public int seen(int man, int tray, int n) {
        return ask(() -> fitting(man, tray, n, true).size());
    }

    public int seenAt(int man, int tray, int n, int what) {
        return ask(() -> {
            List<Integer> fit = fitting(man, tray, n, what == 0 || what == 1);
            need(!fit.isEmpty(), 6);
            return fit.get(what == 0 ? 0 : fit.size() - 1);
        });
    }

    public int ask(int man, int tray, int n) {
        return ask(() -> {
            List<Integer> fit = fitting(man, tray, n, true);
            need(fit.size() > 1, 6);
            State s = state.copy();
            int best = 0;
            int least = 99;
            for (int size = 99; size >= 1; size--) {
                int stand = 0;
                for (int courage : fit) {
                    s.men.get(man).courage = courage;
                    stand += s.stands(man, size) ? 1 : 0;
                }
                int greater = Math.max(stand, fit.size() - stand);
                if (greater <= least) {
                    least = greater;
                    best = size;
                }
            }
            return best;
        });
    }

    /** Couples, fondness, then each one's partner or -1. */
    private int[] pairs(int size) {
        List<Integer> heroes = state.living();
        heroes.removeIf(m -> !state.stands(m, size));
        List<Integer> cowards = state.living();
        cowards.removeIf(m -> state.stands(m, size));
        int[] best = null;
        int ways = (int) Math.pow(cowards.size() + 1, heroes.size());
        for (int way = 0; way < ways; way++) {
            int[] partner = new int[10];
            Arrays.fill(partner, 2, 10, -1);
            int rest = way;
            boolean good = true;
            // the first hero's choice weighs the most, so the ways come in the order that is asked
            for (int h = heroes.size() - 1; h >= 0; h--) {
                int c = rest % (cowards.size() + 1);
                rest /= cowards.size() + 1;
                if (c < cowards.size()) {
                    int hero = heroes.get(h);
                    int coward = cowards.get(c);
                    good &= partner[coward + 2] < 0;
                    partner[hero + 2] = coward;
                    partner[coward + 2] = hero;
                    partner[0]++;
                    partner[1] += state.men.get(hero).likes[coward] + state.men.get(coward).likes[hero];
                }
            }
            if (good && (best == null || partner[0] > best[0] || partner[0] == best[0] && partner[1] > best[1])) {
                best = partner;
            }
        }
        return best;
    }

    public int couples(int size) {
        return ask(() -> {
            need(isSize(size), 1);
            return pairs(size)[0];
        });
    }

    public int fondness(int size) {
        return ask(() -> {
            need(isSize(size), 1);
            return pairs(size)[1];
        });
    }

    public int partner(int man, int size) {
        return ask(() -> {
            need(isMan(man) && isSize(size), 1);
            int partner = pairs(size)[man + 2];
            need(partner >= 0, 6);
            return partner;
        });
    }

    private int[] dangers(int man, int other, int tray, int n, int least) {
        need(isMan(man) && isMan(other) && man != other && tray >= 0 && tray < 4 && n >= least && n <= 4, 1);
        int[] sizes = sizes(tray, n, 1);
        need(lives(man) && lives(other), 7);
        return sizes;
    }

    private int value(State s, int man, int other, int[] sizes, int k) {
        if (k == sizes.length) {
            return s.men.get(man).medals - s.men.get(other).medals;
        }
        int mover = k % 2 == 0 ? man : other;
        int run = value(s, man, other, sizes, k + 1);
        if (!s.stands(mover, sizes[k])) {
            return run;
        }
        int stand = stood(s, man, other, sizes, k);
        return mover == man ? Math.max(run, stand) : Math.min(run, stand);
    }

    private int stood(State s, int man, int other, int[] sizes, int k) {
        State next = s.copy();
        next.face(k % 2 == 0 ? man : other, sizes[k]);
        return value(next, man, other, sizes, k + 1);
    }

    public int game(int man, int other, int tray, int n) {
        return ask(() -> value(state, man, other, dangers(man, other, tray, n, 0), 0));
    }

    public int moveOf(int man, int other, int tray, int n) {
        return ask(() -> {
            int[] sizes = dangers(man, other, tray, n, 1);
            need(state.stands(man, sizes[0]), 6);
            return stood(state, man, other, sizes, 0) >= value(state, man, other, sizes, 1) ? 1 : 0;
        });
    }

    public boolean chance(int man, int n, int k) {
        return tell(() -> {
            need(isMan(man) && n >= 0 && n <= 9 && k >= 0 && k <= 9, 1);
            int good = 0;
            for (int size = 1; size <= 20; size++) {
                good += state.stands(man, size) ? 1 : 0;
            }
            BigInteger[] ways = new BigInteger[n + 2];
            Arrays.fill(ways, BigInteger.ZERO);
            ways[0] = BigInteger.ONE;
            for (int i = 0; i < n; i++) {
                for (int j = n; j >= 0; j--) {
                    BigInteger before = j == 0 ? BigInteger.ZERO : ways[j - 1];
                    ways[j] = ways[j].multiply(BigInteger.valueOf(20 - good)).add(before.multiply(BigInteger.valueOf(good)));
                }
            }
            BigInteger sum = BigInteger.ZERO;
            for (int j = k; j <= n; j++) {
                sum = sum.add(ways[j]);
            }
            fraction(sum, BigInteger.valueOf(20).pow(n));
            return 1;
        });
    }

    public boolean luck(int man, int other) {
        return tell(() -> {
            need(isMan(man) && isMan(other) && man != other, 1);
            need(lives(man) && lives(other), 7);
            int lucky = 0;
            for (int size = 1; size <= 20; size++) {
                lucky += state.copy().face(man, size) == other ? 1 : 0;
            }
            fraction(BigInteger.valueOf(lucky), BigInteger.valueOf(20));
            return 1;
        });
    }

    public int hopeful() {
        return ask(() -> {
            int set = 0;
            for (int m : state.living()) {
                for (int size = 1; size <= 99 && state.stands(m, size); size++) {
                    int to = state.goesTo(m, size);
                    set |= to < 0 ? 0 : 1 << to;
                }
            }
            return set;
        });
    }

    public int copyMedals(int tray) {
        return ask(() -> {
            Tray t = there(tray);
            need(t.row.length >= state.men.size(), 3);
            for (int i = 0; i < state.men.size(); i++) {
                t.row[i] = state.men.get(i).medals;
            }
            return state.men.size();
        });
    }

    public int live(int seed) {
        return ask(() -> {
            need(seed >= 0 && seed <= 9999, 1);
            need(state.war != null, 6);
            latest = new Run(state, seed);
            latest.all();
            return latest.steps;
        });
    }

    public int lived(int what) {
        return ask(() -> {
            need(what >= 0 && what <= 4, 1);
            need(latest != null, 6);
            return latest.told[what];
        });
    }

    public boolean mean(int man, int seed, int many) {
        return tell(() -> {
            need(isMan(man) && many >= 1 && many <= 20 && seed >= 0 && (long) seed + many <= 10000, 1);
            need(state.war != null, 6);
            int sum = 0;
            for (int i = 0; i < many; i++) {
                State s = state.copy();
                new Run(s, seed + i).all();
                sum += s.men.get(man).medals;
            }
            fraction(BigInteger.valueOf(sum), BigInteger.valueOf(many));
            return 1;
        });
    }

    public int mark() {
        return ask(() -> {
            need(marks.size() < 3, 4);
            marks.add(state.copy());
            return marks.size();
        });
    }

    public int undo() {
        return ask(() -> {
            need(!marks.isEmpty(), 6);
            state = marks.remove(marks.size() - 1);
            return marks.size();
        });
    }
}
