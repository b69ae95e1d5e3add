import java.lang.reflect.Method;
import java.lang.reflect.Modifier;
import java.nio.charset.StandardCharsets;
import java.util.ArrayList;
import java.util.Arrays;
import java.util.Comparator;
import java.util.List;
import java.util.Random;

/** All promises: runs of 512 calls by fixed seeds, each answer against the Model's; no call may throw. */
public final class RandomRunsTest {
    private static final int CALLS = 512;
    private static final List<Method> CALLABLE = callable();

    private final Random random;
    private final MedalBoard board = new MedalBoard();
    private final Model model = new Model();
    private final List<String> history = new ArrayList<>();
    private int wrong = 0;
    private int arguments = 60;

    private RandomRunsTest(long seed) {
        random = new Random(seed);
    }

    public static void main(String[] args) throws ReflectiveOperationException {
        int runs = args.length > 0 ? Integer.parseInt(args[0]) : 150;
        int failed = 0;
        for (int run = 0; run < runs && failed < 3; run++) {
            RandomRunsTest test = new RandomRunsTest(run);
            if (run % 3 == 0) {
                test.run(60);
            } else if (run % 3 == 1) {
                test.lookAhead();
            } else {
                test.run(5);
            }
            if (test.wrong > 0) {
                failed++;
                System.out.println("run " + run + ", the last calls:");
                int size = test.history.size();
                for (String line : test.history.subList(Math.max(0, size - 12), size)) {
                    System.out.println("  " + line);
                }
            }
        }
        Due.is("runs that went wrong", failed, 0);
        Due.finish();
    }

    private static List<Method> callable() {
        List<Method> list = new ArrayList<>();
        for (Method m : MedalBoard.class.getDeclaredMethods()) {
            boolean text = m.getName().equals("feed") || m.getName().equals("army") || m.getName().equals("war");
            if (Modifier.isPublic(m.getModifiers()) && !text) {
                list.add(m);
            }
        }
        list.sort(Comparator.comparing(Method::getName));
        return list;
    }

    /** Calls of all kinds; of so many arguments two are odd ones. */
    private void run(int perOdd) throws ReflectiveOperationException {
        arguments = perOdd;
        while (history.size() < CALLS && wrong == 0) {
            int what = random.nextInt(40);
            if (what == 0) {
                text("army", armyText());
            } else if (what < 3) {
                text("war", warText());
            } else if (what < 5) {
                fillTray();
            } else if (what < 7 && model.headCount() < 8) {
                call("enlist", random.nextInt(21), random.nextInt(10));
            } else {
                Method m = CALLABLE.get(random.nextInt(CALLABLE.size()));
                // those who fall come back by a new ARMY alone
                if (!m.getName().equals("fall") || random.nextInt(3) == 0) {
                    callBy(m);
                }
            }
        }
    }

    /** Calls that fit, on an ARMY in which much can come of a DANGER. */
    private void lookAhead() throws ReflectiveOperationException {
        int men = 2 + random.nextInt(random.nextInt(4) == 0 ? 7 : 4);
        int braver = 1 + random.nextInt(9);
        call("rule", 1, random.nextInt(4));
        call("rule", 2, 1 + random.nextInt(99));
        for (int i = 0; i < men; i++) {
            call("enlist", random.nextInt(braver + 1), random.nextInt(5));
        }
        for (int i = random.nextInt(20); i > 0; i--) {
            call("charm", random.nextInt(men), random.nextInt(men), random.nextInt(10));
        }
        call("tray", 0, 0, 4);
        while (history.size() < CALLS - 4 && wrong == 0) {
            int man = random.nextInt(men);
            int other = (man + 1 + random.nextInt(men - 1)) % men;
            int size = 1 + random.nextInt(braver + 1);
            int n = 1 + random.nextInt(4);
            switch (random.nextInt(12)) {
                case 0 -> call("face", man, size);
                case 1, 2, 3 -> call("write", 0, random.nextInt(4), (long) size);
                case 4 -> call("facesAt", man, 0, n, random.nextInt(n));
                case 5, 6 -> call("game", man, other, 0, n);
                case 7 -> call("moveOf", man, other, 0, n);
                case 8 -> call("most", man, 0, n);
                case 9 -> call("partner", man, size);
                case 10 -> call("luck", man, other);
                default -> change(man, other);
            }
        }
    }

    private void change(int man, int other) throws ReflectiveOperationException {
        switch (random.nextInt(6)) {
            case 0 -> call("charm", man, other, random.nextInt(10));
            case 1 -> call("lose", man);
            case 2 -> call("give", man, other);
            case 3 -> call("weigh", man, random.nextInt(5));
            case 4 -> call(random.nextBoolean() ? "mark" : "undo");
            default -> {
                if (random.nextInt(9) == 0) {
                    call("fall", man);
                }
            }
        }
    }

    private void callBy(Method m) throws ReflectiveOperationException {
        Object[] args = new Object[m.getParameterCount()];
        for (int i = 0; i < args.length; i++) {
            args[i] = m.getParameterTypes()[i] == long.class ? (Object) someLong() : (Object) someInt(m.getName(), i);
        }
        compare(m, args);
    }

    private void call(String name, Object... args) throws ReflectiveOperationException {
        for (Method m : MedalBoard.class.getDeclaredMethods()) {
            if (m.getName().equals(name) && m.getParameterCount() == args.length) {
                compare(m, args);
            }
        }
    }

    private void compare(Method m, Object[] args) throws ReflectiveOperationException {
        Method other = Model.class.getMethod(m.getName(), m.getParameterTypes());
        String line = m.getName() + Arrays.toString(args);
        history.add(line);
        Object want = other.invoke(model, args);
        Object got = m.invoke(board, args);
        same(line, got, want);
        same(line + " status", board.status(), model.status());
        same(line + " top", board.top(), model.top());
        same(line + " bottom", board.bottom(), model.bottom());
        same(line + " fault(0)", board.fault(0), model.fault(0));
        same(line + " fault(1)", board.fault(1), model.fault(1));
    }

    private void same(String line, Object got, Object want) {
        if (!got.equals(want)) {
            wrong++;
            System.out.println(line + " answered " + got + ", due is " + want);
        }
    }

    private long someLong() {
        return switch (random.nextInt(4)) {
            case 0 -> random.nextLong();
            case 1 -> random.nextInt(2);
            default -> random.nextInt(25);
        };
    }

    /** Mostly what fits the call and its place, now and then just beside it or anything. */
    private int someInt(String name, int place) {
        int odd = random.nextInt(arguments);
        if (odd == 0) {
            return random.nextInt();
        }
        if (odd == 1) {
            int[] edges = {Integer.MIN_VALUE, Integer.MAX_VALUE, -1, 0, 60, 61, 99, 100, 256, 9999, 10000};
            return edges[random.nextInt(edges.length)];
        }
        int men = Math.max(1, model.headCount());
        return switch (name) {
            case "live" -> random.nextInt(10000);
            case "carries" -> random.nextInt(1 << men);
            case "brave", "couples", "fondness" -> 1 + random.nextInt(random.nextBoolean() ? 22 : 99);
            case "rule" -> place == 0 ? random.nextInt(4) : random.nextBoolean() ? random.nextInt(10) : random.nextInt(101);
            case "told", "lived" -> random.nextInt(11);
            case "tray" -> random.nextInt(place == 0 ? 5 : place == 1 ? 4 : 61);
            case "write", "read", "copyMedals" -> random.nextInt(place == 0 ? 4 : 10);
            case "pour" -> place == 0 || place == 2 ? random.nextInt(4) : random.nextInt(12) - 1;
            case "enlist", "train", "weigh" -> place == 0 && !name.equals("enlist") ? random.nextInt(men) : random.nextInt(22);
            case "charm" -> place < 2 ? random.nextInt(men) : random.nextInt(11);
            case "man" -> place == 0 ? random.nextInt(men + 1) : random.nextInt(8);
            case "chance" -> place == 0 ? random.nextInt(men) : random.nextInt(11);
            case "mean" -> place == 0 ? random.nextInt(men) : place == 1 ? random.nextInt(10000) : random.nextInt(22);
            case "face", "candidates", "goesTo", "partner" -> place == 0 ? random.nextInt(men) : 1 + random.nextInt(24);
            case "voteOf", "votes" -> place < 2 ? random.nextInt(men) : 1 + random.nextInt(24);
            case "most", "facesAt" -> place == 0 ? random.nextInt(men) : random.nextInt(4) + (place == 2 ? 1 : 0);
            case "seen", "seenAt", "ask" -> place == 0 ? random.nextInt(men) : place == 3 ? random.nextInt(3) : random.nextInt(4);
            case "game", "moveOf" -> place < 2 ? random.nextInt(men) : random.nextInt(5);
            default -> random.nextInt(men);
        };
    }

    private void fillTray() throws ReflectiveOperationException {
        int tray = random.nextInt(4);
        int many = random.nextInt(4) == 0 ? random.nextInt(60) : 4 + random.nextInt(5);
        boolean twos = random.nextBoolean();
        call("tray", tray, random.nextInt(4), many);
        for (int i = 0; i < many; i++) {
            boolean flag = twos && i % 2 == 1;
            call("write", tray, i, (long) (flag ? random.nextInt(2) : 1 + random.nextInt(random.nextInt(3) == 0 ? 99 : 22)));
        }
    }

    private void text(String name, String text) throws ReflectiveOperationException {
        byte[] bytes = text.getBytes(StandardCharsets.ISO_8859_1);
        byte[] padded = Arrays.copyOf(bytes, (bytes.length + 19) / 20 * 20);
        history.add(text);
        for (int i = 0; i < padded.length; i += 20) {
            call("feed", Due.four(padded, i), Due.four(padded, i + 4), Due.four(padded, i + 8), Due.four(padded, i + 12),
                Due.four(padded, i + 16));
        }
        int n = bytes.length + (random.nextInt(30) == 0 ? random.nextInt(30) - 10 : 0);
        call(name, n);
        if (random.nextInt(20) == 0) {
            call("feed", random.nextInt(), 0, 1, 2, 3);
        }
    }

    private String armyText() {
        List<String> t = new ArrayList<>();
        int men = random.nextInt(10);
        if (random.nextBoolean()) {
            t.addAll(List.of("pride", "" + random.nextInt(10), ";"));
        }
        for (int i = 0; i < men; i++) {
            t.addAll(List.of("man", name(i), "courage", "" + random.nextInt(21)));
            if (random.nextBoolean()) {
                t.addAll(List.of("weight", "" + random.nextInt(10)));
            }
            if (random.nextInt(3) == 0) {
                t.addAll(List.of("medals", "" + random.nextInt(random.nextInt(4) == 0 ? 100 : 4)));
            }
            t.add(";");
        }
        if (random.nextBoolean()) {
            t.addAll(List.of("quota", "" + (1 + random.nextInt(99)), ";"));
        }
        for (int i = random.nextInt(20); men > 1 && i > 0; i--) {
            int a = random.nextInt(men);
            int b = random.nextInt(men);
            if (a != b) {
                t.addAll(List.of("likes", name(a), name(b), "" + random.nextInt(10), ";"));
            }
        }
        return joined(t, 900);
    }

    private static String name(int i) {
        return new String[] {"a", "bo", "abcdefgh", "mann", "d", "ending", "x", "zz", "ninth"}[i];
    }

    private String warText() {
        List<String> t = new ArrayList<>();
        steps(t, 0);
        return joined(t, 300);
    }

    private void steps(List<String> t, int depth) {
        for (int i = random.nextInt(depth == 0 ? 9 : 4); i > 0; i--) {
            int named = random.nextInt(25) == 0 ? 8 : Math.max(1, Math.min(4, model.headCount()));
            String a = name(random.nextInt(named));
            String b = name(random.nextInt(named));
            switch (random.nextInt(depth < 3 || random.nextInt(9) == 0 ? 12 : 8)) {
                case 0, 1 -> t.addAll(List.of("face", a, "" + (1 + random.nextInt(20)), ";"));
                case 2 -> t.addAll(List.of("give", a, b, ";"));
                case 3 -> t.addAll(List.of("lose", a, ";"));
                case 4 -> t.addAll(random.nextInt(3) == 0 ? List.of("fall", a, ";") : List.of("any", ";"));
                case 5, 6 -> t.addAll(List.of("any", ";"));
                case 7 -> t.addAll(random.nextInt(4) == 0 ? List.of("stop", ";") : List.of("any", ";"));
                case 8, 9 -> {
                    String test = List.of("brave", "worn", "fled").get(random.nextInt(3));
                    t.addAll(List.of("when", test, a, List.of("<", ">", "=").get(random.nextInt(3)), "" + random.nextInt(9), ";"));
                    steps(t, depth + 1);
                    t.addAll(List.of("end", ";"));
                }
                default -> {
                    t.addAll(List.of("loop", "" + (1 + random.nextInt(random.nextInt(4) == 0 ? 99 : 6)), ";"));
                    steps(t, depth + 1);
                    t.addAll(List.of("end", ";"));
                }
            }
        }
    }

    /** A text of these TOKENS, now and then with something that does not belong there. */
    private String joined(List<String> t, int most) {
        if (random.nextInt(3) == 0 && !t.isEmpty()) {
            spoil(t);
        }
        StringBuilder text = new StringBuilder();
        for (String token : t) {
            boolean apart = text.length() > 0 && Character.isLetterOrDigit(text.charAt(text.length() - 1))
                && Character.isLetterOrDigit(token.charAt(0));
            if (apart || random.nextInt(9) == 0) {
                text.append(random.nextInt(5) == 0 ? '\n' : ' ');
            }
            text.append(token);
        }
        if (random.nextInt(12) == 0 && text.length() > 0) {
            text.setCharAt(random.nextInt(text.length()), (char) random.nextInt(256));
        }
        return text.length() > most ? text.substring(0, most) : text.toString();
    }

    private void spoil(List<String> t) {
        String[] odd = {"pride", "quota", "man", "courage", "weight", "medals", "likes", "face", "give", "lose", "fall", "any",
            "when", "brave", "worn", "fled", "loop", "end", "stop", ";", "<", ">", "=", "0", "100", "21", "1000", "12345",
            "abcdefghi", "a", "bo", "nobody", "?", "\n"};
        String token = odd[random.nextInt(odd.length)];
        int at = random.nextInt(t.size());
        switch (random.nextInt(4)) {
            case 0 -> t.add(at, token);
            case 1 -> t.set(at, token);
            case 2 -> t.remove(at);
            default -> t.add(at, t.get(random.nextInt(t.size())));
        }
    }
}
