import java.io.IOException;
import java.lang.reflect.Constructor;
import java.lang.reflect.Field;
import java.lang.reflect.Method;
import java.lang.reflect.Modifier;
import java.nio.file.Files;
import java.nio.file.Path;
import java.util.Arrays;
import java.util.Set;
import java.util.TreeSet;
import java.util.regex.Matcher;
import java.util.regex.Pattern;

/** The document's face, and those rules of LANGUAGE.md that can be seen from outside or in the text. */
public final class LanguageTest {
    private static final String FACE = """
        int status()
        long top()
        long bottom()
        boolean tray(int,int,int)
        boolean write(int,int,long)
        long read(int,int)
        boolean pour(int,int,int,int,int)
        int feed(int,int,int,int,int)
        int army(int)
        int war(int)
        int fault(int)
        int told(int)
        int man(int,int)
        int likes(int,int)
        int face(int,int)
        int give(int,int)
        int lose(int)
        int fall(int)
        int enlist(int,int)
        boolean train(int,int)
        boolean weigh(int,int)
        boolean charm(int,int,int)
        boolean rule(int,int)
        int brave(int)
        int limit(int)
        int candidates(int,int)
        int voteOf(int,int,int)
        int votes(int,int,int)
        int goesTo(int,int)
        int carries(int)
        int fewest()
        int fewestSet()
        boolean power(int)
        int mightiest()
        int veto(int)
        int most(int,int,int)
        int facesAt(int,int,int,int)
        int seen(int,int,int)
        int seenAt(int,int,int,int)
        int ask(int,int,int)
        int couples(int)
        int fondness(int)
        int partner(int,int)
        int game(int,int,int,int)
        int moveOf(int,int,int,int)
        boolean chance(int,int,int)
        boolean luck(int,int)
        int hopeful()
        int copyMedals(int)
        int live(int)
        int lived(int)
        boolean mean(int,int,int)
        int mark()
        int undo()
        """;

    public static void main(String[] args) throws IOException {
        face();
        for (Class<?> c : MedalBoard.class.getDeclaredClasses()) {
            inside(c);
        }
        sizes();
        text(Files.readString(Path.of("src/main/java/MedalBoard.java")));
        Due.finish();
    }

    private static void face() {
        int kind = MedalBoard.class.getModifiers();
        Due.yes("public and final", Modifier.isPublic(kind) && Modifier.isFinal(kind));
        Set<String> want = new TreeSet<>(Arrays.asList(FACE.split("\n")));
        Set<String> got = new TreeSet<>();
        for (Method m : MedalBoard.class.getDeclaredMethods()) {
            if (Modifier.isPublic(m.getModifiers())) {
                got.add(told(m));
                Due.yes(m + " is of the object", !Modifier.isStatic(m.getModifiers()));
            } else {
                Due.yes(m + " is private", Modifier.isPrivate(m.getModifiers()));
            }
        }
        Set<String> more = new TreeSet<>(got);
        more.removeAll(want);
        Set<String> less = new TreeSet<>(want);
        less.removeAll(got);
        Due.yes("methods beyond the face " + more + ", missing " + less, more.isEmpty() && less.isEmpty());
        for (Field f : MedalBoard.class.getDeclaredFields()) {
            boolean none = f.getName().equals("NONE") && Modifier.isPublic(f.getModifiers()) && f.getType() == int.class;
            Due.yes(f + " is private", none || Modifier.isPrivate(f.getModifiers()));
        }
        Due.is("NONE", MedalBoard.NONE, -1);
        Constructor<?>[] made = MedalBoard.class.getDeclaredConstructors();
        Due.yes("one constructor", made.length == 1 && made[0].getParameterCount() == 0 && Modifier.isPublic(made[0].getModifiers()));
    }

    private static String told(Method m) {
        StringBuilder text = new StringBuilder(m.getReturnType().getName()).append(' ').append(m.getName()).append('(');
        for (Class<?> type : m.getParameterTypes()) {
            text.append(text.charAt(text.length() - 1) == '(' ? "" : ",").append(type.getName());
        }
        return text.append(')').toString();
    }

    private static void inside(Class<?> c) {
        Due.yes(c + " is static", Modifier.isStatic(c.getModifiers()));
        Due.yes(c + " is not seen from outside", !Modifier.isPublic(c.getModifiers()) && !Modifier.isProtected(c.getModifiers()));
        for (Method m : c.getDeclaredMethods()) {
            boolean taken = Modifier.isPrivate(m.getModifiers()) && FACE.contains(" " + m.getName() + "(");
            Due.yes(m + " has a name of its own", !taken);
        }
    }

    private static void sizes() {
        Class<?>[] inside = MedalBoard.class.getDeclaredClasses();
        Due.yes("some twelve classes", inside.length < 13);
        Class<?>[] all = Arrays.copyOf(inside, inside.length + 1);
        all[inside.length] = MedalBoard.class;
        for (Class<?> c : all) {
            int fields = 0;
            for (Field f : c.getDeclaredFields()) {
                boolean constant = Modifier.isStatic(f.getModifiers());
                Due.yes(f + " is final", !constant || Modifier.isFinal(f.getModifiers()));
                fields += constant ? 0 : 1;
            }
            Due.yes(c + " has some twenty fields", fields <= 20);
            for (Method m : c.getDeclaredMethods()) {
                Due.yes(m + " has seven parameters at most", m.getParameterCount() <= 7);
            }
        }
    }

    private static void text(String source) {
        Due.yes("plain signs alone", source.matches("[\\n -~]*"));
        String bare = source.replaceAll("(?s)/\\*.*?\\*/", "").replaceAll("//[^\n]*", "");
        String[] never = {"\\bthrow\\b", "\\bthrows\\b", "\\btry\\b", "\\bcatch\\b", "\\bfinally\\b", "\\bsynchronized\\b",
            "\\bassert\\b", "->", "::", "\\bpackage\\b", "Exact\\b", "\\bObject\\b", "\\bhashCode\\b", "\\btoString\\b",
            "\\bstatic\\s*\\{", "\\bprotected\\b", "while \\(true\\)", "for \\(;;\\)", "\\bvar\\b", "\\binstanceof\\b"};
        for (String pattern : never) {
            Due.yes("never " + pattern, !Pattern.compile(pattern).matcher(bare).find());
        }
        Matcher imports = Pattern.compile("import ([^;]+);").matcher(bare);
        while (imports.find()) {
            Due.yes("import " + imports.group(1), imports.group(1).equals("java.util.Arrays"));
        }
        Matcher calls = Pattern.compile("\\b(Math|Integer|Long|Arrays|System|Character)\\.(\\w+)").matcher(bare);
        Set<String> library = Set.of("Math.min", "Math.max", "Integer.bitCount", "Arrays.fill", "System.arraycopy");
        while (calls.find()) {
            Due.yes("library: " + calls.group(), library.contains(calls.group()));
        }
        methods(bare);
    }

    private static void methods(String bare) {
        String[] lines = bare.split("\n");
        int began = -1;
        for (int i = 0; i < lines.length; i++) {
            boolean head = lines[i].matches("( {4}| {8})\\S.*\\) \\{") && !lines[i].matches("\\s*(if|for|while|switch|\\}).*");
            if (head) {
                began = i;
            }
            if (began >= 0 && lines[i].equals(lines[began].replaceAll("\\S.*", "") + "}")) {
                Due.yes("a short method: " + lines[began].trim(), i - began < 60);
                began = -1;
            }
        }
    }
}
