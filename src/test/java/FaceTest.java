import java.lang.reflect.Constructor;
import java.lang.reflect.Field;
import java.lang.reflect.Method;
import java.lang.reflect.Modifier;
import java.nio.file.Files;
import java.nio.file.Path;
import java.util.Set;
import java.util.TreeSet;
import java.util.regex.Matcher;
import java.util.regex.Pattern;

/** The class has the document's face and no other, and keeps to the rules of LANGUAGE.md that can be seen. */
public final class FaceTest {
    static final String FACE = "falls(int) room(int,int,int) roomOf(int,int) now(int) duster(int) of(int,int) "
        + "set(int,int,int) turn(int,int) as(int,int) through(int,int) wash(int) shake(int) days(int) "
        + "on(int,int,int) then(int,int,int) clean(int) comes(int,int) holds(int,int) round(int,int) "
        + "kind(int,int) grime(int,int) best(int) delay(int,int,int) bears(int) fullest(int) feed(int,int) "
        + "wipe() house() sheet(int,int,int) write(int,int,long) copy(int,int,int,int,int) lays(int) "
        + "book(int,int) read(int,int,int) image() undo() tear() count(int) status(int)";

    static int wrong = 0;

    static void must(boolean so, String what) {
        if (!so) {
            wrong++;
            System.out.println(what);
        }
    }

    public static void main(String[] args) throws Exception {
        face();
        inside();
        source();
        nothingMadeByCalls();
        System.out.println(wrong + " wrong");
        if (wrong != 0) {
            System.exit(1);
        }
    }

    static void face() {
        Class<?> c = DusterRounds.class;
        must(Modifier.isPublic(c.getModifiers()) && Modifier.isFinal(c.getModifiers()), "the class: public final");
        Set<String> due = new TreeSet<>(Set.of(FACE.split(" ")));
        Set<String> found = new TreeSet<>();
        for (Method m : c.getDeclaredMethods()) {
            if (Modifier.isPrivate(m.getModifiers())) {
                must(!(" " + FACE).contains(" " + m.getName() + "("), "private, but named as one of the face: " + m);
                continue;
            }
            must(Modifier.isPublic(m.getModifiers()) && !Modifier.isStatic(m.getModifiers()), "not of the face: " + m);
            must(m.getReturnType() == (m.getName().equals("write") ? long.class : int.class), "answers another type: " + m);
            found.add(m.toString().replaceFirst(".*DusterRounds\\.", "").replaceFirst(" throws .*", ""));
        }
        must(found.equals(due), "the face is " + found);
        Constructor<?>[] made = c.getDeclaredConstructors();
        must(made.length == 1 && Modifier.isPublic(made[0].getModifiers()) && made[0].getParameterCount() == 0, "the constructor");
        for (Field f : c.getDeclaredFields()) {
            must(Modifier.isPrivate(f.getModifiers()), "not private: " + f);
        }
    }

    static void inside() {
        Class<?>[] inside = DusterRounds.class.getDeclaredClasses();
        must(inside.length < 12, "too many classes inside");
        for (Class<?> c : inside) {
            must(Modifier.isStatic(c.getModifiers()) && !Modifier.isPublic(c.getModifiers()), "not static, or public: " + c);
            for (Method m : c.getDeclaredMethods()) {
                must(!(" " + FACE).contains(" " + m.getName() + "("), "named as one of the face: " + m);
            }
            fields(c);
        }
        fields(DusterRounds.class);
    }

    static void fields(Class<?> c) {
        int held = 0;
        for (Field f : c.getDeclaredFields()) {
            if (!Modifier.isStatic(f.getModifiers())) {
                held++;
                continue;
            }
            must(Modifier.isFinal(f.getModifiers()), "static, not final: " + f);
        }
        must(held <= 20, "too many fields: " + c);
    }

    static final Path SOURCE = Path.of("src/main/java/DusterRounds.java");

    static String withoutComments(String text) {
        return text.replaceAll("(?s)/\\*.*?\\*/", "").replaceAll("//[^\n]*", "");
    }

    static void source() throws Exception {
        String text = Files.readString(SOURCE);
        must(text.chars().allMatch(ch -> ch == '\n' || ch >= 32 && ch < 127), "a sign outside ASCII, or a tab");
        String code = withoutComments(text).replaceAll("\"[^\"\n]*\"", "\"\"");
        for (String word : new String[] {"throw", "throws", "try", "catch", "synchronized", "assert", "import", "package",
                "transient", "volatile", "native", "Object", "System\\.(?!arraycopy)\\w+", "Thread", "Exact", "yield", "var"}) {
            Matcher m = Pattern.compile("\\b" + word + "\\b").matcher(code);
            must(!m.find(), "in the source: " + word);
        }
        must(!code.contains("->") && !code.contains("::"), "a lambda or a reference to a method");
        Matcher calls = Pattern.compile("\\b(Math|Integer|Long)\\.(\\w+)").matcher(code);
        while (calls.find()) {
            must(Set.of("min", "max", "bitCount", "MAX_VALUE").contains(calls.group(2)), "a library call: " + calls.group());
        }
        lengths(code);
    }

    /** Methods stand in the source with four blanks ahead, those of the classes inside with eight. */
    static void lengths(String code) {
        String[] lines = code.split("\n");
        for (int i = 0; i < lines.length; i++) {
            Matcher m = Pattern.compile("( {4}| {8})\\S[^=;]*\\(.*\\) \\{").matcher(lines[i]);
            if (!m.matches()) {
                continue;
            }
            int end = i;
            while (end < lines.length && !lines[end].equals(m.group(1) + "}")) {
                end++;
            }
            must(end - i <= 60, "longer than sixty lines: " + lines[i].trim());
        }
    }

    /** Calls make no objects: what makes one stands with the fields or in the constructor. */
    static void nothingMadeByCalls() throws Exception {
        String text = withoutComments(Files.readString(SOURCE));
        Matcher m = Pattern.compile("\n( *)([^\n]*)\\bnew ").matcher(text);
        while (m.find()) {
            boolean field = m.group(2).startsWith("private final ") || m.group(2).startsWith("final ");
            must(field || m.group(2).equals("sheets[s] = "), "an object is made outside a constructor: " + m.group(2));
        }
    }
}
