import java.io.File;
import java.lang.reflect.Method;
import java.lang.reflect.Modifier;
import java.nio.file.Files;
import java.nio.file.Path;
import java.util.HashMap;
import java.util.Map;
import java.util.regex.Matcher;
import java.util.regex.Pattern;

/** README.md says how to use the class and how to run its tests, and what it says is so. */
public final class ReadmeTest {
    static final String[] FINDINGS = {"BEYOND", "FULL", "KIND", "NONE", "STATE", "MISSING", "SIZE"};
    static final Pattern CALL = Pattern.compile("(?:int (\\w+) = )?home\\.(\\w+)\\((.*?)\\);\\s*// (-?\\d+): .+");

    static int wrong = 0;

    static void must(boolean so, String what) {
        if (!so) {
            wrong++;
            System.out.println(what);
        }
    }

    public static void main(String[] args) throws Exception {
        String page = Files.readString(Path.of("README.md"));
        Map<String, Method> face = face();
        example(page, face);
        calls(page, face);
        findings(page, face);
        must(Pattern.compile("\\b512 calls\\b").matcher(page).find(), "how many calls an object is good for");
        tests(page);
        System.out.println(wrong + " wrong");
        if (wrong != 0) {
            System.exit(1);
        }
    }

    static Map<String, Method> face() {
        Map<String, Method> face = new HashMap<>();
        for (Method m : DusterRounds.class.getDeclaredMethods()) {
            if (Modifier.isPublic(m.getModifiers())) {
                face.put(m.getName(), m);
            }
        }
        return face;
    }

    static void example(String page, Map<String, Method> face) throws Exception {
        Matcher block = Pattern.compile("(?s)```java\n(.*?)```").matcher(page);
        must(block.find(), "no example");
        String[] lines = block.group(1).split("\n");
        must(lines[0].equals("DusterRounds home = new DusterRounds();"), "the example makes no object");
        DusterRounds home = new DusterRounds();
        Map<String, Long> named = new HashMap<>();
        for (int i = 1; i < lines.length; i++) {
            Matcher m = CALL.matcher(lines[i]);
            if (!m.matches() || !face.containsKey(m.group(2))) {
                must(false, "not a call with its answer: " + lines[i]);
                continue;
            }
            long got = call(home, face.get(m.group(2)), m.group(3), named);
            must(got == Long.parseLong(m.group(4)), lines[i] + " answered " + got);
            if (m.group(1) != null) {
                named.put(m.group(1), got);
            }
        }
        must(!block.find(), "an example that is not tested");
    }

    static long call(DusterRounds home, Method m, String told, Map<String, Long> named) throws Exception {
        String[] parts = told.isEmpty() ? new String[0] : told.split(", ");
        Object[] args = new Object[parts.length];
        for (int i = 0; i < parts.length; i++) {
            long v = named.containsKey(parts[i]) ? named.get(parts[i]) : Long.parseLong(parts[i]);
            if (m.getParameterTypes()[i] == int.class) {
                args[i] = (int) v;
            } else {
                args[i] = v;
            }
        }
        return ((Number) m.invoke(home, args)).longValue();
    }

    /** Each call of the face once, as it is called, in the table of calls. */
    static void calls(String page, Map<String, Method> face) {
        Matcher part = Pattern.compile("(?s)### Calls\n(.*?)\n## ").matcher(page);
        must(part.find(), "no table of calls");
        Matcher m = Pattern.compile("`(\\w+)\\(([^)]*)\\)`").matcher(part.group(1));
        Map<String, Integer> told = new HashMap<>();
        while (m.find()) {
            told.put(m.group(1), m.group(2).isEmpty() ? 0 : m.group(2).split(", ").length);
        }
        must(told.keySet().equals(face.keySet()), "the calls told are " + told.keySet());
        for (Method one : face.values()) {
            must(told.getOrDefault(one.getName(), -1) == one.getParameterCount(), "its arguments: " + one);
        }
    }

    /** A row for each: its number, its name, why, and by which number status counts it. */
    static void findings(String page, Map<String, Method> face) throws Exception {
        for (int i = 0; i < FINDINGS.length; i++) {
            String row = "\\| " + (-1000000001 - i) + " \\| " + FINDINGS[i] + " \\| [^|]+ \\| " + i + " \\|";
            must(Pattern.compile(row).matcher(page).find(), "no row for " + FINDINGS[i]);
        }
        Object[][] told = {
            {"falls", "21"}, {"feed", "0, 4"}, {"as", "0, 5"}, {"undo", ""}, {"days", "60"}, {"lays", "0"}, {"sheet", "0, 8, -1"},
        };
        DusterRounds home = new DusterRounds();
        home.duster(0);
        for (int i = 0; i < 30; i++) {
            home.feed(0, 4);
        }
        for (int i = 0; i < 166; i++) {
            home.days(60);
        }
        for (int i = 0; i < FINDINGS.length; i++) {
            long got = call(home, face.get((String) told[i][0]), (String) told[i][1], Map.of());
            must(got == -1000000001 - i, FINDINGS[i] + " is due, it answered " + got);
            must(home.status(i) == 1 && home.status(-1) == i + 1, "status of " + FINDINGS[i]);
        }
    }

    static void tests(String page) {
        Matcher part = Pattern.compile("(?s)## How to run its tests\n(.*)").matcher(page);
        must(part.find() && part.group(1).contains("```sh\n.ci/run\n```"), "how to run the tests");
        must(new File(".ci/run").canExecute(), ".ci/run can't be run");
        File[] files = new File("src/test/java").listFiles((folder, name) -> name.endsWith(".java"));
        must(files != null && files.length > 0, "no tests");
        for (File file : files == null ? new File[0] : files) {
            String name = file.getName().replace(".java", "");
            must(page.contains("- `" + name + "`: "), "a test that the page doesn't name: " + name);
        }
    }
}
