import java.lang.reflect.Method;
import java.lang.reflect.Modifier;
import java.nio.file.Files;
import java.nio.file.Path;
import java.util.ArrayList;
import java.util.HashMap;
import java.util.List;
import java.util.Map;
import java.util.Set;
import java.util.TreeMap;
import java.util.TreeSet;

/**
 * Each sentence of ../shared/DOC.md that names an edge (too small, too large, empty, full, a wrap-around,
 * a refused call), word for word, with the calls that it tells, each run of them on a new object.
 *
 * A run is told in steps, several in a text with ", " between: "falls 21 = BEYOND" asks for that answer,
 * "falls 20" for none, "8x duster 0" is eight calls, "tell 'wool' = 1" feeds a text and calls house,
 * "type 'wool'" feeds it alone. Wherever a finding is due, the same run is made again on two new objects,
 * on one of them without the refused call: all that can be seen of them but status must be alike then.
 */
public final class SentenceTest {
    static final List<String> FINDINGS = List.of("BEYOND", "FULL", "KIND", "NONE", "STATE", "MISSING", "SIZE");
    static final int MOST_CALLS = 512;
    /** A house in which a change that should not be would be seen. */
    static final String[] RICH = {
        "falls 7, duster 0, duster 4, set 0 1 5, set 1 1 512, set 1 2 30, room 2 1 9, days 3",
        "sheet 0 8 3, write 0 1 5, sheet 1 8 2, sheet 2 64 4, write 2 3 77, image, falls 2, room 5 0 77",
        "type 'falls 9'",
    };
    /** The day is 9999 then; 167 calls. */
    static final String LAST_DAY = "166x days 60, days 39";

    static int wrong = 0;
    static int asked = 0;
    static int runs = 0;
    static int sentences = 0;
    static int promise = -1;
    static String sentence = "";
    static int runsOfSentence = 1;
    static final Map<String, Method> methods = new HashMap<>();
    static final Map<Integer, String> doc = new TreeMap<>();
    static final Map<Integer, Set<String>> met = new TreeMap<>();

    record Call(String name, long[] args, boolean wanted, long want, boolean refused) {
        String told() {
            StringBuilder b = new StringBuilder(name);
            for (long arg : args) {
                b.append(' ').append(arg);
            }
            return b.toString();
        }
    }

    /** An object, and how often it has been called. */
    static final class Used {
        final DusterRounds x = new DusterRounds();
        int calls = 0;

        long call(String name, long... args) {
            calls++;
            must(calls <= MOST_CALLS, "the test makes more than 512 calls");
            Method method = methods.get(name);
            Object[] given = new Object[args.length];
            for (int i = 0; i < given.length; i++) {
                if (method.getParameterTypes()[i] == long.class) {
                    given[i] = args[i];
                } else {
                    given[i] = Math.toIntExact(args[i]);
                }
            }
            try {
                return ((Number) method.invoke(x, given)).longValue();
            } catch (ReflectiveOperationException e) {
                throw new IllegalStateException(name + " failed", e);
            }
        }
    }

    public static void main(String[] args) throws Exception {
        for (Method m : DusterRounds.class.getDeclaredMethods()) {
            if (Modifier.isPublic(m.getModifiers())) {
                methods.put(m.getName(), m);
            }
        }
        readDocument();
        findings();
        whatIsThere();
        whatTheKindsDo();
        goingThrough();
        tokens();
        items();
        faults();
        aheadAndSheets();
        rooms();
        dusters();
        days();
        choices();
        theText();
        sheets();
        images();
        nothingLeftOut();
        System.out.println(sentences + " sentences, " + runs + " runs, " + asked + " asked, " + wrong + " wrong");
        if (wrong != 0) {
            System.exit(1);
        }
    }

    // ---- the sentences of the document

    /** By promise; what stands ahead of the first promise is 0. */
    static void readDocument() throws Exception {
        Path path = Path.of("../shared/DOC.md");
        if (!Files.exists(path)) {
            System.out.println("no " + path + " here: the sentences are run, but their words are not compared");
            return;
        }
        String text = Files.readString(path);
        int now = 0;
        for (String line : text.split("\n")) {
            if (line.startsWith("## Promise ")) {
                now = Integer.parseInt(line.replaceFirst("## Promise (\\d+):.*", "$1"));
            } else if (line.startsWith("## Not promised")) {
                now = -1;
            } else {
                doc.merge(now, line + "\n", String::concat);
            }
        }
    }

    static void sentence(int of, String words) {
        must(runsOfSentence > 0, "the sentence has no run");
        promise = of;
        sentence = words;
        runsOfSentence = 0;
        sentences++;
        must(doc.isEmpty() || doc.getOrDefault(of, "").contains(words), "the document does not say so");
    }

    /** Every promise has a sentence here, and every finding that it names was met under it. */
    static void nothingLeftOut() {
        must(runsOfSentence > 0, "the sentence has no run");
        sentence = "the document";
        for (int n = 1; n <= 40; n++) {
            promise = n;
            must(met.containsKey(n), "no sentence of this promise");
            String says = doc.getOrDefault(n, "");
            for (String finding : FINDINGS) {
                boolean asks = says.matches("(?s).*[.)] " + finding + "[.: ].*");
                // With FALLS 0 dust never grows, so that bears() finds 0 at least.
                boolean never = n == 25 && finding.equals("NONE");
                must(!asks || never || met.getOrDefault(n, Set.of()).contains(finding), finding + " is not met");
            }
        }
    }

    static void must(boolean so, String what) {
        if (!so) {
            wrong++;
            System.out.println("promise " + promise + ", \"" + sentence + "\": " + what);
        }
    }

    // ---- runs

    static long number(String told) {
        if (FINDINGS.contains(told)) {
            return -1000000001L - FINDINGS.indexOf(told);
        }
        switch (told) {
            case "MIN":
                return Integer.MIN_VALUE;
            case "MAX":
                return Integer.MAX_VALUE;
            case "LMIN":
                return Long.MIN_VALUE;
            case "LMAX":
                return Long.MAX_VALUE;
            default:
                long sum = 0;
                for (String part : told.split("\\+")) {
                    sum += Long.decode(part);
                }
                return sum;
        }
    }

    static boolean isFinding(long answer) {
        return answer <= -1000000001L && answer >= -1000000007L;
    }

    static List<Call> callsOf(String... steps) {
        List<Call> calls = new ArrayList<>();
        for (String step : steps) {
            if (step.startsWith("tell '") || step.startsWith("type '")) {
                addText(calls, step);
                continue;
            }
            for (String one : step.split(", ")) {
                addCalls(calls, one);
            }
        }
        return calls;
    }

    static void addText(List<Call> calls, String step) {
        int end = step.lastIndexOf('\'');
        String text = step.substring(6, end);
        for (int i = 0; i < text.length(); i += 4) {
            int n = Math.min(4, text.length() - i);
            int bytes = 0;
            for (int k = 0; k < n; k++) {
                bytes = bytes << 8 | text.charAt(i + k);
            }
            calls.add(new Call("feed", new long[] {bytes, n}, false, 0, false));
        }
        if (step.startsWith("tell")) {
            calls.add(new Call("house", new long[0], true, number(step.substring(end + 4)), false));
        }
    }

    static void addCalls(List<Call> calls, String told) {
        String[] sides = told.split(" = ");
        String[] words = sides[0].split(" ");
        int first = words[0].matches("\\d+x") ? 1 : 0;
        int times = first == 0 ? 1 : Integer.parseInt(words[0].replace("x", ""));
        long[] args = new long[words.length - first - 1];
        for (int i = 0; i < args.length; i++) {
            args[i] = number(words[first + 1 + i]);
        }
        long want = sides.length > 1 ? number(sides[1]) : 0;
        for (int i = 0; i < times; i++) {
            // Of calls that are refused again and again, the first is enough.
            boolean refused = i == 0 && sides.length > 1 && FINDINGS.contains(sides[1]);
            calls.add(new Call(words[first], args, sides.length > 1, want, refused));
        }
    }

    static void run(String... steps) {
        runs++;
        runsOfSentence++;
        met.computeIfAbsent(promise, p -> new TreeSet<>());
        List<Call> calls = callsOf(steps);
        Used used = new Used();
        for (int i = 0; i < calls.size(); i++) {
            Call call = calls.get(i);
            long got = used.call(call.name, call.args);
            asked++;
            must(!call.wanted || got == call.want,
                String.join(", ", steps) + ": " + call.told() + " answered " + got + ", due is " + call.want);
            if (call.refused) {
                met.get(promise).add(FINDINGS.get((int) (-1000000001L - call.want)));
                refusedChangesNothing(calls, i);
            }
        }
    }

    static Used after(List<Call> calls, int n) {
        Used used = new Used();
        for (Call call : calls.subList(0, n)) {
            used.call(call.name, call.args);
        }
        return used;
    }

    static void refusedChangesNothing(List<Call> calls, int at) {
        Used without = after(calls, at);
        Used with = after(calls, at + 1);
        Call call = calls.get(at);
        for (int which = 0; which < 7; which++) {
            int more = which == -1000000001L - call.want ? 1 : 0;
            must(with.call("status", which) == without.call("status", which) + more,
                call.told() + ": status " + which + " then");
        }
        List<Long> due = allOf(without);
        List<Long> got = allOf(with);
        must(due.equals(got), call.told() + " was refused, but changed " + due + " to " + got);
    }

    /** All that can be seen: as it is, the sheets, what the tape says, what was kept. */
    static List<Long> allOf(Used used) {
        List<Long> seen = new ArrayList<>(houseOf(used));
        seen.add(used.call("count", 1));
        for (int s = 0; s < 4; s++) {
            long was = 0;
            for (int i = 0; i <= 40 && !isFinding(was); i++) {
                was = used.call("write", s, i, 0x123456789abcdefL);
                seen.add(was);
            }
            // How many bits it has.
            seen.add(used.call("write", s, 0, 0));
        }
        seen.add(used.call("house"));
        seen.addAll(houseOf(used));
        seen.add(used.call("undo"));
        seen.addAll(houseOf(used));
        seen.add(used.call("tear"));
        return seen;
    }

    static List<Long> houseOf(Used used) {
        List<Long> seen = new ArrayList<>();
        seen.add(used.call("now", 0));
        seen.add(used.call("now", 1));
        for (int room = 0; room < 8; room++) {
            seen.add(used.call("roomOf", room, 0));
            seen.add(used.call("roomOf", room, 1));
        }
        long dusters = used.call("count", 0);
        seen.add(dusters);
        for (int one = 0; one < dusters; one++) {
            for (int what = 0; what < 4; what++) {
                seen.add(used.call("of", one, what));
            }
        }
        return seen;
    }

    /**
     * A call with a..b for an argument: that one may be a and b, and not a - 1, b + 1 or the ends of int;
     * told on a new object after these steps, or on a rich house.
     */
    static void bounds(String call, String... steps) {
        String[] ahead = steps.length == 0 ? RICH : steps;
        String[] words = call.split(" ");
        for (int i = 1; i < words.length; i++) {
            if (!words[i].contains("..")) {
                continue;
            }
            long least = number(words[i].split("\\.\\.")[0]);
            long most = number(words[i].split("\\.\\.")[1]);
            for (long v : new long[] {least, most}) {
                must(!isBeyond(ahead, with(words, i, v)), with(words, i, v) + " may be");
            }
            for (long v : new long[] {least - 1, most + 1, Integer.MIN_VALUE, Integer.MAX_VALUE}) {
                String[] all = java.util.Arrays.copyOf(ahead, ahead.length + 1);
                all[ahead.length] = with(words, i, v) + " = BEYOND";
                run(all);
            }
        }
    }

    /** The call with one argument so, and the others at their least. */
    static String with(String[] words, int at, long v) {
        StringBuilder b = new StringBuilder(words[0]);
        for (int i = 1; i < words.length; i++) {
            b.append(' ').append(i == at ? String.valueOf(v) : words[i].replaceFirst("\\.\\..*", ""));
        }
        return b.toString();
    }

    static boolean isBeyond(String[] ahead, String told) {
        Used used = after(callsOf(ahead), callsOf(ahead).size());
        Call call = callsOf(told).get(0);
        asked++;
        return used.call(call.name, call.args) == -1000000001L;
    }

    /** For pairs of a grime and a value: what a duster of a kind does by of(.., what). */
    static void byGrime(int kind, int what, int... pairs) {
        for (int i = 0; i < pairs.length; i += 2) {
            run("duster " + kind + ", set 0 2 " + pairs[i] + ", of 0 " + what + " = " + pairs[i + 1]);
        }
    }

    /** A text with its fault at a place: alone, and with items ahead that must not come to the house then. */
    static void fault(String text, int place) {
        faultAfter("", text, place);
        String ahead = "falls 9;room 7 dust 9;";
        if (ahead.length() + text.length() <= 120 && !text.trim().isEmpty()) {
            faultAfter("", ahead + text, ahead.length() + place);
        }
    }

    static void faultAfter(String steps, String text, int place) {
        String[] start = steps.isEmpty() ? new String[0] : new String[] {steps};
        run(steps.isEmpty() ? "count 1 = 0" : steps, "tell '" + text + "' = " + (-1 - place), "count 1 = 0, status -1 = 0");
        List<Call> before = callsOf(start);
        List<Call> all = new ArrayList<>(before);
        addText(all, "tell '" + text + "' = 0");
        List<Long> due = houseOf(after(before, before.size()));
        List<Long> got = houseOf(after(all, all.size()));
        must(due.equals(got), "'" + text + "' has a fault, but changed " + due + " to " + got);
    }

    // ---- terms

    static void findings() {
        sentence(0, "An object is used for at most 512 calls after it has been made; what later calls answer is free.");
        run("511x now 0 = 0, falls 20 = 3");
        run("511x falls 21 = BEYOND, status 0 = 511");

        sentence(0, "FINDINGS are answers below -1000000000: -1000000001 BEYOND, -1000000002 FULL, -1000000003 KIND, "
            + "-1000000004 NONE, -1000000005 STATE, -1000000006 MISSING, -1000000007 SIZE (in longs, too).");
        run("falls 21 = -1000000001");
        run("8x duster 0, duster 0 = -1000000002");
        run("duster 0, as 0 1 = -1000000003");
        run("undo = -1000000004");
        run(LAST_DAY, "days 1 = -1000000005");
        run("lays 0 = -1000000006");
        run("sheet 0 8 -1 = -1000000007");
        run("write 4 0 0 = -1000000001");
        run("write 0 0 0 = -1000000006");
        run("sheet 0 64 1, write 0 0 -1000000001, write 0 0 5 = -1000000001, write 0 0 0 = 5, status -1 = 0");

        sentence(0, "Each act tells its findings in the order in which they are asked; "
            + "one that answers a finding changes nothing but status().");
        run("8x duster 0, duster 6 = BEYOND, duster 0 = FULL");
        run("duster 0, as 1 1 = BEYOND, as 0 6 = BEYOND, as 0 1 = KIND");
        run(LAST_DAY, "days 0 = BEYOND, days 61 = BEYOND, days 1 = STATE");
        run("clean 8 = BEYOND, clean 7 = NONE");
        run("comes 8 0 = BEYOND, comes 0 10 = BEYOND, comes 0 0 = NONE");
        run("duster 0, holds 1 0 = BEYOND, holds 0 10 = BEYOND, holds 0 0 = NONE");
        run("best 0 = BEYOND, best 41 = BEYOND, best 1 = NONE");
        run("30x feed 0 4, feed 0 0 = BEYOND, feed 0 5 = BEYOND, feed 0 1 = FULL");
        run("sheet 4 8 -1 = BEYOND, sheet 0 7 -1 = BEYOND, sheet 0 8 -1 = SIZE, sheet 0 8 41 = BEYOND");
        run("write 4 40 0 = BEYOND, write 0 40 0 = MISSING, sheet 0 8 40, write 0 40 0 = BEYOND");
        run("copy 4 -1 0 0 0 = BEYOND, copy 0 -1 4 0 0 = BEYOND, copy 0 -1 1 0 0 = MISSING");
        run("sheet 0 8 1, copy 0 -1 1 0 0 = MISSING, copy 1 -1 0 0 0 = MISSING");
        run("sheet 0 8 1, sheet 1 16 1, copy 0 -1 1 0 0 = KIND, sheet 1 8 1, copy 0 -1 1 0 0 = BEYOND");
        run("lays 4 = BEYOND, lays 3 = MISSING");
        run("book 4 8 = BEYOND, book 3 8 = MISSING, sheet 3 8 1, book 3 8 = BEYOND");
        run("read 4 8 0 = BEYOND, read 3 8 0 = MISSING, sheet 3 8 1, read 3 8 0 = BEYOND, read 3 0 0 = BEYOND");

        sentence(0, "Quotients are cut.");
        byGrime(0, 5, 9, 12, 10, 11, 99, 3);
        byGrime(0, 7, 24, 0, 99, 3);
        run("duster 0, room 0 0 1, through 0 0 = 1, of 0 2 = 0");
        run("duster 0, room 0 0 3, through 0 0 = 3, of 0 2 = 1");
        run("duster 0, set 0 2 1, shake 0, of 0 2 = 0");
        run("duster 0, set 0 2 99, shake 0, of 0 2 = 49");

        sentence(0, "Sets are told by bits.");
        run("tell 'room 0 has 0 9' = 1", "roomOf 0 1 = 1+512");
        run("tell 'wool holds 0 9' = 1", "of 0 1 = 1+512, now 5 = 513");
        run("8x duster 0, set 1 3 7, roomOf 7 2 = 2+128, roomOf 1 2 = 0");
    }

    static void whatIsThere() {
        sentence(0, "DAY: 0 at first (9999 at most).");
        run("now 0 = 0");
        run(LAST_DAY, "now 0 = 9999, days 1 = STATE, now 0 = 9999");

        sentence(0, "FALLS (how much dust comes a day: 0 to 20; 3 at first).");
        run("now 1 = 3, days 1 = 184");
        run("falls 0 = 3, days 60 = 160");
        run("falls 20 = 3, days 1 = 320");
        run("falls 21 = BEYOND, days 1 = 184");
        run("falls -1 = BEYOND, days 1 = 184");

        sentence(0, "MEMORIES 0 to 9.");
        run("comes 0 0 = NONE, comes 0 9 = NONE, comes 0 10 = BEYOND, comes 0 -1 = BEYOND");
        run("tell 'room 0 has 9' = 1", "roomOf 0 1 = 512");
        run("tell 'room 0 has 10' = -12", "roomOf 0 1 = 0");

        sentence(0, "ROOMS 0 to 7, each with DUST (0 to 99; 20 at first) and a set of MEMORIES (none at first).");
        for (int room = 0; room < 8; room++) {
            run("roomOf " + room + " 0 = 20, roomOf " + room + " 1 = 0");
            run("room " + room + " 0 99 = 20, roomOf " + room + " 0 = 99, room " + room + " 0 0 = 99");
        }
        run("roomOf -1 0 = BEYOND");
        run("roomOf 8 0 = BEYOND");
        run("room 0 0 100 = BEYOND");
        run("room 0 0 -1 = BEYOND");

        sentence(0, "DUSTERS 0, 1, .. (at most 8) are of KINDS: 0 DUSTER, 1 HEMMED under DUSTER, 2 GLASS under DUSTER, "
            + "3 WOOL under DUSTER, 4 WEDDING under HEMMED, 5 SILK under GLASS;");
        run("duster 0 = 0, duster 1 = 1, duster 2 = 2, duster 3 = 3, duster 4 = 4, duster 5 = 5, duster 0 = 6, "
            + "duster 5 = 7, duster 0 = FULL, count 0 = 8");
        run("duster -1 = BEYOND, duster 6 = BEYOND, count 0 = 0");
        boolean[][] under = {{}, {true}, {true}, {true}, {true, true}, {true, false, true}};
        for (int kind = 0; kind < 6; kind++) {
            for (int above = 0; above < 6; above++) {
                boolean is = kind == above || above < under[kind].length && under[kind][above];
                run("duster " + kind + ", as 0 " + above + " = " + (is ? "0" : "KIND"));
            }
        }

        sentence(0, "each HOLDS a set of MEMORIES (none at first), has GRIME (0 to 99; 0 at first), "
            + "and a ROUND (0 to 7: at first its number, as it comes)");
        for (int one = 0; one < 8; one++) {
            run("8x duster 0, of " + one + " 1 = 0, of " + one + " 2 = 0, of " + one + " 3 = " + one);
        }
        run("duster 0, set 0 2 99 = 0, set 0 2 100 = BEYOND, set 0 2 -1 = BEYOND, of 0 2 = 99");
        run("duster 0, set 0 3 7 = 0, set 0 3 8 = BEYOND, set 0 3 -1 = BEYOND, of 0 3 = 7");
        run("duster 0, days 5, duster 0, of 1 3 = 1");
        run("duster 0, image, duster 0 = 1, set 1 1 7, set 1 2 7, set 1 3 7, undo = 1, duster 0 = 1",
            "of 1 1 = 0, of 1 2 = 0, of 1 3 = 1");
        run("duster 0", "tell 'wool;silk' = 2", "of 1 3 = 1, of 2 3 = 2, of 2 1 = 0, of 2 2 = 0");

        sentence(0, "on DAY d it is in the ROOM that is the rest of (d and ROUND) by 8.");
        run("duster 0, of 0 4 = 0, days 7, of 0 4 = 7, days 1, of 0 4 = 0");
        run("duster 0, set 0 3 7, of 0 4 = 7, days 1, of 0 4 = 0, roomOf 0 2 = 1, roomOf 7 2 = 0");
        run("duster 0", LAST_DAY, "of 0 4 = 7, set 0 3 7, of 0 4 = 6");
        run("duster 0, set 0 3 7, falls 0, days 1, roomOf 7 0 = 8, days 1, roomOf 0 0 = 8, roomOf 1 0 = 20");
    }

    static void whatTheKindsDo() {
        sentence(0, "DUSTER: 12 less a tenth of g.");
        byGrime(0, 5, 0, 12, 9, 12, 10, 11, 19, 11, 20, 10, 89, 4, 90, 3, 99, 3);
        sentence(0, "HEMMED: as DUSTER, and 3.");
        byGrime(1, 5, 0, 15, 9, 15, 10, 14, 99, 6);
        sentence(0, "GLASS: as DUSTER, twice that, if g is below 20.");
        byGrime(2, 5, 0, 24, 9, 24, 10, 22, 19, 22, 20, 10, 21, 10, 99, 3);
        sentence(0, "WOOL: 9. WEDDING: as HEMMED, less 5.");
        byGrime(3, 5, 0, 9, 20, 9, 99, 9);
        byGrime(4, 5, 0, 10, 9, 10, 10, 9, 99, 1);
        sentence(0, "SILK: as GLASS, less 1.");
        byGrime(5, 5, 0, 23, 19, 21, 20, 9, 99, 2);
        sentence(0, "(No more than there is.)");
        run("duster 0, room 0 0 0, through 0 0 = 0, roomOf 0 0 = 0, of 0 2 = 0");
        run("duster 0, room 0 0 11, through 0 0 = 11, roomOf 0 0 = 0");
        run("duster 0, room 0 0 12, through 0 0 = 12, roomOf 0 0 = 0");
        run("duster 0, room 0 0 13, through 0 0 = 12, roomOf 0 0 = 1");

        sentence(0, "TAKES UP (how many of the ROOM's MEMORIES that it doesn't HOLD, of GRIME g): DUSTER: 1.");
        byGrime(0, 6, 0, 1, 60, 1, 61, 1, 99, 1);
        run("duster 0, through 0 0, of 0 1 = 0, roomOf 0 1 = 0");
        run("duster 0, set 0 1 1023, room 0 1 1023, through 0 0, of 0 1 = 1023, roomOf 0 1 = 1023");
        run("duster 0, set 0 1 3, room 0 1 1+2+4+8, through 0 0, of 0 1 = 1+2+4, roomOf 0 1 = 1+2+8");
        sentence(0, "HEMMED: as DUSTER, and 1. GLASS: as DUSTER, but 0, if g is above 60.");
        byGrime(1, 6, 0, 2, 99, 2);
        run("duster 1, room 0 1 512, through 0 0, of 0 1 = 512, roomOf 0 1 = 0");
        run("duster 1, room 0 1 256+512, through 0 0, of 0 1 = 768, roomOf 0 1 = 0");
        run("duster 1, room 0 1 1023, through 0 0, of 0 1 = 3, roomOf 0 1 = 1020");
        byGrime(2, 6, 0, 1, 59, 1, 60, 1, 61, 0, 99, 0);
        run("duster 2, set 0 2 60, room 0 1 3, through 0 0, of 0 1 = 1, roomOf 0 1 = 2");
        run("duster 2, set 0 2 61, room 0 1 3, through 0 0, of 0 1 = 0, roomOf 0 1 = 3");
        sentence(0, "WOOL: 9. WEDDING: as HEMMED. SILK: 0.");
        byGrime(3, 6, 0, 9, 99, 9);
        run("duster 3, room 0 1 1023, through 0 0, of 0 1 = 511, roomOf 0 1 = 512");
        run("duster 3, room 0 1 1022, through 0 0, of 0 1 = 1022, roomOf 0 1 = 0");
        run("duster 3, set 0 1 1, room 0 1 1023, through 0 0, of 0 1 = 1023, roomOf 0 1 = 1");
        byGrime(4, 6, 0, 2, 61, 2, 99, 2);
        byGrime(5, 6, 0, 0, 99, 0);
        run("duster 5, room 0 1 1023, through 0 0, of 0 1 = 0, roomOf 0 1 = 1023");
        leaving();
        keeping();
    }

    static void leaving() {
        sentence(0, "LEAVES (how many of its own that the ROOM doesn't have, of GRIME g): DUSTER: 0, and 1 for each 25 of g.");
        byGrime(0, 7, 0, 0, 24, 0, 25, 1, 49, 1, 50, 2, 74, 2, 75, 3, 99, 3);
        run("duster 0, set 0 1 1023, set 0 2 24, through 0 0, roomOf 0 1 = 0");
        run("duster 0, set 0 1 1023, set 0 2 25, through 0 0, roomOf 0 1 = 1");
        run("duster 0, set 0 1 1023, set 0 2 75, room 0 1 2, through 0 0, roomOf 0 1 = 1+2+4+8");
        run("duster 0, set 0 1 512, set 0 2 75, through 0 0, roomOf 0 1 = 512, of 0 1 = 512");
        run("duster 0, set 0 1 512, set 0 2 75, room 0 1 512, through 0 0, roomOf 0 1 = 512, of 0 1 = 512");
        run("duster 0, set 0 2 99, through 0 0, roomOf 0 1 = 0");
        sentence(0, "HEMMED: as DUSTER, and 1. GLASS: as DUSTER.");
        byGrime(1, 7, 0, 1, 24, 1, 25, 2, 99, 4);
        byGrime(2, 7, 0, 0, 24, 0, 25, 1, 99, 3);
        sentence(0, "WOOL: as DUSTER, less 1 (0 at least).");
        byGrime(3, 7, 0, 0, 24, 0, 25, 0, 49, 0, 50, 1, 74, 1, 75, 2, 99, 2);
        run("duster 3, set 0 1 1023, through 0 0, roomOf 0 1 = 0, of 0 1 = 1023");
        run("duster 3, set 0 1 1023, set 0 2 50, through 0 0, roomOf 0 1 = 1");
        sentence(0, "WEDDING: as HEMMED, twice that.");
        byGrime(4, 7, 0, 2, 24, 2, 25, 4, 99, 8);
        run("duster 4, set 0 1 1023, set 0 2 99, through 0 0, roomOf 0 1 = 255, of 0 1 = 1023");
        run("duster 4, set 0 1 512, set 0 2 99, through 0 0, roomOf 0 1 = 512");
        sentence(0, "SILK: as GLASS, and 1, if g is 0.");
        byGrime(5, 7, 0, 1, 1, 0, 24, 0, 25, 1, 99, 3);
        run("duster 5, set 0 1 1, through 0 0, roomOf 0 1 = 1");
        run("duster 5, set 0 1 1, set 0 2 1, through 0 0, roomOf 0 1 = 0");
    }

    static void keeping() {
        sentence(0, "KEEPS (whether it goes on HOLDING what it LEFT): DUSTER: yes. HEMMED: as DUSTER. GLASS: no. "
            + "WOOL: as DUSTER. WEDDING: as HEMMED.");
        int[] keeps = {1, 1, 0, 1, 1};
        for (int kind = 0; kind < 5; kind++) {
            run("duster " + kind + ", of 0 8 = " + keeps[kind]);
            run("duster " + kind + ", set 0 1 1023, of 0 8 = " + keeps[kind]);
            run("duster " + kind + ", set 0 1 1, set 0 2 50, through 0 0, roomOf 0 1 = 1, of 0 1 = " + keeps[kind]);
        }
        run("duster 2, set 0 1 1023, set 0 2 99, through 0 0, of 0 1 = 1016, roomOf 0 1 = 7");
        sentence(0, "SILK: as GLASS, but yes, if it HOLDS 5 or more (as it LEAVES).");
        run("duster 5, of 0 8 = 0");
        run("duster 5, set 0 1 8+16+32+64, of 0 8 = 0, through 0 0, roomOf 0 1 = 8, of 0 1 = 16+32+64");
        run("duster 5, set 0 1 8+16+32+64+512, of 0 8 = 1, through 0 0, roomOf 0 1 = 8, of 0 1 = 8+16+32+64+512");
        run("duster 5, set 0 1 31, set 0 2 99, through 0 0, roomOf 0 1 = 7, of 0 1 = 31");
        run("duster 5, set 0 1 1023, of 0 8 = 1");
    }

    static void goingThrough() {
        sentence(0, "A DUSTER goes through a ROOM: what it TAKES UP, what it LEAVES, what it WIPES and whether it KEEPS "
            + "are found out first (of MEMORIES the least).");
        // What it takes up now it doesn't leave now, and what it leaves now it doesn't take up.
        run("duster 2, set 0 2 25, room 0 1 1, through 0 0, of 0 1 = 1, roomOf 0 1 = 0");
        run("duster 2, set 0 2 25, set 0 1 1, through 0 0, of 0 1 = 0, roomOf 0 1 = 1");
        run("duster 1, set 0 1 4+8, room 0 1 16+32+64, through 0 0, of 0 1 = 4+8+16+32, roomOf 0 1 = 4+64");
        // By the grime that it had: 24 leaves none, though there are 29 then; 0 is still 0 for silk.
        run("duster 0, set 0 2 24, set 0 1 1, through 0 0 = 10, of 0 2 = 29, roomOf 0 1 = 0");
        run("duster 5, set 0 1 1, through 0 0 = 20, of 0 2 = 10, roomOf 0 1 = 1");
        run("duster 2, set 0 2 60, room 0 1 512, through 0 0, of 0 2 = 63, of 0 1 = 512");

        sentence(0, "DUST of the ROOM is what it WIPES less, GRIME is half of that more (cut; 99 at most).");
        run("duster 0, through 0 0 = 12, roomOf 0 0 = 8, of 0 2 = 6");
        run("duster 3, through 0 0 = 9, roomOf 0 0 = 11, of 0 2 = 4");
        run("duster 0, room 0 0 1, through 0 0 = 1, roomOf 0 0 = 0, of 0 2 = 0");
        run("duster 3, set 0 2 94, through 0 0 = 9, of 0 2 = 98");
        run("duster 3, set 0 2 95, through 0 0 = 9, of 0 2 = 99");
        run("duster 3, set 0 2 96, through 0 0 = 9, of 0 2 = 99");
        run("duster 3, set 0 2 99, through 0 0 = 9, of 0 2 = 99");

        sentence(0, "A DAY goes: DUSTERS by numbers go through their ROOMS; then DUST of each ROOM is FALLS more (99 at most). "
            + "DAY is 1 more.");
        run("duster 0, duster 3, set 1 3 0, room 0 1 3, days 1, of 0 1 = 1, of 1 1 = 2");
        run("duster 3, duster 0, set 1 3 0, room 0 1 3, days 1, of 0 1 = 3, of 1 1 = 0");
        run("room 0 0 95, room 1 0 96, room 2 0 97, room 3 0 99, days 1",
            "roomOf 0 0 = 98, roomOf 1 0 = 99, roomOf 2 0 = 99, roomOf 3 0 = 99, roomOf 7 0 = 23, now 0 = 1");
        // It wipes of what there is ahead of the dust that falls.
        run("duster 0, room 0 0 99, falls 20, days 1, roomOf 0 0 = 99, of 0 2 = 6");
        run("duster 0, room 0 0 0, falls 20, days 1, roomOf 0 0 = 20, of 0 2 = 0");

        sentence(0, "WASHED: all ROOMS have what it HOLDS, too; it HOLDS none, GRIME 0.");
        run("duster 0, set 0 1 1023, set 0 2 99, wash 0, now 3 = 1023, of 0 1 = 0, of 0 2 = 0, now 2 = 160");
        run("duster 0, set 0 2 99, room 4 1 8, wash 0 = 0, now 3 = 0, now 4 = 8, of 0 2 = 0");
        run("duster 0, set 0 1 1, room 4 1 8, wash 0, roomOf 4 1 = 9, roomOf 0 1 = 1, roomOf 7 1 = 1");

        sentence(0, "SHAKEN: the ROOM behind the one in which it is on this DAY (behind 7: 0) has what it HOLDS, too; "
            + "it HOLDS none, GRIME half of what it is.");
        run("duster 0, set 0 1 5, room 1 1 8, shake 0, roomOf 1 1 = 13, roomOf 0 1 = 0, now 4 = 13, count 2 = 3, of 0 1 = 0");
        run("duster 0, set 0 3 6, set 0 1 5, shake 0, roomOf 7 1 = 5, count 2 = 2");
        run("duster 0, set 0 3 7, set 0 1 5, shake 0, roomOf 0 1 = 5, count 2 = 2");
        run("duster 0, days 7, set 0 1 5, shake 0, roomOf 0 1 = 5, count 2 = 2");
        run("duster 0, set 0 2 99, shake 0, of 0 2 = 49, shake 0, of 0 2 = 24");
        run("duster 0, set 0 2 1, shake 0, of 0 2 = 0, shake 0, of 0 2 = 0");
    }

    static void tokens() {
        sentence(0, "THE TEXT of a HOUSE, from THE TAPE (bytes, at most 120).");
        run("29x feed 0x20202020 4, feed 0x20202020 3 = 119, feed 0x2020 2 = FULL, feed 0x20 1 = 120, feed 0x20 1 = FULL, house = -121");
        run("tell '" + " ".repeat(112) + "falls 20' = 1", "now 1 = 20");

        sentence(0, "TOKENS, each as long as can be: WORDS (letters a to z), NUMBERS (digits, 999 at most), SIGN ; ; "
            + "blanks may stand between.");
        fault("woolwool", 0);
        fault("woolgrime 1", 0);
        fault("wool holds 12", 11);
        run("tell 'wool holds 1 2' = 1", "of 0 1 = 6");
        run("tell 'wool holds1 2grime3;room0dust4has5;falls6' = 3",
            "of 0 1 = 6, of 0 2 = 3, roomOf 0 0 = 4, roomOf 0 1 = 32, now 1 = 6");
        // The letters that end the row, and the bytes next to them.
        fault("woola", 0);
        fault("woolz", 0);
        fault("wool`", 4);
        fault("wool{", 4);
        fault("woolA", 4);
        fault("Wool", 0);
        fault("wool\u00f7", 4);
        // The digits that end the row, and the bytes next to them.
        run("tell 'falls 10' = 1", "now 1 = 10");
        run("tell 'falls 19' = 1", "now 1 = 19");
        fault("falls 1/", 7);
        fault("falls 1:", 7);
        fault("falls 1<", 7);
        fault("falls 999", 6);
        fault("falls 1000", 6);
        fault("falls 4294967299", 6);
        fault("falls 18446744073709551619", 6);
        fault("falls 1" + "0".repeat(80), 6);
        fault("wool 999", 5);
        fault("wool 1000", 5);
        run("tell 'falls 020' = 1", "now 1 = 20");
        run("tell '  falls   1  ;  wool  ' = 2", "now 1 = 1, count 0 = 1");
        fault("wo ol", 0);
        fault("falls 1 0", 8);
        fault("wool\t", 4);
        fault("wool\n", 4);
        fault("wool\u00a0", 4);

        sentence(0, "TEXT: ITEM { ; ITEM }.");
        fault("", 0);
        fault(" ", 1);
        fault(";", 0);
        fault(";wool", 0);
        fault("wool;", 5);
        fault("wool; ", 6);
        fault("wool;;wool", 5);
        fault("wool wool", 5);
        run("tell 'wool' = 1", "count 0 = 1");
        run("tell 'wool;wool' = 2", "count 0 = 2");
        run("tell '" + "room1;".repeat(19) + "room7 ' = 20", "count 1 = 0");
    }

    static void items() {
        sentence(0, "ITEM: the name of a KIND (duster hemmed glass wool wedding silk), perhaps holds and 1 to 4 NUMBERS "
            + "(MEMORIES), perhaps grime and a NUMBER (0 to 99): one more;");
        String[] names = {"duster", "hemmed", "glass", "wool", "wedding", "silk"};
        for (int kind = 0; kind < 6; kind++) {
            run("tell '" + names[kind] + "' = 1", "count 0 = 1, of 0 0 = " + kind + ", of 0 1 = 0, of 0 2 = 0, of 0 3 = 0");
            fault(names[kind].substring(0, names[kind].length() - 1), 0);
            fault(names[kind] + "s", 0);
            fault("z" + names[kind].substring(1), 0);
            fault("z" + names[kind], 0);
        }
        fault("wool holds", 10);
        fault("wool holds grime 1", 11);
        fault("wool holds;wool", 10);
        run("tell 'wool holds 0' = 1", "of 0 1 = 1");
        run("tell 'wool holds 9' = 1", "of 0 1 = 512");
        run("tell 'wool holds 0 3 6 9' = 1", "of 0 1 = 1+8+64+512");
        run("tell 'wool holds 3 3 3 3 grime 1' = 1", "of 0 1 = 8, of 0 2 = 1");
        fault("wool holds 0 1 2 3 4", 19);
        fault("wool holds 10", 11);
        fault("wool holds 0 1 2 10", 17);
        fault("wool holds 1 holds 2", 13);
        run("tell 'wool grime 0' = 1", "of 0 2 = 0");
        run("tell 'wool grime 99' = 1", "of 0 2 = 99");
        fault("wool grime", 10);
        fault("wool grime;wool", 10);
        fault("wool grime 100", 11);
        fault("wool grime 1 2", 13);
        fault("wool grime 1 grime 1", 13);
        fault("wool grime 1 holds 1", 13);
        fault("wool has 1", 5);
        fault("wool dust 1", 5);

        sentence(0, "room, a NUMBER (0 to 7), perhaps dust and a NUMBER (0 to 99), perhaps has and 1 to 4 NUMBERS "
            + "(MEMORIES, these alone);");
        run("tell 'room 0 dust 1;room 7 dust 2' = 2", "roomOf 0 0 = 1, roomOf 7 0 = 2");
        fault("room 8", 5);
        fault("room", 4);
        fault("room;wool", 4);
        fault("room dust 1", 5);
        fault("room 1 2", 7);
        run("room 3 1 7", "tell 'room 3' = 1", "roomOf 3 0 = 20, roomOf 3 1 = 7");
        run("tell 'room 3 dust 0' = 1", "roomOf 3 0 = 0");
        run("tell 'room 3 dust 99' = 1", "roomOf 3 0 = 99");
        fault("room 3 dust", 11);
        fault("room 3 dust 100", 12);
        fault("room 3 dust 1 2", 14);
        fault("room 3 dust 1 dust 2", 14);
        fault("room 3 has", 10);
        fault("room 3 has;wool", 10);
        fault("room 3 has dust 1", 11);
        run("room 3 1 1023", "tell 'room 3 has 0' = 1", "roomOf 3 1 = 1, roomOf 3 0 = 20");
        run("room 3 1 1023", "tell 'room 3 dust 5 has 0 3 6 9' = 1", "roomOf 3 1 = 1+8+64+512, roomOf 3 0 = 5");
        fault("room 3 has 0 1 2 3 4", 19);
        fault("room 3 has 10", 11);
        fault("room 3 has 1 dust 1", 13);
        fault("room 3 has 1 has 1", 13);
        fault("room 3 holds 1", 7);
        fault("room 3 grime 1", 7);

        sentence(0, "falls and a NUMBER (0 to 20);");
        run("tell 'falls 0' = 1", "now 1 = 0");
        run("tell 'falls 20' = 1", "now 1 = 20");
        fault("falls 21", 6);
        fault("falls", 5);
        fault("falls;wool", 5);
        fault("falls 1 1", 8);
        fault("falls falls", 6);

        sentence(0, "wash, a NUMBER (one there by then): it is WASHED.");
        fault("wash 0", 5);
        fault("wash 0;wool", 5);
        fault("wool;wash 1", 10);
        fault("wash", 4);
        fault("wash wool", 5);
        fault("wool;wash 0 0", 12);
        run("tell 'wool holds 4 grime 9;wash 0' = 2", "now 3 = 16, of 0 1 = 0, of 0 2 = 0");
        run("8x duster 0, set 7 1 2, set 7 2 9", "tell 'wash 7' = 1", "now 3 = 2, of 7 1 = 0, of 7 2 = 0");
        faultAfter("8x duster 0", "wash 8", 5);
        faultAfter("duster 0, set 0 1 7", "wash 0;wash 1", 12);
    }

    static void faults() {
        sentence(0, "FAULT: the place (from 0) of the first byte of the first TOKEN that can't stand there");
        fault("7", 0);
        fault("holds 1", 0);
        fault("  7", 2);
        fault("falls 5; wool ;  room 1 dust  100 ; silks", 30);
        sentence(0, "(a NUMBER that may not be or is a fifth of MEMORIES, another WORD, a byte that begins no TOKEN, "
            + "the name of a KIND for a 9th: its own)");
        fault("falls  21", 7);
        fault("falls 0021", 6);
        fault("room 8 dust 1", 5);
        fault("wool holds 1 1 1 1 1", 19);
        fault("wool holds 1 1 1 1 10", 19);
        fault("room 0 has 1 1 1 1   1", 21);
        fault("wool  hold 1", 6);
        fault("wool holdss 1", 5);
        fault("falls 1x", 7);
        fault("\u0000", 0);
        fault("wool\u0000", 4);
        fault("wool\u00ff", 4);
        fault("falls -1", 6);
        fault("falls +1", 6);
        fault("falls 1.5", 7);
        fault("wool,wool", 4);
        fault("wool;".repeat(8) + "silk", 40);
        fault("wool;".repeat(8) + " silk holds 10", 41);
        faultAfter("7x duster 0", "wool;silk", 5);
        faultAfter("8x duster 0", "falls 4;  duster", 10);
        run("8x duster 0", "tell 'falls 4;wash 0;room 1' = 3");
        run("tell '" + "wool;".repeat(7) + "silk' = 8", "count 0 = 8, of 7 0 = 5, of 7 3 = 7");
        sentence(0, "or how many bytes there are if it ends too early.");
        fault("", 0);
        fault("   ", 3);
        fault("wool holds", 10);
        fault("wool holds   ", 13);
        fault("room 1 dust", 11);
        fault("falls   ", 8);
        fault("wool;wash", 9);
        fault("wool;  ", 7);
        fault(" ".repeat(120), 120);
        fault(" ".repeat(116) + "room", 120);
        // Not this: a word that is the beginning of another one, with no byte behind it.
        fault(" ".repeat(116) + "dust", 116);
    }

    static void aheadAndSheets() {
        sentence(0, "ON: n DAYS go on with all as it is; nothing changes.");
        run("duster 0, room 0 1 1, on 0 100 0, on 0 1 1 = 0, roomOf 0 1 = 1, roomOf 0 0 = 20, of 0 1 = 0, of 0 2 = 0, now 0 = 0");
        run("duster 0, then 0 100 0, then 0 0 1 = 0, now 0 = 0, of 0 2 = 0");
        run(LAST_DAY, "on 0 100 0 = 99, now 0 = 9999, fullest 100 = 0, clean 0 = NONE, now 0 = 9999");

        sentence(0, "SHEETS 0 to 3 are rows of at most 40 numbers of 8, 16 or 64 bits, or MISSING (at first).");
        for (int s = 0; s < 4; s++) {
            run("write " + s + " 0 0 = MISSING");
            for (int bits : new int[] {8, 16, 64}) {
                run("sheet " + s + " " + bits + " 40 = 40, write " + s + " 39 5 = 0, write " + s + " 39 0 = 5");
                run("sheet " + s + " " + bits + " 41 = BEYOND, write " + s + " 0 0 = MISSING");
            }
        }
        run("sheet 4 8 1 = BEYOND");
        run("sheet -1 8 1 = BEYOND");
    }

    // ---- promises

    static void rooms() {
        sentence(1, "No DUSTERS; THE TAPE is empty, no image is kept.");
        run("count 0 = 0");
        run("of 0 0 = BEYOND");
        run("count 1 = 0");
        run("wipe = 0");
        run("house = -1");
        run("undo = NONE");
        run("tear = 0");
        run("status -1 = 0");

        sentence(2, "FALLS become v: what they were. BEYOND.");
        run("falls 0 = 3, falls 20 = 0, falls 20 = 20, now 1 = 20");
        run("falls -1 = BEYOND, now 1 = 3");
        run("falls 21 = BEYOND, now 1 = 3");
        run("falls MIN = BEYOND");
        run("falls MAX = BEYOND");
        bounds("falls 0..20");

        sentence(3, "DUST (what 0), MEMORIES (1; 0 to 1023) of a ROOM becomes v: what it was. BEYOND.");
        run("room 0 0 0 = 20, room 0 0 99 = 0, roomOf 0 0 = 99");
        run("room 7 1 1023 = 0, room 7 1 0 = 1023, roomOf 7 1 = 0");
        run("room 0 0 100 = BEYOND, roomOf 0 0 = 20");
        run("room 0 0 -1 = BEYOND");
        run("room 0 1 1024 = BEYOND, roomOf 0 1 = 0");
        run("room 0 1 -1 = BEYOND");
        run("room 8 0 0 = BEYOND");
        run("room -1 0 0 = BEYOND");
        run("room 0 2 0 = BEYOND");
        run("room 0 -1 0 = BEYOND");
        bounds("room 0..7 0..1 0..99");
        bounds("room 0..7 1 0..1023");

        sentence(4, "Of a ROOM: what 0 DUST, 1 MEMORIES, as a set, 2 who is in it on this DAY, as a set. BEYOND.");
        run("roomOf 7 0 = 20, roomOf 7 1 = 0, roomOf 7 2 = 0");
        run("8x duster 0, roomOf 0 2 = 1, roomOf 7 2 = 128");
        run("8x duster 0, set 0 3 7, days 1, roomOf 0 2 = 1+128, roomOf 7 2 = 64");
        run("roomOf 8 0 = BEYOND");
        run("roomOf -1 0 = BEYOND");
        run("roomOf 0 3 = BEYOND");
        run("roomOf 0 -1 = BEYOND");
        bounds("roomOf 0..7 0..2");

        sentence(5, "What 0 DAY, 1 FALLS, 2 DUST of all ROOMS together, 3 MEMORIES that all ROOMS have, "
            + "4 those that some ROOM has, 5 those that some DUSTER HOLDS, as sets. BEYOND.");
        run("now 0 = 0, now 1 = 3, now 2 = 160, now 3 = 0, now 4 = 0, now 5 = 0");
        run("duster 0, set 0 1 1023, now 5 = 1023, wash 0, now 3 = 1023, now 4 = 1023, now 5 = 0");
        run("duster 0, set 0 1 1023, wash 0, room 7 1 0, now 3 = 0, now 4 = 1023");
        run("duster 0, set 0 1 1023, wash 0, room 0 1 0, now 3 = 0, now 4 = 1023");
        run("8x duster 0, now 5 = 0, set 7 1 512, now 5 = 512");
        run("room 0 1 1, now 3 = 0, now 4 = 1");
        run("falls 20, days 60 = 792, now 2 = 792, now 0 = 60");
        run("now 6 = BEYOND");
        run("now -1 = BEYOND");
        bounds("now 0..5");
    }

    static void dusters() {
        sentence(6, "One more: the number. BEYOND: kind. FULL.");
        run("duster 0 = 0, duster 5 = 1, count 0 = 2");
        run("duster 6 = BEYOND, count 0 = 0");
        run("duster -1 = BEYOND, count 0 = 0");
        run("7x duster 0, duster 5 = 7, duster 0 = FULL, count 0 = 8, duster -1 = BEYOND");
        bounds("duster 0..5");

        sentence(7, "Of one: what 0 KIND, 1 HOLDS, as a set, 2 GRIME, 3 ROUND, 4 the ROOM in which it is on this DAY, "
            + "5 WIPES (however much there is), 6 TAKES UP, 7 LEAVES (at most), 8 1 if it KEEPS what it LEFT, else 0. BEYOND.");
        run("of 0 0 = BEYOND");
        run("duster 5, of 0 0 = 5, of 0 1 = 0, of 0 2 = 0, of 0 3 = 0, of 0 4 = 0, of 0 5 = 23, of 0 6 = 0, of 0 7 = 1, of 0 8 = 0");
        run("duster 0, room 0 0 0, of 0 5 = 12");
        run("duster 3, of 0 6 = 9");
        run("duster 4, set 0 2 99, of 0 7 = 8");
        run("duster 0, of 1 0 = BEYOND");
        run("duster 0, of -1 0 = BEYOND");
        run("duster 0, of 0 9 = BEYOND");
        run("duster 0, of 0 -1 = BEYOND");
        bounds("of 0..1 0..8");

        sentence(8, "What one HOLDS (what 1; 0 to 1023), GRIME (2), ROUND (3) becomes v: what it was. BEYOND.");
        run("duster 0, set 0 1 1023 = 0, set 0 1 0 = 1023, of 0 1 = 0");
        run("duster 0, set 0 2 99 = 0, set 0 2 0 = 99, of 0 2 = 0");
        run("duster 0, set 0 3 7 = 0, set 0 3 0 = 7, of 0 3 = 0");
        run("duster 0, set 0 1 1024 = BEYOND");
        run("duster 0, set 0 2 100 = BEYOND");
        run("duster 0, set 0 3 8 = BEYOND");
        run("duster 0, set 0 0 0 = BEYOND");
        run("duster 0, set 0 4 0 = BEYOND");
        run("set 0 1 0 = BEYOND");
        bounds("set 0..1 1..3 0");
        bounds("set 0 1 0..1023");
        bounds("set 1 2 0..99");
        bounds("set 1 3 0..7");

        sentence(9, "One becomes one of another KIND: what it was. BEYOND.");
        run("duster 0, turn 0 5 = 0, turn 0 0 = 5, of 0 0 = 0");
        run("duster 3, set 0 1 7, set 0 2 8, set 0 3 5, turn 0 4 = 3, of 0 1 = 7, of 0 2 = 8, of 0 3 = 5, of 0 0 = 4");
        run("duster 0, turn 0 6 = BEYOND, of 0 0 = 0");
        run("duster 0, turn 0 -1 = BEYOND");
        run("turn 0 0 = BEYOND");
        bounds("turn 0..1 0..5");

        sentence(10, "One as one of a kind: GRIME. BEYOND: no such one, kind. KIND: it isn't of that kind, nor of one under it.");
        run("duster 4, set 0 2 99, as 0 4 = 99, as 0 1 = 99, as 0 0 = 99, as 0 2 = KIND, as 0 3 = KIND, as 0 5 = KIND");
        run("duster 1, as 0 4 = KIND, as 0 1 = 0");
        run("duster 2, as 0 5 = KIND, as 0 2 = 0");
        run("as 0 0 = BEYOND");
        run("duster 0, as 1 0 = BEYOND");
        run("duster 0, as 0 6 = BEYOND");
        run("duster 0, as 0 -1 = BEYOND");
        bounds("as 0..1 0..5");
        dustersThatGo();
    }

    static void dustersThatGo() {
        sentence(11, "One goes through a ROOM at once: how much DUST it took. BEYOND.");
        run("duster 0, through 0 7 = 12, through 0 7 = 8, through 0 7 = 0, roomOf 7 0 = 0, now 0 = 0, of 0 2 = 10");
        run("duster 0, through 0 8 = BEYOND, now 2 = 160");
        run("duster 0, through 0 -1 = BEYOND");
        run("duster 0, through 1 0 = BEYOND");
        run("through 0 0 = BEYOND");
        bounds("through 0..1 0..7");

        sentence(12, "One is WASHED: what it HELD, as a set. BEYOND.");
        run("duster 0, wash 0 = 0, now 4 = 0");
        run("duster 0, set 0 1 1023, wash 0 = 1023, wash 0 = 0, now 3 = 1023");
        run("wash 0 = BEYOND");
        run("duster 0, wash 1 = BEYOND");
        run("8x duster 0, wash 7 = 0, wash 8 = BEYOND");
        bounds("wash 0..1");

        sentence(13, "One is SHAKEN: what it HELD, as a set. BEYOND.");
        run("duster 0, shake 0 = 0, now 4 = 0");
        run("duster 0, set 0 1 1023, shake 0 = 1023, shake 0 = 0, roomOf 1 1 = 1023");
        run("8x duster 0, set 7 1 2, shake 7 = 2, roomOf 0 1 = 2, count 2 = 1");
        run("shake 0 = BEYOND");
        run("duster 0, shake 1 = BEYOND");
        run("duster 0, shake -1 = BEYOND");
        bounds("shake 0..1");
    }

    static void days() {
        sentence(14, "n DAYS go (1 to 60): DUST of all ROOMS together then. BEYOND. STATE: DAY would be above 9999.");
        run("days 1 = 184, now 0 = 1");
        run("falls 0, days 60 = 160, now 0 = 60");
        run("days 0 = BEYOND, now 0 = 0");
        run("days 61 = BEYOND, now 0 = 0");
        run("days -1 = BEYOND");
        run("days MAX = BEYOND");
        run("166x days 60, days 40 = STATE, now 0 = 9960, days 60 = STATE, days 39 = 792, now 0 = 9999, days 1 = STATE");
        bounds("days 1..60");

        sentence(15, "DUST (what 0), MEMORIES (1; as a set) of a ROOM ON n DAYS (0 to 100). BEYOND.");
        run("on 0 0 0 = 20, on 0 1 0 = 23, on 0 26 0 = 98, on 0 27 0 = 99, on 7 100 0 = 99");
        run("room 7 1 1023, on 7 0 1 = 1023, on 7 100 1 = 1023, on 6 100 1 = 0");
        run("on 0 101 0 = BEYOND");
        run("on 0 -1 0 = BEYOND");
        run("on 8 0 0 = BEYOND");
        run("on 0 0 2 = BEYOND");
        bounds("on 0..7 0..100 0..1");

        sentence(16, "What one HOLDS (what 0; as a set), GRIME (1) ON n DAYS (0 to 100). BEYOND.");
        run("duster 0, then 0 0 0 = 0, then 0 0 1 = 0, then 0 1 1 = 6, then 0 100 1 = 99, now 0 = 0");
        run("duster 0, room 0 1 512, then 0 0 0 = 0, then 0 1 0 = 512, then 0 100 0 = 512");
        run("then 0 0 0 = BEYOND");
        run("duster 0, then 0 101 0 = BEYOND");
        run("duster 0, then 0 -1 0 = BEYOND");
        run("duster 0, then 0 0 2 = BEYOND");
        run("duster 0, then 1 0 0 = BEYOND");
        bounds("then 0..1 0..100 0..1");

        sentence(17, "In how many DAYS (0 to 100) ON a ROOM has no DUST first. BEYOND. NONE.");
        run("room 7 0 0, clean 7 = 0");
        run("clean 0 = NONE");
        run("duster 0, falls 0, room 0 0 12, clean 0 = 1, room 0 0 13, clean 0 = 9");
        run("duster 0, falls 1, room 0 0 12, clean 0 = NONE");
        // A wedding of grime 99 takes 1 from room 3 on days 4, 12, .. 100: the 13th as the 101st day goes.
        run("duster 4, set 0 2 99, set 0 3 7, falls 0, room 3 0 13, clean 3 = NONE, days 1, clean 3 = 100, days 1, clean 3 = 99");
        run("clean 8 = BEYOND");
        run("clean -1 = BEYOND");
        bounds("clean 0..7");

        sentence(18, "In how many DAYS (0 to 100) ON a ROOM has a MEMORY first. BEYOND. NONE.");
        run("room 7 1 512, comes 7 9 = 0, comes 7 8 = NONE, comes 6 9 = NONE");
        run("duster 1, set 0 1 1, comes 0 0 = 1, comes 7 0 = 8");
        // Glass of grime 25 takes the least and leaves the least: 7 gets to room 5 as the 101st day goes.
        run(NO_DUST, "duster 2, set 0 2 25, set 0 3 1, room 0 1 1023, comes 5 7 = NONE, days 1, comes 5 7 = 100, days 1, comes 5 7 = 99");
        run("comes 8 0 = BEYOND");
        run("comes 0 10 = BEYOND");
        run("comes 0 -1 = BEYOND");
        bounds("comes 0..7 0..9");

        sentence(19, "In how many DAYS (0 to 100) ON one HOLDS a MEMORY first. BEYOND. NONE.");
        run("duster 0, set 0 1 512, holds 0 9 = 0, holds 0 8 = NONE");
        run("duster 0, room 0 1 512, holds 0 9 = 1");
        run(NO_DUST, "duster 2, set 0 1 9, set 0 2 25, set 0 3 4, room 0 1 1023, holds 0 7 = NONE, days 1, holds 0 7 = 100");
        run("holds 0 0 = BEYOND");
        run("duster 0, holds 1 0 = BEYOND");
        run("duster 0, holds 0 10 = BEYOND");
        bounds("holds 0..1 0..9");
    }

    static final String NO_DUST = "falls 0, room 0 0 0, room 1 0 0, room 2 0 0, room 3 0 0, room 4 0 0, room 5 0 0, "
        + "room 6 0 0, room 7 0 0";
    static final String ALL_DUST = "room 0 0 99, room 1 0 99, room 2 0 99, room 3 0 99, room 4 0 99, room 5 0 99, "
        + "room 6 0 99, room 7 0 99";

    static void choices() {
        sentence(20, "The ROUND (0 to 7) of one with which DUST of all ROOMS together is least ON n DAYS (1 to 40); "
            + "of several the least. BEYOND.");
        run("duster 0, round 0 1 = 0");
        run(NO_DUST, "room 7 0 1, duster 0, round 0 1 = 7, of 0 3 = 0");
        run(NO_DUST, "room 6 0 1, room 7 0 1, duster 0, round 0 1 = 6");
        run(NO_DUST, "duster 0, set 0 3 5, round 0 40 = 0, of 0 3 = 5");
        run("round 0 1 = BEYOND");
        run("duster 0, round 0 0 = BEYOND");
        run("duster 0, round 0 41 = BEYOND");
        bounds("round 0..1 1..40");

        sentence(21, "The KIND as one of which one makes MEMORIES of all ROOMS (counted each) most ON n DAYS (1 to 40); "
            + "of several the least. BEYOND.");
        run("duster 5, kind 0 1 = 0, kind 0 40 = 0, of 0 0 = 5");
        run("duster 0, room 0 1 1, kind 0 1 = 5");
        run("duster 0, set 0 1 1, kind 0 1 = 1");
        run("duster 0, set 0 1 3, kind 0 1 = 4");
        run("kind 0 1 = BEYOND");
        run("duster 0, kind 0 0 = BEYOND");
        run("duster 0, kind 0 41 = BEYOND");
        bounds("kind 0..1 1..40");

        sentence(22, "The GRIME (0 to 99) of one now with which MEMORIES of all ROOMS (counted each) are most "
            + "ON n DAYS (1 to 40); of several the least. BEYOND.");
        run("duster 0, set 0 2 99, grime 0 1 = 0, grime 0 40 = 0, of 0 2 = 99");
        run("duster 0, set 0 1 1, grime 0 1 = 25");
        run("duster 0, set 0 1 1023, grime 0 1 = 75");
        run("duster 2, room 0 1 1, grime 0 1 = 61");
        // From 90 on it leaves 2 of the 5, so that the one behind it has grime 25 and leaves its memory next day.
        run(NO_DUST, "room 0 0 5, duster 0, duster 0, set 1 1 512, set 1 2 24, set 1 3 0, grime 0 1 = 0, grime 0 2 = 90");
        run("grime 0 1 = BEYOND");
        run("duster 0, grime 0 0 = BEYOND");
        run("duster 0, grime 0 41 = BEYOND");
        bounds("grime 0..1 1..40");

        sentence(23, "Which one, WASHED now, makes DUST of all ROOMS together least ON n DAYS (1 to 40); "
            + "of several the least. BEYOND. NONE: there is none.");
        run("best 1 = NONE");
        run("best 40 = NONE");
        run("duster 0, best 1 = 0, best 40 = 0");
        run("8x duster 0, best 1 = 0");
        run("8x duster 0, set 7 2 99, best 1 = 7, of 7 2 = 99");
        run("8x duster 0, set 6 2 99, set 7 2 99, best 1 = 6");
        run("best 0 = BEYOND");
        run("best 41 = BEYOND");
        bounds("best 1..40");
        delaysAndFalls();
    }

    static void delaysAndFalls() {
        sentence(24, "In how many DAYS (0 to 20) one had best be SHAKEN, so that a ROOM has most MEMORIES ON n DAYS (1 to 20) "
            + "behind that; of several the fewest. BEYOND.");
        run("duster 0, delay 0 0 1 = 0, delay 0 7 20 = 0");
        run("duster 0, set 0 1 1, delay 0 1 1 = 0, of 0 1 = 1");
        // One more of room 3 on days 3, 11 and 19, so that most come to room 5 from room 4 on day 20.
        run(NO_DUST, "duster 0, room 3 1 1023, delay 0 5 1 = 20");
        // On day 21 only would it come to room 6 with three; on day 13 it has two.
        run(NO_DUST, "duster 0, room 3 1 1023, delay 0 6 1 = 13");
        // A wool one that goes through room 5 on day 5, 13, .. takes what was shaken there the day before.
        run(NO_DUST, "duster 5, duster 3, set 0 1 31, set 0 2 1, set 1 3 0, delay 0 5 1 = 4, delay 0 5 2 = 0, delay 0 5 20 = 0");
        // The three that come to room 5 on day 20 are taken up one by one on days 21, 29 and 37.
        run(NO_DUST, "duster 0, room 3 1 1023, delay 0 5 17 = 20, delay 0 5 18 = 0, delay 0 5 20 = 0");
        // In room 7 on day 7; behind it is 0.
        run(NO_DUST, "duster 0, set 0 1 1, delay 0 0 1 = 7");
        run("delay 0 0 1 = BEYOND");
        run("duster 0, delay 0 8 1 = BEYOND");
        run("duster 0, delay 0 0 0 = BEYOND");
        run("duster 0, delay 0 0 21 = BEYOND");
        bounds("delay 0..1 0..7 1..20");

        sentence(25, "The greatest FALLS (0 to 20) with which DUST of all ROOMS together is no more than now ON n DAYS (1 to 40). "
            + "BEYOND. NONE.");
        run("bears 1 = 0, bears 40 = 0, now 1 = 3");
        run(NO_DUST, "bears 40 = 0, status 3 = 0");
        run(ALL_DUST, "bears 1 = 20, bears 40 = 20");
        // 8 less and 8 more is no more than now; 7 less and 8 more is.
        run("duster 0, room 0 0 8, bears 1 = 1");
        run("duster 0, room 0 0 7, bears 1 = 0");
        // 12 less in room 0, but it is full again then: no more than now.
        run(ALL_DUST, "duster 0, bears 1 = 20");
        run("bears 0 = BEYOND");
        run("bears 41 = BEYOND");
        bounds("bears 1..40");

        sentence(26, "The ROOM that has most MEMORIES ON n DAYS (0 to 100); of several the least. BEYOND.");
        run("fullest 0 = 0, fullest 100 = 0");
        run("room 7 1 1, fullest 0 = 7, fullest 100 = 7");
        run("room 6 1 512, room 7 1 1, fullest 0 = 6");
        run("room 6 1 512, room 7 1 3, fullest 0 = 7");
        run("duster 3, room 0 1 1023, room 5 1 1, fullest 0 = 0, fullest 1 = 0, room 5 1 3, fullest 1 = 5");
        run("fullest -1 = BEYOND");
        run("fullest 101 = BEYOND");
        bounds("fullest 0..100");
    }

    static void theText() {
        sentence(27, "THE TAPE gets the n lowest bytes of a number behind it, the highest of these first (n 1 to 4): "
            + "how many it has. BEYOND: n. FULL.");
        run("feed 0x66616c6c 4 = 4, feed 0x7f7f7320 2 = 6, feed 0x7f7f7f31 1 = 7, house = 1, now 1 = 1");
        run("feed 0x7f66616c 3 = 3, feed 0x6c732032 4 = 7, house = 1, now 1 = 2");
        run("feed -1 1 = 1, house = -1");
        run("feed 0 0 = BEYOND, count 1 = 0");
        run("feed 0 5 = BEYOND, count 1 = 0");
        run("feed 0 -1 = BEYOND");
        run("30x feed -1 4, count 1 = 120, feed 0 1 = FULL, count 1 = 120");
        run("29x feed 0 4, feed 0 4 = 120, feed 0 4 = FULL");
        run("29x feed 0 4, feed 0 1 = 117, feed 0 4 = FULL, feed 0 3 = 120");
        run("29x feed 0 4, feed 0 2 = 118, feed 0 3 = FULL, feed 0 2 = 120");
        run("29x feed 0 4, feed 0 3 = 119, feed 0 2 = FULL, feed 0 1 = 120");
        bounds("feed 0 1..4");

        sentence(28, "THE TAPE is empty: how many it had.");
        run("wipe = 0, count 1 = 0");
        run("feed 0 1, wipe = 1, wipe = 0, count 1 = 0");
        run("30x feed 0 4, wipe = 120, count 1 = 0, feed 0 4 = 4");
        run("type 'falls 1 ?'", "wipe", "tell 'falls 2' = 1", "now 1 = 2");

        sentence(29, "THE TAPE is THE TEXT of a HOUSE, whose ITEMS come to what there is, and empty then: how many ITEMS.");
        run("tell 'falls 9' = 1", "count 1 = 0, house = -1, now 1 = 9");
        run("duster 0, room 0 1 7, room 1 1 8", "tell 'silk;room 0 has 9' = 2",
            "count 0 = 2, of 0 0 = 0, of 1 0 = 5, roomOf 0 1 = 512, roomOf 1 1 = 8, now 0 = 0");
        run("30x feed 0x20202020 4, house = -121, count 1 = 0, feed 0 1 = 1");

        sentence(29, "With a FAULT: -1 less its place (nothing changes but that THE TAPE is empty; no finding).");
        run("house = -1, status -1 = 0");
        run("tell 'falls 9;wool;falls 21' = -20", "now 1 = 3, count 0 = 0, count 1 = 0, status -1 = 0");
        run("duster 0, set 0 1 7, set 0 2 7", "tell 'wash 0;room 1 dust 1 has 1;wash 1' = -33",
            "of 0 1 = 7, of 0 2 = 7, now 2 = 160, now 4 = 0, status -1 = 0");
        run("8x duster 0", "tell 'duster' = -1", "count 0 = 8, status -1 = 0");
    }

    static void sheets() {
        sentence(30, "A sheet has n numbers, all 0, of 8, 16 or 64 bits; bits 0: it is MISSING: n (0 if it is MISSING). "
            + "BEYOND: no such sheet, other bits. SIZE: n is below 0 (also with bits 0). "
            + "BEYOND: n is above 40 (also with bits 0).");
        run("sheet 0 8 0 = 0, write 0 0 0 = BEYOND");
        run("sheet 3 64 40 = 40, write 3 39 LMIN = 0, sheet 3 64 40 = 40, write 3 39 0 = 0");
        run("sheet 0 8 3, write 0 2 9, sheet 0 8 1, sheet 0 8 3, write 0 2 0 = 0");
        run("sheet 0 8 1, write 0 0 9, sheet 0 8 1, write 0 0 0 = 0");
        run("sheet 0 16 5, sheet 0 0 5 = 0, write 0 0 0 = MISSING");
        run("sheet 0 0 0 = 0, write 0 0 0 = MISSING");
        run("sheet 0 0 40 = 0, write 0 0 0 = MISSING");
        for (String s : new String[] {"-1", "4", "MIN", "MAX"}) {
            run("sheet " + s + " 8 1 = BEYOND, sheet " + s + " 8 -1 = BEYOND");
        }
        for (String bits : new String[] {"-1", "1", "4", "7", "9", "15", "17", "32", "63", "65", "-8", "128", "MIN", "MAX"}) {
            run("sheet 0 " + bits + " 1 = BEYOND, write 0 0 0 = MISSING");
            run("sheet 0 " + bits + " -1 = BEYOND");
        }
        for (int bits : new int[] {0, 8, 16, 64}) {
            run("sheet 0 8 2, sheet 0 " + bits + " -1 = SIZE, write 0 1 0 = 0");
            run("sheet 0 8 2, sheet 0 " + bits + " MIN = SIZE, write 0 1 0 = 0");
            run("sheet 0 8 2, sheet 0 " + bits + " 41 = BEYOND, write 0 1 0 = 0");
            run("sheet 0 8 2, sheet 0 " + bits + " MAX = BEYOND, write 0 1 0 = 0");
        }

        sentence(31, "Number i of a sheet becomes v (its lowest bits): what it was. BEYOND: no such sheet. MISSING. "
            + "BEYOND: no such number.");
        run("sheet 0 8 2, write 0 1 127 = 0, write 0 1 128 = 127, write 0 1 255 = -128, write 0 1 256 = -1, write 0 1 -129 = 0, write 0 1 0 = 127");
        run("sheet 0 16 2, write 0 1 32767 = 0, write 0 1 32768 = 32767, write 0 1 65535 = -32768, write 0 1 65536 = -1, write 0 1 LMAX = 0, write 0 1 0 = -1");
        run("sheet 0 64 2, write 0 1 LMAX = 0, write 0 1 LMIN = LMAX, write 0 1 -1 = LMIN, write 0 1 4294967296 = -1, write 0 1 0 = 4294967296");
        run("write 4 0 0 = BEYOND");
        run("write -1 0 0 = BEYOND");
        run("write 3 0 0 = MISSING");
        run("write 3 -1 0 = MISSING");
        run("sheet 3 8 2, write 3 2 0 = BEYOND, write 3 -1 0 = BEYOND, write 3 1 0 = 0");
        run("sheet 3 8 0, write 3 0 0 = BEYOND");
        bounds("write 0..3 0 1");
        bounds("write 0 0..2 1");
        bounds("write 2 0..3 1");
        bounds("write 3 0..39 1", "sheet 3 16 40");
        copies();
        laysAndBooks();
    }

    static void copies() {
        sentence(32, "n numbers of a sheet from one on come to another one from one on (as they all were): n. "
            + "BEYOND: no such sheet (either). MISSING: one is. KIND: they are not of as many bits. "
            + "BEYOND: one has not so many, or from, to or n is below 0.");
        String two = "sheet 0 16 3, write 0 0 1, write 0 1 2, write 0 2 3, sheet 1 16 2, write 1 0 8, write 1 1 9";
        run(two, "copy 0 0 1 0 2 = 2, write 1 0 0 = 1, write 1 1 0 = 2, write 0 0 0 = 1");
        run(two, "copy 0 2 1 1 1 = 1, write 1 0 0 = 8, write 1 1 0 = 3");
        run(two, "copy 0 0 0 1 2 = 2, write 0 0 0 = 1, write 0 1 0 = 1, write 0 2 0 = 2");
        run(two, "copy 0 1 0 0 2 = 2, write 0 0 0 = 2, write 0 1 0 = 3, write 0 2 0 = 3");
        run(two, "copy 0 0 0 0 3 = 3, write 0 2 0 = 3");
        run(two, "copy 0 0 1 0 0 = 0, write 1 0 0 = 8");
        run(two, "copy 0 3 1 2 0 = 0");
        run(two, "copy 0 4 1 0 0 = BEYOND");
        run(two, "copy 0 0 1 3 0 = BEYOND");
        run(two, "copy 0 0 1 0 3 = BEYOND");
        run(two, "copy 0 2 1 0 2 = BEYOND");
        run(two, "copy 0 0 1 1 2 = BEYOND");
        run(two, "copy 0 -1 1 0 1 = BEYOND");
        run(two, "copy 0 0 1 -1 1 = BEYOND");
        run(two, "copy 0 0 1 0 -1 = BEYOND");
        run(two, "copy 0 -1 1 0 0 = BEYOND");
        run(two, "copy 0 0 1 -1 0 = BEYOND");
        run(two, "copy 0 MAX 1 0 1 = BEYOND, copy 0 MAX 1 0 MAX = BEYOND, copy 0 1 1 0 MAX = BEYOND");
        run(two, "copy 0 0 1 MAX 1 = BEYOND, copy 0 MIN 1 0 1 = BEYOND, copy 0 0 1 0 MIN = BEYOND, copy 0 MIN 1 0 MIN = BEYOND");
        run(two, "copy 4 0 1 0 1 = BEYOND, copy 0 0 4 0 1 = BEYOND, copy -1 0 1 0 1 = BEYOND, copy 0 0 -1 0 1 = BEYOND");
        run(two, "copy 2 0 0 0 1 = MISSING, copy 0 0 2 0 1 = MISSING, copy 2 0 3 0 1 = MISSING, copy 2 0 4 0 1 = BEYOND");
        run(two, "sheet 2 8 3, sheet 3 64 3, copy 0 0 2 0 1 = KIND, copy 2 0 3 0 1 = KIND, copy 3 0 0 0 0 = KIND");
        run("sheet 0 64 40, sheet 1 64 40, write 0 39 LMIN, copy 0 0 1 0 40 = 40, write 1 39 0 = LMIN");
        run("sheet 0 8 0, copy 0 0 0 0 0 = 0, copy 0 0 0 0 1 = BEYOND");
    }

    static void laysAndBooks() {
        sentence(33, "Numbers of a sheet become MEMORIES of ROOMS 0, 1, .., as sets (those that aren't 0 to 1023, "
            + "or stand for none, are left out): how many came. BEYOND: no such sheet. MISSING.");
        run("sheet 0 8 0, room 0 1 7, lays 0 = 0, roomOf 0 1 = 7");
        run("sheet 0 8 1, room 0 1 7, room 1 1 7, lays 0 = 1, roomOf 0 1 = 0, roomOf 1 1 = 7");
        run("sheet 0 16 8, write 0 7 1023, lays 0 = 8, roomOf 7 1 = 1023");
        run("sheet 0 16 9, write 0 8 1023, lays 0 = 8, count 2 = 0");
        run("sheet 0 16 40, write 0 7 1024, room 7 1 5, lays 0 = 7, roomOf 7 1 = 5");
        run("sheet 0 8 1, write 0 0 -1, room 0 1 5, lays 0 = 0, roomOf 0 1 = 5");
        run("sheet 0 64 3, write 0 0 4294967296, write 0 1 LMIN, write 0 2 LMAX, room 0 1 5, room 1 1 6, lays 0 = 0, now 4 = 7");
        run("lays 4 = BEYOND");
        run("lays -1 = BEYOND");
        run("lays 0 = MISSING");
        run("sheet 0 8 1, sheet 0 0 0, lays 0 = MISSING");
        bounds("lays 0..3");

        sentence(34, "A book: MEMORIES of a ROOM, as a set, ON 0, 1, 2, .. DAYS comes to a sheet, as many as it has numbers: "
            + "how many. BEYOND: no such sheet. MISSING. BEYOND: room.");
        run("sheet 0 8 0, book 0 7 = 0");
        run("sheet 0 64 40, room 7 1 1023, book 0 7 = 40, write 0 0 0 = 1023, write 0 39 0 = 1023, now 0 = 0");
        run("duster 3, room 0 1 1023, sheet 0 16 2, book 0 0 = 2, write 0 0 0 = 1023, write 0 1 0 = 512, roomOf 0 1 = 1023");
        run("room 0 1 256+2, sheet 0 8 1, book 0 0 = 1, write 0 0 0 = 2");
        run(LAST_DAY, "room 0 1 5, sheet 0 8 40, book 0 0 = 40, write 0 39 0 = 5, now 0 = 9999");
        run("book 4 0 = BEYOND");
        run("book 0 0 = MISSING");
        run("book 0 8 = MISSING");
        run("sheet 0 8 1, book 0 8 = BEYOND");
        run("sheet 0 8 1, book 0 -1 = BEYOND");
        bounds("book 0..3 0");
        bounds("book 0 0..7");

        sentence(35, "THE READER: numbers of a sheet are MEMORIES of a ROOM, as a set, ON 0, 1, 2, .. DAYS: how many pairs "
            + "of a KIND and a ROUND (0 to 7) of one make it just so. BEYOND: no such sheet. MISSING. BEYOND: room, duster.");
        run("duster 0, sheet 0 8 0, read 0 0 0 = 48");
        run("duster 0, sheet 0 8 40, read 0 7 0 = 48");
        run("duster 0, sheet 0 8 40, write 0 39 1, read 0 7 0 = 0");
        run("duster 0, sheet 0 8 1, write 0 0 1, read 0 0 0 = 0");
        // Only by round 7 is room 7 gone through on the first day: duster and glass take one of two.
        run("duster 0, room 7 1 3, sheet 0 8 2, write 0 0 3, write 0 1 2, read 0 7 0 = 2, of 0 3 = 0, of 0 0 = 0");
        run("duster 0, room 7 1 3, sheet 0 8 2, write 0 0 3, write 0 1 3, read 0 7 0 = 43");
        run("read 4 0 0 = BEYOND");
        run("read 0 0 0 = MISSING");
        run("sheet 0 8 1, read 0 0 0 = BEYOND");
        run("duster 0, sheet 0 8 1, read 0 8 0 = BEYOND, read 0 -1 0 = BEYOND, read 0 0 1 = BEYOND, read 0 0 -1 = BEYOND");
        bounds("read 0..3 0 0");
        bounds("read 0 0..7 0..1");
    }

    static void images() {
        sentence(36, "All that section 1 tells (THE TAPE not) is kept: 1.");
        run("image = 1, image = 1");
        run("image = 1, falls 9, room 7 0 1, room 7 1 1, duster 0, days 1, undo = 0, now 0 = 0, now 1 = 3, now 2 = 160, now 4 = 0");
        run("8x duster 0, set 7 1 1, set 7 2 2, set 7 3 3, image, turn 7 5, set 7 1 0, set 7 2 0, set 7 3 0, undo = 8",
            "of 7 0 = 0, of 7 1 = 1, of 7 2 = 2, of 7 3 = 3");
        run("feed 0 1, image, feed 0 4, undo, count 1 = 5");
        run("sheet 0 8 1, image, write 0 0 5, undo, write 0 0 0 = 5");

        sentence(37, "It becomes what was kept latest (which stays): how many DUSTERS. NONE: nothing is kept.");
        run("undo = NONE, now 1 = 3");
        run("duster 0, undo = NONE, count 0 = 1");
        run("image, falls 9, undo = 0, now 1 = 3, falls 8, undo = 0, now 1 = 3");
        run("image, falls 9, duster 0, image, falls 8, undo = 1, now 1 = 9, undo = 1");
        run("8x duster 0, image, undo = 8, duster 0 = FULL");
        run("image, 8x duster 0, undo = 0, duster 5 = 0, of 1 0 = BEYOND");
        run(LAST_DAY, "image, undo = 0, days 1 = STATE");
        run("image", LAST_DAY, "undo = 0, now 0 = 0, days 60 = 792");

        sentence(38, "Nothing is kept: 1 if something was, else 0.");
        run("tear = 0, tear = 0");
        run("image, tear = 1, tear = 0, undo = NONE");
        run("image, image, tear = 1, tear = 0");
        run("image, undo, tear = 1, tear = 0");
        run("image, falls 9, tear, now 1 = 9, image = 1, undo = 0, now 1 = 9");

        sentence(39, "0 DUSTERS, 1 bytes of THE TAPE, 2 MEMORIES of all ROOMS, counted each, 3 GRIME of all together. "
            + "BEYOND: another what.");
        run("count 0 = 0, count 1 = 0, count 2 = 0, count 3 = 0");
        run("8x duster 0, set 0 1 1023, wash 0, count 2 = 80, count 0 = 8");
        run("8x duster 0, set 0 2 99, set 7 2 99, count 3 = 198");
        run("30x feed 0 4, count 1 = 120");
        run("count 4 = BEYOND");
        run("count -1 = BEYOND");
        bounds("count 0..3");

        sentence(40, "How many acts answered a finding ever (undo() takes none back): which -1: all, 0 to 6: BEYOND to SIZE. "
            + "BEYOND (counted from then on): another one.");
        run("status -1 = 0, status 0 = 0, status 6 = 0");
        run("status 7 = BEYOND, status 0 = 1, status -1 = 1, status -2 = BEYOND, status 0 = 2, status MIN = BEYOND, status MAX = BEYOND, status -1 = 4");
        run("image, falls 21 = BEYOND, undo = 0, status 0 = 1, status -1 = 1");
        run("falls 21, status 0 = 1");
        run("8x duster 0, duster 0, status 1 = 1");
        run("duster 0, as 0 1, status 2 = 1");
        run("undo, status 3 = 1");
        run(LAST_DAY, "days 1, status 4 = 1");
        run("lays 0, status 5 = 1");
        run("sheet 0 8 -1, status 6 = 1");
        run("write 4 0 0, write 0 0 0, status 0 = 1, status 5 = 1, status -1 = 2");
        run("house = -1, status -1 = 0");
        bounds("status -1..6");
    }
}
