import java.lang.reflect.Method;
import java.util.ArrayList;
import java.util.Arrays;
import java.util.HashMap;
import java.util.List;
import java.util.Map;
import java.util.TreeMap;
import java.util.TreeSet;
import java.util.function.ToIntFunction;

/**
 * Long runs of calls, told by fixed numbers, on the class and on a second one written from the document
 * in another manner (sets as sets, kinds as classes, the text as a list of tokens): both answer alike.
 */
public final class ModelTest {
    static final int RUNS = 300;
    static final int CALLS = 370;

    static int wrong = 0;
    static long asked = 0;
    static long seed = 0;
    static final Map<String, Method> ours = new HashMap<>();
    static final Map<String, Method> theirs = new HashMap<>();
    static final Map<String, Integer> told = new TreeMap<>();

    /** By name: what each argument is; the letters are those of argument(). */
    static final String[] CALL = {
        "falls F", "room RWV", "roomOf RQ", "now Q", "duster K", "duster K", "of DO", "of DO", "set DSV", "set DSV",
        "turn DK", "as DK", "through DR", "through DR", "through DR", "wash D", "shake D", "days N", "days N",
        "on RHW", "then DHW", "clean R", "comes RM", "holds DM", "round DC", "kind DC", "grime DC", "best C",
        "delay DRT", "bears C", "fullest H", "wipe -", "sheet PBZ", "sheet PBZ", "write PIL", "write PIL",
        "copy PIPII", "lays P", "book PR", "book PR", "read PRD", "read PRD", "image -", "undo -", "tear -",
        "count Q", "status Q", "TEXT -", "TEXT -", "feed VX",
    };

    public static void main(String[] args) throws Exception {
        for (Method m : DusterRounds.class.getDeclaredMethods()) {
            if (java.lang.reflect.Modifier.isPublic(m.getModifiers())) {
                ours.put(m.getName(), m);
            }
        }
        for (Method m : Model.class.getDeclaredMethods()) {
            theirs.put(m.getName(), m);
        }
        for (int run = 0; run < RUNS && wrong == 0; run++) {
            seed = 1000003L * (run + 1);
            new Run(run).play();
        }
        edges();
        for (String need : new String[] {"BEYOND", "FULL", "KIND", "NONE", "STATE", "MISSING", "SIZE"}) {
            if (told.getOrDefault(need, 0) == 0) {
                wrong++;
                System.out.println("no run ever met " + need);
            }
        }
        System.out.println(asked + " asked, " + wrong + " wrong; met " + told);
        if (wrong != 0) {
            System.exit(1);
        }
    }

    static int below(int n) {
        seed = seed * 6364136223846793005L + 1442695040888963407L;
        return (int) ((seed >>> 33) % n);
    }

    static int oneOf(int... these) {
        return these[below(these.length)];
    }

    static final class Run {
        final DusterRounds x = new DusterRounds();
        final Model m = new Model();
        final int run;
        final List<String> trail = new ArrayList<>();
        int calls = 0;

        Run(int run) {
            this.run = run;
        }

        void play() throws Exception {
            if (run % 10 == 9) {
                for (int i = 0; i < 166; i++) {
                    call("days", 60L);
                }
            }
            int dusters = run % 9;
            for (int i = 0; i < dusters; i++) {
                call("duster", (long) below(6));
                call("set", (long) i, 1L, (long) below(1024));
                call("set", (long) i, 2L, (long) below(100));
                if (below(2) == 0) {
                    call("set", (long) i, 3L, (long) below(8));
                }
            }
            if (below(2) == 0) {
                call("falls", (long) below(3));
            }
            while (calls < CALLS && wrong == 0) {
                String[] spec = CALL[below(CALL.length)].split(" ");
                if (spec[0].equals("TEXT")) {
                    text();
                } else {
                    int n = spec[1].equals("-") ? 0 : spec[1].length();
                    long[] args = new long[n];
                    for (int i = 0; i < n; i++) {
                        args[i] = argument(spec[1].charAt(i));
                    }
                    call(spec[0], args);
                }
            }
            all();
        }

        /** All that can be asked of the state, so that no change goes unseen. */
        void all() throws Exception {
            for (int room = 0; room < 8; room++) {
                for (int what = 0; what < 3; what++) {
                    call("roomOf", (long) room, (long) what);
                }
            }
            for (int one = 0; one < 8; one++) {
                for (int what = 0; what < 4; what++) {
                    call("of", (long) one, (long) what);
                }
            }
            for (int which = -1; which < 7; which++) {
                call("status", (long) which);
            }
            call("now", 0L);
            call("now", 1L);
            call("count", 1L);
        }

        void text() throws Exception {
            StringBuilder text = new StringBuilder();
            int items = 1 + below(4);
            for (int i = 0; i < items; i++) {
                text.append(i > 0 ? (below(30) == 0 ? ";;" : below(2) == 0 ? ";" : " ; ") : "").append(item());
            }
            if (below(6) == 0) {
                int at = below(text.length() + 1);
                text.insert(at, oneOf(' ', ';', 'a', '0', '9', '-', 'A', 9, 10, 200, 255, '/', ':', '`', '{') == ' '
                    ? " " : String.valueOf((char) oneOf(';', 'a', '0', '9', '-', 'A', 9, 10, 200, 255, '/', ':', '`', '{')));
            }
            if (below(8) == 0) {
                text.setLength(below(text.length() + 1));
            }
            if (below(4) != 0) {
                call("wipe");
            }
            for (int i = 0; i < text.length() && calls < CALLS + 60; ) {
                int n = Math.min(text.length() - i, 1 + below(4));
                int bytes = below(2) == 0 ? -1 : 0;
                for (int k = 0; k < n; k++) {
                    bytes = bytes << 8 | text.charAt(i + k);
                }
                call("feed", (long) bytes, (long) n);
                i += n;
            }
            told.merge(call("house") < 0 ? "a fault" : "no fault", 1, Integer::sum);
        }

        String item() {
            switch (below(12)) {
                case 0:
                    return "falls " + number(21);
                case 1:
                case 2:
                    return "wash " + number(4);
                case 3:
                case 4:
                case 5:
                    return "room " + number(8) + (below(2) == 0 ? " dust " + number(100) : "")
                        + (below(2) == 0 ? " has" + memories() : "");
                case 6:
                    return new String[] {"dust 1", "room", "duster duster", "wools", "holds 1", "7"}[below(6)];
                default:
                    return new String[] {"duster", "hemmed", "glass", "wool", "wedding", "silk"}[below(6)]
                        + (below(2) == 0 ? " holds" + memories() : "")
                        + (below(2) == 0 ? "  grime" + number(100) : "");
            }
        }

        String memories() {
            StringBuilder b = new StringBuilder();
            int n = below(12) == 0 ? oneOf(0, 5) : 1 + below(4);
            for (int i = 0; i < n; i++) {
                b.append(" ").append(number(10));
            }
            return b.toString();
        }

        String number(int n) {
            int v = below(25) == 0 ? oneOf(n, n + 1, 999, 1000, 99999) : below(n);
            return (below(8) == 0 ? "00" : "") + v;
        }

        long argument(char kind) {
            if (below(40) == 0) {
                return oneOf(-1, -2, 8, 10, 41, 101, 1024, Integer.MAX_VALUE, Integer.MIN_VALUE, 1 << 30);
            }
            switch (kind) {
                case 'F': return below(22);
                case 'R': return below(8);
                case 'W': return below(2);
                case 'V': return oneOf(0, 1, 7, 19, 20, 25, 50, 60, 61, 75, 99, 100, 31, 1023, 1024, below(1024), below(1024), below(100), below(8));
                case 'Q': return below(8) - 1;
                case 'K': return below(6);
                case 'D': return below(Math.max(1, m.count(0)) + (below(10) == 0 ? 1 : 0));
                case 'O': return below(9);
                case 'S': return below(5);
                case 'N': return oneOf(0, 1, 1, 2, 3, 7, 8, 20, 60, 61);
                case 'H': return oneOf(0, 1, 2, 5, 8, 9, 40, 99, 100, 101);
                case 'M': return below(10);
                case 'C': return oneOf(0, 1, 2, 5, 8, 12, 39, 40, 41);
                case 'T': return oneOf(0, 1, 2, 5, 8, 19, 20, 21);
                case 'P': return below(4);
                case 'B': return oneOf(0, 8, 16, 16, 64, 64, 32);
                case 'Z': return oneOf(-1, 0, 1, 2, 3, 5, 9, 20, 39, 40, 41);
                case 'I': return below(below(2) == 0 ? 5 : 41);
                case 'L': return oneOf(0, 1, 31, 127, 128, 255, 256, 1023, 1024, 32768, 65535, -1, -128, -1000000001)
                    + (below(5) == 0 ? 1L << (32 + below(32)) : 0);
                case 'X': return below(6);
                default: throw new IllegalArgumentException("" + kind);
            }
        }

        long call(String name, long... args) throws Exception {
            calls++;
            if (wrong > 0) {
                return 0;
            }
            asked++;
            String said = name + Arrays.toString(args);
            long got = ask(ours.get(name), x, args);
            long want = ask(theirs.get(name), m, args);
            trail.add(said + " " + got);
            if (want <= -1000000001L && want >= -1000000007L) {
                told.merge(new String[] {"BEYOND", "FULL", "KIND", "NONE", "STATE", "MISSING", "SIZE"}
                    [(int) (-1000000001L - want)], 1, Integer::sum);
            }
            if (got != want) {
                wrong++;
                for (String t : trail) {
                    System.out.println("  " + t);
                }
                System.out.println("run " + run + ": " + said + " answered " + got + ", the model says " + want);
            }
            return got;
        }
    }

    static long ask(Method method, Object on, long[] args) throws Exception {
        Object[] a = new Object[args.length];
        for (int i = 0; i < a.length; i++) {
            if (method.getParameterTypes()[i] == long.class) {
                a[i] = args[i];
            } else {
                a[i] = (int) args[i];
            }
        }
        return ((Number) method.invoke(on, a)).longValue();
    }

    /** Rare edges, found by trying: a memory that first comes, or is first held, in 100 days or in 101. */
    static void edges() throws Exception {
        hundred("comes", 0, 8, 100, new int[] {934, 9, 5, 304, 44, 1, 5, 650});
        hundred("comes", 2, 7, -1000000004, new int[] {177, 9, 6, 1005, 42, 2, 1, 617});
        hundred("holds", 0, 8, 100, new int[] {718, 21, 1, 1003, 6, 3, 6, 97});
        hundred("holds", 1, 9, -1000000004, new int[] {369, 9, 4, 298, 7, 0, 0, 589});
    }

    /** Two of glass, each with what it holds, grime and round; a room with what it has. */
    static void hundred(String name, int of, int memory, int want, int[] told) throws Exception {
        Run run = new Run(RUNS);
        run.call("falls", 0L);
        for (int one = 0; one < 2; one++) {
            run.call("duster", 2L);
            for (int what = 1; what <= 3; what++) {
                run.call("set", (long) one, (long) what, (long) told[3 * one + what - 1]);
            }
        }
        run.call("room", (long) told[6], 1L, (long) told[7]);
        run.call(name, (long) of, (long) memory);
        long got = ask(ours.get(name), run.x, new long[] {of, memory});
        if (got != want) {
            wrong++;
            System.out.println(name + "(" + of + ", " + memory + ") answered " + got + ", due is " + want);
        }
        run.call("days", 1L);
        run.call(name, (long) of, (long) memory);
    }

    // ---- the second one

    abstract static class Cloth {
        abstract int wipes(int g);
        abstract int takes(int g);
        abstract int leaves(int g);
        abstract boolean keeps(int holding);
    }

    static class Plain extends Cloth {
        int wipes(int g) { return 12 - g / 10; }
        int takes(int g) { return 1; }
        int leaves(int g) { return g / 25; }
        boolean keeps(int holding) { return true; }
    }

    static class Hemmed extends Plain {
        int wipes(int g) { return super.wipes(g) + 3; }
        int takes(int g) { return super.takes(g) + 1; }
        int leaves(int g) { return super.leaves(g) + 1; }
    }

    static class Glass extends Plain {
        int wipes(int g) { return g < 20 ? 2 * super.wipes(g) : super.wipes(g); }
        int takes(int g) { return g > 60 ? 0 : super.takes(g); }
        boolean keeps(int holding) { return false; }
    }

    static class Wool extends Plain {
        int wipes(int g) { return 9; }
        int takes(int g) { return 9; }
        int leaves(int g) { return Math.max(0, super.leaves(g) - 1); }
    }

    static class Wedding extends Hemmed {
        int wipes(int g) { return super.wipes(g) - 5; }
        int leaves(int g) { return 2 * super.leaves(g); }
    }

    static class Silk extends Glass {
        int wipes(int g) { return super.wipes(g) - 1; }
        int takes(int g) { return 0; }
        int leaves(int g) { return super.leaves(g) + (g == 0 ? 1 : 0); }
        boolean keeps(int holding) { return holding >= 5 || super.keeps(holding); }
    }

    static final List<Cloth> CLOTHS =
        List.of(new Plain(), new Hemmed(), new Glass(), new Wool(), new Wedding(), new Silk());

    static final class Room {
        int dust = 20;
        TreeSet<Integer> memories = new TreeSet<>();
    }

    static final class One {
        int kind;
        TreeSet<Integer> holds = new TreeSet<>();
        int grime = 0;
        int round;
        Cloth cloth() { return CLOTHS.get(kind); }
    }

    static final class World {
        int day = 0;
        int falls = 3;
        List<Room> rooms = new ArrayList<>();
        List<One> ones = new ArrayList<>();

        World() {
            for (int i = 0; i < 8; i++) {
                rooms.add(new Room());
            }
        }

        World again() {
            World w = new World();
            w.day = day;
            w.falls = falls;
            for (int i = 0; i < 8; i++) {
                w.rooms.get(i).dust = rooms.get(i).dust;
                w.rooms.get(i).memories.addAll(rooms.get(i).memories);
            }
            for (One o : ones) {
                One c = w.more(o.kind);
                c.holds.addAll(o.holds);
                c.grime = o.grime;
                c.round = o.round;
            }
            return w;
        }

        One more(int kind) {
            One o = new One();
            o.kind = kind;
            o.round = ones.size();
            ones.add(o);
            return o;
        }

        int where(One o) {
            return (day + o.round) % 8;
        }

        static TreeSet<Integer> least(TreeSet<Integer> of, TreeSet<Integer> without, int n) {
            TreeSet<Integer> some = new TreeSet<>();
            for (int memory : of) {
                if (!without.contains(memory) && some.size() < n) {
                    some.add(memory);
                }
            }
            return some;
        }

        int go(One o, Room r) {
            TreeSet<Integer> up = least(r.memories, o.holds, o.cloth().takes(o.grime));
            TreeSet<Integer> left = least(o.holds, r.memories, o.cloth().leaves(o.grime));
            int wiped = Math.min(r.dust, o.cloth().wipes(o.grime));
            boolean keeps = o.cloth().keeps(o.holds.size());
            o.holds.addAll(up);
            r.memories.removeAll(up);
            r.memories.addAll(left);
            if (!keeps) {
                o.holds.removeAll(left);
            }
            r.dust -= wiped;
            o.grime = Math.min(99, o.grime + wiped / 2);
            return wiped;
        }

        World later(int n) {
            World w = again();
            w.pass(n);
            return w;
        }

        void pass(int n) {
            for (int i = 0; i < n; i++) {
                for (One o : ones) {
                    go(o, rooms.get(where(o)));
                }
                for (Room r : rooms) {
                    r.dust = Math.min(99, r.dust + falls);
                }
                day++;
            }
        }

        int washed(One o) {
            int held = bits(o.holds);
            for (Room r : rooms) {
                r.memories.addAll(o.holds);
            }
            o.holds.clear();
            o.grime = 0;
            return held;
        }

        int shaken(One o) {
            int held = bits(o.holds);
            rooms.get((where(o) + 1) % 8).memories.addAll(o.holds);
            o.holds.clear();
            o.grime = o.grime / 2;
            return held;
        }

        int dust() {
            return rooms.stream().mapToInt(r -> r.dust).sum();
        }

        int counted() {
            return rooms.stream().mapToInt(r -> r.memories.size()).sum();
        }
    }

    static int bits(Iterable<Integer> set) {
        int b = 0;
        for (int i : set) {
            b |= 1 << i;
        }
        return b;
    }

    static TreeSet<Integer> setOf(int bits) {
        TreeSet<Integer> s = new TreeSet<>();
        for (int i = 0; i < 10; i++) {
            if ((bits >> i & 1) == 1) {
                s.add(i);
            }
        }
        return s;
    }

    static final class Model {
        static final int BEYOND = -1000000001;
        World w = new World();
        World kept = null;
        StringBuilder tape = new StringBuilder();
        Object[] sheets = new Object[4];
        List<Integer> findings = new ArrayList<>();

        int fail(int which) {
            findings.add(which);
            return -1000000001 - which;
        }

        boolean in(int v, int a, int b) {
            return a <= v && v <= b;
        }

        boolean one(int d) {
            return in(d, 0, w.ones.size() - 1);
        }

        boolean rm(int r) {
            return in(r, 0, 7);
        }

        public int falls(int v) {
            if (!in(v, 0, 20)) return fail(0);
            int was = w.falls;
            w.falls = v;
            return was;
        }

        public int room(int room, int what, int v) {
            if (!rm(room) || what != 0 && what != 1 || v < 0 || v > (what == 0 ? 99 : 1023)) return fail(0);
            int was = roomOf(room, what);
            if (what == 0) w.rooms.get(room).dust = v;
            else w.rooms.get(room).memories = setOf(v);
            return was;
        }

        public int roomOf(int room, int what) {
            if (!rm(room) || !in(what, 0, 2)) return fail(0);
            if (what == 0) return w.rooms.get(room).dust;
            if (what == 1) return bits(w.rooms.get(room).memories);
            TreeSet<Integer> in = new TreeSet<>();
            for (int i = 0; i < w.ones.size(); i++) {
                if (w.where(w.ones.get(i)) == room) in.add(i);
            }
            return bits(in);
        }

        public int now(int what) {
            if (!in(what, 0, 5)) return fail(0);
            if (what == 0) return w.day;
            if (what == 1) return w.falls;
            if (what == 2) return w.dust();
            TreeSet<Integer> all = what == 3 ? setOf(1023) : new TreeSet<>();
            for (Room r : w.rooms) {
                if (what == 3) all.retainAll(r.memories);
                if (what == 4) all.addAll(r.memories);
            }
            for (One o : w.ones) {
                if (what == 5) all.addAll(o.holds);
            }
            return bits(all);
        }

        public int duster(int kind) {
            if (!in(kind, 0, 5)) return fail(0);
            if (w.ones.size() == 8) return fail(1);
            w.more(kind);
            return w.ones.size() - 1;
        }

        public int of(int d, int what) {
            if (!one(d) || !in(what, 0, 8)) return fail(0);
            One o = w.ones.get(d);
            int[] all = {o.kind, bits(o.holds), o.grime, o.round, w.where(o), o.cloth().wipes(o.grime),
                o.cloth().takes(o.grime), o.cloth().leaves(o.grime), o.cloth().keeps(o.holds.size()) ? 1 : 0};
            return all[what];
        }

        public int set(int d, int what, int v) {
            if (!one(d) || !in(what, 1, 3) || !in(v, 0, new int[] {0, 1023, 99, 7}[what])) return fail(0);
            int was = of(d, what);
            One o = w.ones.get(d);
            if (what == 1) o.holds = setOf(v);
            if (what == 2) o.grime = v;
            if (what == 3) o.round = v;
            return was;
        }

        public int turn(int d, int kind) {
            if (!one(d) || !in(kind, 0, 5)) return fail(0);
            int was = w.ones.get(d).kind;
            w.ones.get(d).kind = kind;
            return was;
        }

        public int as(int d, int kind) {
            if (!one(d) || !in(kind, 0, 5)) return fail(0);
            if (!CLOTHS.get(kind).getClass().isInstance(w.ones.get(d).cloth())) return fail(2);
            return w.ones.get(d).grime;
        }

        public int through(int d, int room) {
            if (!one(d) || !rm(room)) return fail(0);
            return w.go(w.ones.get(d), w.rooms.get(room));
        }

        public int wash(int d) {
            return one(d) ? w.washed(w.ones.get(d)) : fail(0);
        }

        public int shake(int d) {
            return one(d) ? w.shaken(w.ones.get(d)) : fail(0);
        }

        public int days(int n) {
            if (!in(n, 1, 60)) return fail(0);
            if (w.day + n > 9999) return fail(4);
            w.pass(n);
            return w.dust();
        }

        public int on(int room, int n, int what) {
            if (!rm(room) || !in(n, 0, 100) || !in(what, 0, 1)) return fail(0);
            Room r = w.later(n).rooms.get(room);
            return what == 0 ? r.dust : bits(r.memories);
        }

        public int then(int d, int n, int what) {
            if (!one(d) || !in(n, 0, 100) || !in(what, 0, 1)) return fail(0);
            One o = w.later(n).ones.get(d);
            return what == 0 ? bits(o.holds) : o.grime;
        }

        int first(java.util.function.Predicate<World> p) {
            World c = w.again();
            for (int n = 0; n <= 100; n++) {
                if (p.test(c)) return n;
                c.pass(1);
            }
            return fail(3);
        }

        public int clean(int room) {
            return rm(room) ? first(v -> v.rooms.get(room).dust == 0) : fail(0);
        }

        public int comes(int room, int m) {
            return rm(room) && in(m, 0, 9) ? first(v -> v.rooms.get(room).memories.contains(m)) : fail(0);
        }

        public int holds(int d, int m) {
            return one(d) && in(m, 0, 9) ? first(v -> v.ones.get(d).holds.contains(m)) : fail(0);
        }

        /** The least of 0 to last at which the measure is greatest. */
        int greatest(int last, ToIntFunction<Integer> measure) {
            TreeMap<Integer, Integer> by = new TreeMap<>();
            for (int v = 0; v <= last; v++) {
                by.putIfAbsent(measure.applyAsInt(v), v);
            }
            return by.lastEntry().getValue();
        }

        public int round(int d, int n) {
            if (!one(d) || !in(n, 1, 40)) return fail(0);
            return greatest(7, v -> {
                World c = w.again();
                c.ones.get(d).round = v;
                return -c.later(n).dust();
            });
        }

        public int kind(int d, int n) {
            if (!one(d) || !in(n, 1, 40)) return fail(0);
            return greatest(5, v -> {
                World c = w.again();
                c.ones.get(d).kind = v;
                return c.later(n).counted();
            });
        }

        public int grime(int d, int n) {
            if (!one(d) || !in(n, 1, 40)) return fail(0);
            return greatest(99, v -> {
                World c = w.again();
                c.ones.get(d).grime = v;
                return c.later(n).counted();
            });
        }

        public int best(int n) {
            if (!in(n, 1, 40)) return fail(0);
            if (w.ones.isEmpty()) return fail(3);
            return greatest(w.ones.size() - 1, v -> {
                World c = w.again();
                c.washed(c.ones.get(v));
                return -c.later(n).dust();
            });
        }

        public int delay(int d, int room, int n) {
            if (!one(d) || !rm(room) || !in(n, 1, 20)) return fail(0);
            return greatest(20, v -> {
                World c = w.later(v);
                c.shaken(c.ones.get(d));
                return c.later(n).rooms.get(room).memories.size();
            });
        }

        public int bears(int n) {
            if (!in(n, 1, 40)) return fail(0);
            int best = -1;
            for (int v = 0; v <= 20; v++) {
                World c = w.again();
                c.falls = v;
                if (c.later(n).dust() <= w.dust()) best = v;
            }
            return best < 0 ? fail(3) : best;
        }

        public int fullest(int n) {
            if (!in(n, 0, 100)) return fail(0);
            World c = w.later(n);
            return greatest(7, v -> c.rooms.get(v).memories.size());
        }

        public int feed(int bytes, int n) {
            if (!in(n, 1, 4)) return fail(0);
            if (tape.length() + n > 120) return fail(1);
            byte[] four = java.nio.ByteBuffer.allocate(4).putInt(bytes).array();
            for (int i = 4 - n; i < 4; i++) {
                tape.append((char) (four[i] & 255));
            }
            return tape.length();
        }

        public int wipe() {
            int had = tape.length();
            tape.setLength(0);
            return had;
        }

        public int house() {
            World c = w.again();
            int answer = new Text(tape.toString(), c).items();
            if (answer >= 0) w = c;
            tape.setLength(0);
            return answer;
        }

        static int size(Object sheet) {
            return java.lang.reflect.Array.getLength(sheet);
        }

        static long number(Object sheet, int i) {
            return java.lang.reflect.Array.getLong(sheet, i);
        }

        static void put(Object sheet, int i, long v) {
            if (sheet instanceof byte[] b) b[i] = (byte) v;
            if (sheet instanceof short[] h) h[i] = (short) v;
            if (sheet instanceof long[] l) l[i] = v;
        }

        public int sheet(int s, int bits, int n) {
            if (!in(s, 0, 3) || !List.of(0, 8, 16, 64).contains(bits)) return fail(0);
            if (n < 0) return fail(6);
            if (n > 40) return fail(0);
            sheets[s] = bits == 8 ? new byte[n] : bits == 16 ? new short[n] : bits == 64 ? new long[n] : null;
            return bits == 0 ? 0 : n;
        }

        public long write(int s, int i, long v) {
            if (!in(s, 0, 3)) return fail(0);
            if (sheets[s] == null) return fail(5);
            if (!in(i, 0, size(sheets[s]) - 1)) return fail(0);
            long was = number(sheets[s], i);
            put(sheets[s], i, v);
            return was;
        }

        public int copy(int s, int from, int t, int to, int n) {
            if (!in(s, 0, 3) || !in(t, 0, 3)) return fail(0);
            if (sheets[s] == null || sheets[t] == null) return fail(5);
            if (sheets[s].getClass() != sheets[t].getClass()) return fail(2);
            if (from < 0 || to < 0 || n < 0) return fail(0);
            if ((long) from + n > size(sheets[s]) || (long) to + n > size(sheets[t])) return fail(0);
            List<Long> were = new ArrayList<>();
            for (int i = 0; i < n; i++) {
                were.add(number(sheets[s], from + i));
            }
            for (int i = 0; i < n; i++) {
                put(sheets[t], to + i, were.get(i));
            }
            return n;
        }

        public int lays(int s) {
            if (!in(s, 0, 3)) return fail(0);
            if (sheets[s] == null) return fail(5);
            int came = 0;
            for (int i = 0; i < size(sheets[s]); i++) {
                long v = number(sheets[s], i);
                if (i < 8 && v >= 0 && v <= 1023) {
                    w.rooms.get(i).memories = setOf((int) v);
                    came++;
                }
            }
            return came;
        }

        public int book(int s, int room) {
            if (!in(s, 0, 3)) return fail(0);
            if (sheets[s] == null) return fail(5);
            if (!rm(room)) return fail(0);
            for (int i = 0; i < size(sheets[s]); i++) {
                put(sheets[s], i, bits(w.later(i).rooms.get(room).memories));
            }
            return size(sheets[s]);
        }

        public int read(int s, int room, int d) {
            if (!in(s, 0, 3)) return fail(0);
            if (sheets[s] == null) return fail(5);
            if (!rm(room) || !one(d)) return fail(0);
            int pairs = 0;
            for (int pair = 0; pair < 48; pair++) {
                World c = w.again();
                c.ones.get(d).kind = pair / 8;
                c.ones.get(d).round = pair % 8;
                boolean so = true;
                for (int i = 0; i < size(sheets[s]) && so; i++) {
                    so = number(sheets[s], i) == bits(c.rooms.get(room).memories);
                    c.pass(1);
                }
                pairs += so ? 1 : 0;
            }
            return pairs;
        }

        public int image() {
            kept = w.again();
            return 1;
        }

        public int undo() {
            if (kept == null) return fail(3);
            w = kept.again();
            return w.ones.size();
        }

        public int tear() {
            boolean was = kept != null;
            kept = null;
            return was ? 1 : 0;
        }

        public int count(int what) {
            if (!in(what, 0, 3)) return fail(0);
            return new int[] {w.ones.size(), tape.length(), w.counted(), w.ones.stream().mapToInt(o -> o.grime).sum()}[what];
        }

        public int status(int which) {
            if (!in(which, -1, 6)) return fail(0);
            return (int) findings.stream().filter(f -> which == -1 || f == which).count();
        }
    }

    /** Cut into tokens by a pattern first; a fault is thrown with its place. */
    static final class Text {
        static final List<String> NAMES = List.of("duster", "hemmed", "glass", "wool", "wedding", "silk");

        static final class Fault extends RuntimeException {
            final int place;

            Fault(int place) {
                this.place = place;
            }
        }

        final List<String> tokens = new ArrayList<>();
        final List<Integer> places = new ArrayList<>();
        final World w;
        int at = 0;

        Text(String text, World w) {
            this.w = w;
            java.util.regex.Matcher m = java.util.regex.Pattern.compile("[a-z]+|[0-9]+|[^ ]", java.util.regex.Pattern.DOTALL).matcher(text);
            while (m.find()) {
                tokens.add(m.group());
                places.add(m.start());
            }
            tokens.add("");
            places.add(text.length());
        }

        int items() {
            try {
                int n = 0;
                do {
                    item();
                    n++;
                } while (take(";"));
                if (!tokens.get(at).isEmpty()) throw new Fault(places.get(at));
                return n;
            } catch (Fault f) {
                return -1 - f.place;
            }
        }

        boolean take(String token) {
            if (!tokens.get(at).equals(token)) return false;
            at++;
            return true;
        }

        boolean digits() {
            return tokens.get(at).matches("[0-9]+");
        }

        int number(int most) {
            if (!digits() || new java.math.BigInteger(tokens.get(at)).compareTo(java.math.BigInteger.valueOf(most)) > 0) {
                throw new Fault(places.get(at));
            }
            return Integer.parseInt(tokens.get(at++).replaceFirst("^0+(?=.)", ""));
        }

        TreeSet<Integer> memories() {
            TreeSet<Integer> set = new TreeSet<>();
            int n = 0;
            do {
                if (n == 4) throw new Fault(places.get(at));
                set.add(number(9));
                n++;
            } while (digits());
            return set;
        }

        void item() {
            String word = tokens.get(at);
            if (take("falls")) {
                w.falls = number(20);
            } else if (take("wash")) {
                w.washed(w.ones.get(number(w.ones.size() - 1)));
            } else if (take("room")) {
                Room r = w.rooms.get(number(7));
                if (take("dust")) r.dust = number(99);
                if (take("has")) r.memories = memories();
            } else if (NAMES.contains(word) && w.ones.size() < 8) {
                at++;
                One o = w.more(NAMES.indexOf(word));
                if (take("holds")) o.holds = memories();
                if (take("grime")) o.grime = number(99);
            } else {
                throw new Fault(places.get(at));
            }
        }
    }
}
