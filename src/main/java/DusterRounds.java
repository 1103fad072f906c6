/** Rooms in a row, and the dusters that go through them day by day; ../shared/DOC.md tells every call. */
public final class DusterRounds {
    private static final int BEYOND = -1000000001;
    private static final int FULL = -1000000002;
    private static final int KIND = -1000000003;
    private static final int NONE = -1000000004;
    private static final int STATE = -1000000005;
    private static final int MISSING = -1000000006;
    private static final int SIZE = -1000000007;
    private static final int FINDINGS = 7;

    private static final int ROOMS = 8;
    private static final int LAST_ROOM = ROOMS - 1;
    private static final int MOST_DUSTERS = 8;
    private static final int LAST_MEMORY = 9;
    private static final int ALL_MEMORIES = 1023;
    private static final int LAST_DAY = 9999;
    private static final int MOST_FALLS = 20;
    private static final int MOST_DUST = 99;
    private static final int MOST_GRIME = 99;

    private static final int MOST_TO_GO = 60;
    private static final int FARTHEST = 100;
    private static final int FARTHEST_CHOICE = 40;
    private static final int FARTHEST_DELAY = 20;

    private static final int SHEETS = 4;
    private static final int MOST_NUMBERS = 40;
    private static final int MOST_BYTES = 120;
    private static final int BYTES_IN_A_NUMBER = 4;

    private final House live = new House();
    private final House kept = new House();
    // Made once and used by every call that looks ahead, so that no call makes objects.
    private final House ahead = new House();
    private final House aside = new House();
    private final Tape tape = new Tape();
    private final Sheet[] sheets = new Sheet[SHEETS];
    private final int[] found = new int[FINDINGS];
    private boolean somethingKept = false;

    public DusterRounds() {
        for (int s = 0; s < SHEETS; s++) {
            sheets[s] = new Sheet();
        }
    }

    // ---- rooms

    public int falls(int v) {
        if (!within(v, 0, MOST_FALLS)) {
            return finding(BEYOND);
        }
        int was = live.fall;
        live.fall = v;
        return was;
    }

    public int room(int room, int what, int v) {
        if (!isRoom(room) || !within(what, 0, 1)) {
            return finding(BEYOND);
        }
        if (!within(v, 0, what == 0 ? MOST_DUST : ALL_MEMORIES)) {
            return finding(BEYOND);
        }
        int[] row = what == 0 ? live.dust : live.memories;
        int was = row[room];
        row[room] = v;
        return was;
    }

    public int roomOf(int room, int what) {
        if (!isRoom(room)) {
            return finding(BEYOND);
        }
        switch (what) {
            case 0:
                return live.dust[room];
            case 1:
                return live.memories[room];
            case 2:
                return live.whoIsIn(room);
            default:
                return finding(BEYOND);
        }
    }

    public int now(int what) {
        switch (what) {
            case 0:
                return live.day;
            case 1:
                return live.fall;
            case 2:
                return live.dustOfAll();
            case 3:
                return live.memoriesEverywhere();
            case 4:
                return live.memoriesAnywhere();
            case 5:
                return live.memoriesHeld();
            default:
                return finding(BEYOND);
        }
    }

    // ---- dusters

    public int duster(int kind) {
        if (!isKind(kind)) {
            return finding(BEYOND);
        }
        if (live.dusters >= MOST_DUSTERS) {
            return finding(FULL);
        }
        return live.addDuster(kind);
    }

    public int of(int duster, int what) {
        if (!isDuster(duster)) {
            return finding(BEYOND);
        }
        int kind = live.kinds[duster];
        int grime = live.grimes[duster];
        switch (what) {
            case 0:
                return kind;
            case 1:
                return live.held[duster];
            case 2:
                return grime;
            case 3:
                return live.rounds[duster];
            case 4:
                return live.whereIs(duster);
            case 5:
                return Kinds.wipes(kind, grime);
            case 6:
                return Kinds.takesUp(kind, grime);
            case 7:
                return Kinds.leaves(kind, grime);
            case 8:
                return Kinds.keeps(kind, live.held[duster]) ? 1 : 0;
            default:
                return finding(BEYOND);
        }
    }

    public int set(int duster, int what, int v) {
        if (!isDuster(duster) || !within(what, 1, 3)) {
            return finding(BEYOND);
        }
        int most = what == 1 ? ALL_MEMORIES : what == 2 ? MOST_GRIME : LAST_ROOM;
        if (!within(v, 0, most)) {
            return finding(BEYOND);
        }
        int[] row = what == 1 ? live.held : what == 2 ? live.grimes : live.rounds;
        int was = row[duster];
        row[duster] = v;
        return was;
    }

    public int turn(int duster, int kind) {
        if (!isDuster(duster) || !isKind(kind)) {
            return finding(BEYOND);
        }
        int was = live.kinds[duster];
        live.kinds[duster] = kind;
        return was;
    }

    public int as(int duster, int kind) {
        if (!isDuster(duster) || !isKind(kind)) {
            return finding(BEYOND);
        }
        if (!Kinds.isUnder(live.kinds[duster], kind)) {
            return finding(KIND);
        }
        return live.grimes[duster];
    }

    public int through(int duster, int room) {
        if (!isDuster(duster) || !isRoom(room)) {
            return finding(BEYOND);
        }
        return live.goThrough(duster, room);
    }

    public int wash(int duster) {
        if (!isDuster(duster)) {
            return finding(BEYOND);
        }
        return live.washOne(duster);
    }

    public int shake(int duster) {
        if (!isDuster(duster)) {
            return finding(BEYOND);
        }
        return live.shakeOne(duster);
    }

    // ---- days

    public int days(int n) {
        if (!within(n, 1, MOST_TO_GO)) {
            return finding(BEYOND);
        }
        if (live.day > LAST_DAY - n) {
            return finding(STATE);
        }
        live.goDays(n);
        return live.dustOfAll();
    }

    public int on(int room, int n, int what) {
        if (!isRoom(room) || !within(n, 0, FARTHEST) || !within(what, 0, 1)) {
            return finding(BEYOND);
        }
        lookAhead(n);
        return what == 0 ? ahead.dust[room] : ahead.memories[room];
    }

    public int then(int duster, int n, int what) {
        if (!isDuster(duster) || !within(n, 0, FARTHEST) || !within(what, 0, 1)) {
            return finding(BEYOND);
        }
        lookAhead(n);
        return what == 0 ? ahead.held[duster] : ahead.grimes[duster];
    }

    public int clean(int room) {
        if (!isRoom(room)) {
            return finding(BEYOND);
        }
        ahead.becomeAs(live);
        for (int n = 0; n <= FARTHEST; n++) {
            if (ahead.dust[room] == 0) {
                return n;
            }
            ahead.goDay();
        }
        return finding(NONE);
    }

    public int comes(int room, int memory) {
        if (!isRoom(room) || !isMemory(memory)) {
            return finding(BEYOND);
        }
        return firstWith(ahead.memories, room, memory);
    }

    public int holds(int duster, int memory) {
        if (!isDuster(duster) || !isMemory(memory)) {
            return finding(BEYOND);
        }
        return firstWith(ahead.held, duster, memory);
    }

    // ---- what is best

    public int round(int duster, int n) {
        if (!isDuster(duster) || !within(n, 1, FARTHEST_CHOICE)) {
            return finding(BEYOND);
        }
        int best = 0;
        int least = Integer.MAX_VALUE;
        for (int round = 0; round < ROOMS; round++) {
            ahead.becomeAs(live);
            ahead.rounds[duster] = round;
            int dust = dustAheadAfter(n);
            if (dust < least) {
                least = dust;
                best = round;
            }
        }
        return best;
    }

    public int kind(int duster, int n) {
        if (!isDuster(duster) || !within(n, 1, FARTHEST_CHOICE)) {
            return finding(BEYOND);
        }
        return withMostMemories(ahead.kinds, duster, Kinds.LAST, n);
    }

    public int grime(int duster, int n) {
        if (!isDuster(duster) || !within(n, 1, FARTHEST_CHOICE)) {
            return finding(BEYOND);
        }
        return withMostMemories(ahead.grimes, duster, MOST_GRIME, n);
    }

    public int best(int n) {
        if (!within(n, 1, FARTHEST_CHOICE)) {
            return finding(BEYOND);
        }
        if (live.dusters == 0) {
            return finding(NONE);
        }
        int best = 0;
        int least = Integer.MAX_VALUE;
        for (int one = 0; one < live.dusters; one++) {
            ahead.becomeAs(live);
            ahead.washOne(one);
            int dust = dustAheadAfter(n);
            if (dust < least) {
                least = dust;
                best = one;
            }
        }
        return best;
    }

    public int delay(int duster, int room, int n) {
        if (!isDuster(duster) || !isRoom(room) || !within(n, 1, FARTHEST_DELAY)) {
            return finding(BEYOND);
        }
        int best = 0;
        int most = -1;
        ahead.becomeAs(live);
        for (int wait = 0; wait <= FARTHEST_DELAY; wait++) {
            aside.becomeAs(ahead);
            aside.shakeOne(duster);
            aside.goDays(n);
            int memories = Integer.bitCount(aside.memories[room]);
            if (memories > most) {
                most = memories;
                best = wait;
            }
            ahead.goDay();
        }
        return best;
    }

    public int bears(int n) {
        if (!within(n, 1, FARTHEST_CHOICE)) {
            return finding(BEYOND);
        }
        int dustNow = live.dustOfAll();
        for (int fall = MOST_FALLS; fall >= 0; fall--) {
            ahead.becomeAs(live);
            ahead.fall = fall;
            if (dustAheadAfter(n) <= dustNow) {
                return fall;
            }
        }
        return finding(NONE);
    }

    public int fullest(int n) {
        if (!within(n, 0, FARTHEST)) {
            return finding(BEYOND);
        }
        lookAhead(n);
        int best = 0;
        int most = -1;
        for (int room = 0; room < ROOMS; room++) {
            int memories = Integer.bitCount(ahead.memories[room]);
            if (memories > most) {
                most = memories;
                best = room;
            }
        }
        return best;
    }

    // ---- the text

    public int feed(int bytes, int n) {
        if (!within(n, 1, BYTES_IN_A_NUMBER)) {
            return finding(BEYOND);
        }
        if (tape.length > MOST_BYTES - n) {
            return finding(FULL);
        }
        for (int i = n - 1; i >= 0; i--) {
            tape.put((bytes >> (8 * i)) & 255);
        }
        return tape.length;
    }

    public int wipe() {
        int had = tape.length;
        tape.length = 0;
        return had;
    }

    public int house() {
        ahead.becomeAs(live);
        int items = tape.tellHouse(ahead);
        if (items >= 0) {
            live.becomeAs(ahead);
        }
        tape.length = 0;
        return items;
    }

    // ---- sheets

    public int sheet(int s, int bits, int n) {
        Sheet sheet = sheetAt(s);
        if (sheet == null || (bits != 0 && bits != 8 && bits != 16 && bits != 64)) {
            return finding(BEYOND);
        }
        if (n < 0) {
            return finding(SIZE);
        }
        if (n > MOST_NUMBERS) {
            return finding(BEYOND);
        }
        return sheet.begin(bits, n);
    }

    public long write(int s, int i, long v) {
        Sheet sheet = sheetAt(s);
        if (sheet == null) {
            return finding(BEYOND);
        }
        if (sheet.isMissing()) {
            return finding(MISSING);
        }
        if (!within(i, 0, sheet.size - 1)) {
            return finding(BEYOND);
        }
        long was = sheet.numbers[i];
        sheet.put(i, v);
        return was;
    }

    public int copy(int s, int from, int t, int to, int n) {
        Sheet source = sheetAt(s);
        Sheet target = sheetAt(t);
        if (source == null || target == null) {
            return finding(BEYOND);
        }
        if (source.isMissing() || target.isMissing()) {
            return finding(MISSING);
        }
        if (source.bits != target.bits) {
            return finding(KIND);
        }
        if (!source.hasRun(from, n) || !target.hasRun(to, n)) {
            return finding(BEYOND);
        }
        System.arraycopy(source.numbers, from, target.numbers, to, n);
        return n;
    }

    public int lays(int s) {
        Sheet sheet = sheetAt(s);
        if (sheet == null) {
            return finding(BEYOND);
        }
        if (sheet.isMissing()) {
            return finding(MISSING);
        }
        int came = 0;
        for (int room = 0; room < ROOMS && room < sheet.size; room++) {
            long memories = sheet.numbers[room];
            if (memories >= 0 && memories <= ALL_MEMORIES) {
                live.memories[room] = (int) memories;
                came++;
            }
        }
        return came;
    }

    public int book(int s, int room) {
        Sheet sheet = sheetAt(s);
        if (sheet == null) {
            return finding(BEYOND);
        }
        if (sheet.isMissing()) {
            return finding(MISSING);
        }
        if (!isRoom(room)) {
            return finding(BEYOND);
        }
        ahead.becomeAs(live);
        for (int i = 0; i < sheet.size; i++) {
            sheet.put(i, ahead.memories[room]);
            ahead.goDay();
        }
        return sheet.size;
    }

    public int read(int s, int room, int duster) {
        Sheet sheet = sheetAt(s);
        if (sheet == null) {
            return finding(BEYOND);
        }
        if (sheet.isMissing()) {
            return finding(MISSING);
        }
        if (!isRoom(room) || !isDuster(duster)) {
            return finding(BEYOND);
        }
        int pairs = 0;
        for (int kind = 0; kind <= Kinds.LAST; kind++) {
            for (int round = 0; round < ROOMS; round++) {
                ahead.becomeAs(live);
                ahead.kinds[duster] = kind;
                ahead.rounds[duster] = round;
                if (aheadGoesAs(sheet, room)) {
                    pairs++;
                }
            }
        }
        return pairs;
    }

    // ---- images

    public int image() {
        kept.becomeAs(live);
        somethingKept = true;
        return 1;
    }

    public int undo() {
        if (!somethingKept) {
            return finding(NONE);
        }
        live.becomeAs(kept);
        return live.dusters;
    }

    public int tear() {
        int was = somethingKept ? 1 : 0;
        somethingKept = false;
        return was;
    }

    public int count(int what) {
        switch (what) {
            case 0:
                return live.dusters;
            case 1:
                return tape.length;
            case 2:
                return live.memoriesCounted();
            case 3:
                return live.grimeOfAll();
            default:
                return finding(BEYOND);
        }
    }

    public int status(int which) {
        if (!within(which, -1, FINDINGS - 1)) {
            return finding(BEYOND);
        }
        if (which >= 0) {
            return found[which];
        }
        int all = 0;
        for (int i = 0; i < FINDINGS; i++) {
            all += found[i];
        }
        return all;
    }

    // ---- what the calls share

    /** Every finding is answered through here, so that status() has seen it. */
    private int finding(int which) {
        int i = BEYOND - which;
        if (i >= 0 && i < FINDINGS) {
            found[i]++;
        }
        return which;
    }

    private static boolean within(int v, int least, int most) {
        return v >= least && v <= most;
    }

    private static boolean isRoom(int room) {
        return within(room, 0, LAST_ROOM);
    }

    private static boolean isMemory(int memory) {
        return within(memory, 0, LAST_MEMORY);
    }

    private static boolean isKind(int kind) {
        return within(kind, 0, Kinds.LAST);
    }

    /** Null: no such sheet. */
    private Sheet sheetAt(int s) {
        return within(s, 0, SHEETS - 1) ? sheets[s] : null;
    }

    private boolean isDuster(int duster) {
        return within(duster, 0, live.dusters - 1);
    }

    private void lookAhead(int n) {
        ahead.becomeAs(live);
        ahead.goDays(n);
    }

    private int dustAheadAfter(int n) {
        ahead.goDays(n);
        return ahead.dustOfAll();
    }

    /** row: sets of the house ahead, of its rooms or of its dusters. */
    private int firstWith(int[] row, int place, int memory) {
        ahead.becomeAs(live);
        for (int n = 0; n <= FARTHEST; n++) {
            if (((row[place] >> memory) & 1) != 0) {
                return n;
            }
            ahead.goDay();
        }
        return finding(NONE);
    }

    /** row: what the house ahead knows of its dusters; tried for one of them from 0 to last. */
    private int withMostMemories(int[] row, int duster, int last, int n) {
        int best = 0;
        int most = -1;
        for (int v = 0; v <= last; v++) {
            ahead.becomeAs(live);
            row[duster] = v;
            ahead.goDays(n);
            int memories = ahead.memoriesCounted();
            if (memories > most) {
                most = memories;
                best = v;
            }
        }
        return best;
    }

    private boolean aheadGoesAs(Sheet sheet, int room) {
        for (int i = 0; i < sheet.size; i++) {
            if (sheet.numbers[i] != ahead.memories[room]) {
                return false;
            }
            ahead.goDay();
        }
        return true;
    }

    /** What the kinds do alike and otherwise. */
    private static final class Kinds {
        static final int DUSTER = 0;
        static final int HEMMED = 1;
        static final int GLASS = 2;
        static final int WOOL = 3;
        static final int WEDDING = 4;
        static final int SILK = 5;
        static final int LAST = SILK;

        static boolean isUnder(int kind, int above) {
            if (kind == above || above == DUSTER) {
                return true;
            }
            return (kind == WEDDING && above == HEMMED) || (kind == SILK && above == GLASS);
        }

        static int wipes(int kind, int grime) {
            int asDuster = 12 - grime / 10;
            int asHemmed = asDuster + 3;
            int asGlass = grime < 20 ? asDuster * 2 : asDuster;
            switch (kind) {
                case HEMMED:
                    return asHemmed;
                case GLASS:
                    return asGlass;
                case WOOL:
                    return 9;
                case WEDDING:
                    return asHemmed - 5;
                case SILK:
                    return asGlass - 1;
                default:
                    return asDuster;
            }
        }

        static int takesUp(int kind, int grime) {
            switch (kind) {
                case HEMMED:
                case WEDDING:
                    return 2;
                case GLASS:
                    return grime > 60 ? 0 : 1;
                case WOOL:
                    return 9;
                case SILK:
                    return 0;
                default:
                    return 1;
            }
        }

        static int leaves(int kind, int grime) {
            int asDuster = grime / 25;
            switch (kind) {
                case HEMMED:
                    return asDuster + 1;
                case WOOL:
                    return Math.max(0, asDuster - 1);
                case WEDDING:
                    return (asDuster + 1) * 2;
                case SILK:
                    return grime == 0 ? asDuster + 1 : asDuster;
                default:
                    return asDuster;
            }
        }

        static boolean keeps(int kind, int held) {
            switch (kind) {
                case GLASS:
                    return false;
                case SILK:
                    return Integer.bitCount(held) >= 5;
                default:
                    return true;
            }
        }
    }

    /** All that an image keeps. Rooms and dusters are asked for by numbers that the caller has tested. */
    private static final class House {
        final int[] dust = new int[ROOMS];
        final int[] memories = new int[ROOMS];
        final int[] kinds = new int[MOST_DUSTERS];
        final int[] held = new int[MOST_DUSTERS];
        final int[] grimes = new int[MOST_DUSTERS];
        final int[] rounds = new int[MOST_DUSTERS];
        int day = 0;
        int fall = 3;
        int dusters = 0;

        House() {
            for (int room = 0; room < ROOMS; room++) {
                dust[room] = 20;
            }
        }

        void becomeAs(House other) {
            day = other.day;
            fall = other.fall;
            dusters = other.dusters;
            System.arraycopy(other.dust, 0, dust, 0, ROOMS);
            System.arraycopy(other.memories, 0, memories, 0, ROOMS);
            System.arraycopy(other.kinds, 0, kinds, 0, MOST_DUSTERS);
            System.arraycopy(other.held, 0, held, 0, MOST_DUSTERS);
            System.arraycopy(other.grimes, 0, grimes, 0, MOST_DUSTERS);
            System.arraycopy(other.rounds, 0, rounds, 0, MOST_DUSTERS);
        }

        /** The number of the new one, or -1 if there is no place for it. */
        int addDuster(int kind) {
            if (dusters >= MOST_DUSTERS) {
                return -1;
            }
            int one = dusters;
            kinds[one] = kind;
            held[one] = 0;
            grimes[one] = 0;
            rounds[one] = one;
            dusters++;
            return one;
        }

        int whereIs(int duster) {
            return (day + rounds[duster]) & LAST_ROOM;
        }

        int whoIsIn(int room) {
            int who = 0;
            for (int one = 0; one < dusters; one++) {
                if (whereIs(one) == room) {
                    who |= 1 << one;
                }
            }
            return who;
        }

        void goDays(int n) {
            for (int i = 0; i < n; i++) {
                goDay();
            }
        }

        void goDay() {
            for (int one = 0; one < dusters; one++) {
                goThrough(one, whereIs(one));
            }
            for (int room = 0; room < ROOMS; room++) {
                dust[room] = Math.min(MOST_DUST, dust[room] + fall);
            }
            day++;
        }

        /** How much dust it took. All is found out before anything changes, as the document asks. */
        int goThrough(int duster, int room) {
            int kind = kinds[duster];
            int grime = grimes[duster];
            int own = held[duster];
            int there = memories[room];
            int taken = leastOf(there & ~own, Kinds.takesUp(kind, grime));
            int left = leastOf(own & ~there, Kinds.leaves(kind, grime));
            int wiped = Math.min(dust[room], Kinds.wipes(kind, grime));
            int lost = Kinds.keeps(kind, own) ? 0 : left;

            held[duster] = (own | taken) & ~lost;
            memories[room] = (there & ~taken) | left;
            dust[room] -= wiped;
            grimes[duster] = Math.min(MOST_GRIME, grime + wiped / 2);
            return wiped;
        }

        /** What it held. */
        int washOne(int duster) {
            int was = held[duster];
            for (int room = 0; room < ROOMS; room++) {
                memories[room] |= was;
            }
            held[duster] = 0;
            grimes[duster] = 0;
            return was;
        }

        /** What it held. */
        int shakeOne(int duster) {
            int was = held[duster];
            memories[(whereIs(duster) + 1) & LAST_ROOM] |= was;
            held[duster] = 0;
            grimes[duster] /= 2;
            return was;
        }

        int dustOfAll() {
            int all = 0;
            for (int room = 0; room < ROOMS; room++) {
                all += dust[room];
            }
            return all;
        }

        int memoriesCounted() {
            int all = 0;
            for (int room = 0; room < ROOMS; room++) {
                all += Integer.bitCount(memories[room]);
            }
            return all;
        }

        int memoriesEverywhere() {
            int all = ALL_MEMORIES;
            for (int room = 0; room < ROOMS; room++) {
                all &= memories[room];
            }
            return all;
        }

        int memoriesAnywhere() {
            int all = 0;
            for (int room = 0; room < ROOMS; room++) {
                all |= memories[room];
            }
            return all;
        }

        int memoriesHeld() {
            int all = 0;
            for (int one = 0; one < dusters; one++) {
                all |= held[one];
            }
            return all;
        }

        int grimeOfAll() {
            int all = 0;
            for (int one = 0; one < dusters; one++) {
                all += grimes[one];
            }
            return all;
        }

        private static int leastOf(int memories, int most) {
            int rest = memories;
            for (int i = 0; i < most && rest != 0; i++) {
                rest &= rest - 1;
            }
            return memories & ~rest;
        }
    }

    /** A row of numbers; 0 bits: it is missing. */
    private static final class Sheet {
        final long[] numbers = new long[MOST_NUMBERS];
        int bits = 0;
        int size = 0;

        boolean isMissing() {
            return bits == 0;
        }

        int begin(int newBits, int n) {
            bits = newBits;
            size = newBits == 0 ? 0 : n;
            for (int i = 0; i < MOST_NUMBERS; i++) {
                numbers[i] = 0;
            }
            return size;
        }

        /** The lowest bits of v, with their sign, as Java's byte, short and long have it. */
        void put(int i, long v) {
            numbers[i] = bits == 8 ? (byte) v : bits == 16 ? (short) v : v;
        }

        boolean hasRun(int from, int n) {
            // Taken apart so that no sum runs over.
            return from >= 0 && n >= 0 && n <= size && from <= size - n;
        }
    }

    /** The tape, and the reader that goes along it token by token. */
    private static final class Tape {
        static final int END = 0;
        static final int WORD = 1;
        static final int NUMBER = 2;
        static final int SIGN = 3;
        static final int OTHER = 4;

        // Words 0 to 5 are the names of the kinds, by their numbers.
        static final int HOLDS = 6;
        static final int GRIME = 7;
        static final int ROOM = 8;
        static final int DUST = 9;
        static final int HAS = 10;
        static final int FALLS = 11;
        static final int WASH = 12;
        static final int ANOTHER_WORD = 13;

        static final int MOST_MEMORIES = 4;
        static final int ABOVE_ALL_NUMBERS = 1000;

        final int[] bytes = new int[MOST_BYTES];
        int length = 0;
        // The token that is looked at: what it is, where it begins and where the next one may.
        private int token = END;
        private int value = 0;
        private int start = 0;
        private int end = 0;
        private int memories = 0;

        void put(int b) {
            if (length < MOST_BYTES) {
                bytes[length] = b;
                length++;
            }
        }

        /** The items come to the house: how many, or -1 less the place of the fault. */
        int tellHouse(House house) {
            end = 0;
            step();
            int items = 0;
            // An item takes a byte at least, so there are no more of them than bytes.
            while (items <= MOST_BYTES && tellItem(house)) {
                items++;
                if (token == END) {
                    return items;
                }
                if (token != SIGN) {
                    return -1 - start;
                }
                step();
            }
            return -1 - start;
        }

        // Each tell.. answers false at a fault, and the token looked at is the faulty one then.

        private boolean tellItem(House house) {
            if (token != WORD) {
                return false;
            }
            switch (value) {
                case ROOM:
                    step();
                    return tellRoom(house);
                case FALLS:
                    step();
                    return tellFalls(house);
                case WASH:
                    step();
                    return tellWash(house);
                default:
                    return value <= Kinds.LAST && tellDuster(house);
            }
        }

        private boolean tellDuster(House house) {
            int one = house.addDuster(value);
            if (one < 0) {
                return false;
            }
            step();
            if (isWord(HOLDS)) {
                step();
                if (!tellMemories()) {
                    return false;
                }
                house.held[one] = memories;
            }
            if (isWord(GRIME)) {
                step();
                if (!isNumberTo(MOST_GRIME)) {
                    return false;
                }
                house.grimes[one] = value;
                step();
            }
            return true;
        }

        private boolean tellRoom(House house) {
            if (!isNumberTo(LAST_ROOM)) {
                return false;
            }
            int room = value;
            step();
            if (isWord(DUST)) {
                step();
                if (!isNumberTo(MOST_DUST)) {
                    return false;
                }
                house.dust[room] = value;
                step();
            }
            if (isWord(HAS)) {
                step();
                if (!tellMemories()) {
                    return false;
                }
                house.memories[room] = memories;
            }
            return true;
        }

        private boolean tellFalls(House house) {
            if (!isNumberTo(MOST_FALLS)) {
                return false;
            }
            house.fall = value;
            step();
            return true;
        }

        private boolean tellWash(House house) {
            if (!isNumberTo(house.dusters - 1)) {
                return false;
            }
            house.washOne(value);
            step();
            return true;
        }

        private boolean tellMemories() {
            memories = 0;
            if (!isNumberTo(LAST_MEMORY)) {
                return false;
            }
            for (int i = 0; i < MOST_MEMORIES && isNumberTo(LAST_MEMORY); i++) {
                memories |= 1 << value;
                step();
            }
            return token != NUMBER;
        }

        private boolean isWord(int word) {
            return token == WORD && value == word;
        }

        private boolean isNumberTo(int most) {
            return token == NUMBER && value <= most;
        }

        private void step() {
            start = end;
            while (start < length && bytes[start] == ' ') {
                start++;
            }
            end = start;
            if (start >= length) {
                token = END;
            } else if (isLetter(bytes[start])) {
                stepOverWord();
            } else if (isDigit(bytes[start])) {
                stepOverNumber();
            } else {
                token = bytes[start] == ';' ? SIGN : OTHER;
                end = start + 1;
            }
        }

        private void stepOverWord() {
            while (end < length && isLetter(bytes[end])) {
                end++;
            }
            token = WORD;
            // Compared here and not in a method of its own, as calls go eight deep at most.
            for (value = 0; value < ANOTHER_WORD; value++) {
                String name = nameOf(value);
                int same = 0;
                while (same < name.length() && start + same < end && bytes[start + same] == name.charAt(same)) {
                    same++;
                }
                if (same == name.length() && start + same == end) {
                    return;
                }
            }
        }

        private void stepOverNumber() {
            token = NUMBER;
            value = 0;
            while (end < length && isDigit(bytes[end])) {
                // Held down, so that many digits don't run over to a number that may be.
                value = Math.min(ABOVE_ALL_NUMBERS, value * 10 + bytes[end] - '0');
                end++;
            }
        }

        private static boolean isLetter(int b) {
            return b >= 'a' && b <= 'z';
        }

        private static boolean isDigit(int b) {
            return b >= '0' && b <= '9';
        }

        private static String nameOf(int word) {
            switch (word) {
                case Kinds.DUSTER:
                    return "duster";
                case Kinds.HEMMED:
                    return "hemmed";
                case Kinds.GLASS:
                    return "glass";
                case Kinds.WOOL:
                    return "wool";
                case Kinds.WEDDING:
                    return "wedding";
                case Kinds.SILK:
                    return "silk";
                case HOLDS:
                    return "holds";
                case GRIME:
                    return "grime";
                case ROOM:
                    return "room";
                case DUST:
                    return "dust";
                case HAS:
                    return "has";
                case FALLS:
                    return "falls";
                case WASH:
                    return "wash";
                default:
                    return "";
            }
        }
    }
}
