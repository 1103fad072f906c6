/** One part for each promise of the document: ordinary calls, the edges it names, wrong arguments. */
public final class PromiseTest {
    static final int BEYOND = -1000000001;
    static final int FULL = -1000000002;
    static final int KIND = -1000000003;
    static final int NONE = -1000000004;
    static final int STATE = -1000000005;
    static final int MISSING = -1000000006;
    static final int SIZE = -1000000007;
    static final int[] NEVER = {-1, Integer.MIN_VALUE, Integer.MAX_VALUE};

    static int wrong = 0;
    static int asked = 0;
    static int promise = 0;

    static void due(String what, long got, long want) {
        asked++;
        if (got != want) {
            wrong++;
            System.out.println("promise " + promise + ": " + what + " answered " + got + ", due is " + want);
        }
    }

    static DusterRounds with(int... kinds) {
        DusterRounds x = new DusterRounds();
        for (int kind : kinds) {
            x.duster(kind);
        }
        return x;
    }

    static int tell(DusterRounds x, String text) {
        x.wipe();
        // By fours, so that an object stays within its 512 calls.
        for (int i = 0; i < text.length(); i += 4) {
            int n = Math.min(4, text.length() - i);
            int bytes = 0;
            for (int k = 0; k < n; k++) {
                bytes = bytes << 8 | text.charAt(i + k);
            }
            x.feed(bytes, n);
        }
        return x.house();
    }

    /** A fault at a place, told on an object that has one duster; nothing may have changed. */
    static void fault(String text, int place) {
        DusterRounds x = with(0);
        due("house of '" + text + "'", tell(x, text), -1 - place);
        due("dusters after '" + text + "'", x.count(0), 1);
        due("falls after '" + text + "'", x.now(1), 3);
        due("dust after '" + text + "'", x.now(2), 160);
        due("memories after '" + text + "'", x.now(4), 0);
        due("tape after '" + text + "'", x.count(1), 0);
        due("findings after '" + text + "'", x.status(-1), 0);
    }

    public static void main(String[] args) {
        rooms();
        dusters();
        goingThrough();
        washingAndShaking();
        days();
        looking();
        choosingForDust();
        choosingForMemories();
        delays();
        tape();
        texts();
        faults();
        sheets();
        copies();
        books();
        images();
        statuses();
        System.out.println(asked + " asked, " + wrong + " wrong");
        if (wrong != 0) {
            System.exit(1);
        }
    }

    static void rooms() {
        promise = 1;
        DusterRounds x = new DusterRounds();
        due("count(0)", x.count(0), 0);
        due("count(1)", x.count(1), 0);
        due("now(0)", x.now(0), 0);
        due("now(1)", x.now(1), 3);
        due("now(2)", x.now(2), 160);
        due("now(4)", x.now(4), 0);
        due("now(5)", x.now(5), 0);
        due("of(0, 0)", x.of(0, 0), BEYOND);
        due("tear()", x.tear(), 0);
        for (int s = 0; s < 4; s++) {
            due("lays", x.lays(s), MISSING);
        }
        for (int room = 0; room < 8; room++) {
            due("roomOf(.., 0)", x.roomOf(room, 0), 20);
            due("roomOf(.., 1)", x.roomOf(room, 1), 0);
            due("roomOf(.., 2)", x.roomOf(room, 2), 0);
        }

        promise = 2;
        due("falls(0)", x.falls(0), 3);
        due("falls(20)", x.falls(20), 0);
        due("falls(21)", x.falls(21), BEYOND);
        for (int v : NEVER) {
            due("falls(" + v + ")", x.falls(v), BEYOND);
        }
        due("now(1)", x.now(1), 20);

        promise = 3;
        due("room(7, 0, 99)", x.room(7, 0, 99), 20);
        due("room(7, 0, 0)", x.room(7, 0, 0), 99);
        due("room(7, 1, 1023)", x.room(7, 1, 1023), 0);
        due("room(7, 1, 5)", x.room(7, 1, 5), 1023);
        due("room(7, 0, 100)", x.room(7, 0, 100), BEYOND);
        due("room(7, 1, 1024)", x.room(7, 1, 1024), BEYOND);
        due("room(7, 2, 0)", x.room(7, 2, 0), BEYOND);
        due("room(8, 0, 0)", x.room(8, 0, 0), BEYOND);
        for (int v : NEVER) {
            due("room, room", x.room(v, 0, 0), BEYOND);
            due("room, what", x.room(0, v, 0), BEYOND);
            due("room, dust", x.room(0, 0, v), BEYOND);
            due("room, memories", x.room(0, 1, v), BEYOND);
        }

        promise = 4;
        due("roomOf(7, 0)", x.roomOf(7, 0), 0);
        due("roomOf(7, 1)", x.roomOf(7, 1), 5);
        due("roomOf(0, 0)", x.roomOf(0, 0), 20);
        due("roomOf(8, 0)", x.roomOf(8, 0), BEYOND);
        due("roomOf(0, 3)", x.roomOf(0, 3), BEYOND);
        for (int v : NEVER) {
            due("roomOf, room", x.roomOf(v, 0), BEYOND);
            due("roomOf, what", x.roomOf(0, v), BEYOND);
        }
        DusterRounds y = with(0, 1, 2, 3, 4, 5, 0, 1);
        y.set(3, 3, 1);
        due("roomOf(1, 2)", y.roomOf(1, 2), 2 + 8);
        due("roomOf(3, 2)", y.roomOf(3, 2), 0);
        y.days(7);
        due("roomOf(0, 2) on day 7", y.roomOf(0, 2), 2 + 8);
        due("roomOf(7, 2) on day 7", y.roomOf(7, 2), 1);

        promise = 5;
        DusterRounds z = with(0, 0);
        for (int room = 0; room < 8; room++) {
            z.room(room, 1, 1 | (1 << room));
            z.room(room, 0, room);
        }
        z.set(0, 1, 512);
        z.set(1, 1, 260);
        due("now(2)", z.now(2), 28);
        due("now(3)", z.now(3), 1);
        due("now(4)", z.now(4), 255);
        due("now(5)", z.now(5), 772);
        due("now(6)", z.now(6), BEYOND);
        for (int v : NEVER) {
            due("now(" + v + ")", z.now(v), BEYOND);
        }
        z.days(2);
        due("now(0)", z.now(0), 2);
    }

    static void dusters() {
        promise = 6;
        DusterRounds x = new DusterRounds();
        due("duster(6)", x.duster(6), BEYOND);
        for (int v : NEVER) {
            due("duster(" + v + ")", x.duster(v), BEYOND);
        }
        for (int i = 0; i < 8; i++) {
            due("duster", x.duster(i % 6), i);
        }
        due("duster(0), a ninth", x.duster(0), FULL);
        due("duster(6), a ninth", x.duster(6), BEYOND);
        due("count(0)", x.count(0), 8);

        promise = 7;
        for (int i = 0; i < 8; i++) {
            due("kind", x.of(i, 0), i % 6);
            due("holds", x.of(i, 1), 0);
            due("grime", x.of(i, 2), 0);
            due("round", x.of(i, 3), i);
            due("room", x.of(i, 4), i);
        }
        due("of(8, 0)", x.of(8, 0), BEYOND);
        due("of(0, 9)", x.of(0, 9), BEYOND);
        for (int v : NEVER) {
            due("of, duster", x.of(v, 0), BEYOND);
            due("of, what", x.of(0, v), BEYOND);
        }
        kindsByGrime();
        keeping();
        settingAndTurning();
    }

    static void kindsByGrime() {
        int[] grimes = {0, 1, 9, 10, 19, 20, 24, 25, 49, 50, 60, 61, 74, 75, 99};
        int[][] wipes = {
            {12, 12, 12, 11, 11, 10, 10, 10, 8, 7, 6, 6, 5, 5, 3},
            {15, 15, 15, 14, 14, 13, 13, 13, 11, 10, 9, 9, 8, 8, 6},
            {24, 24, 24, 22, 22, 10, 10, 10, 8, 7, 6, 6, 5, 5, 3},
            {9, 9, 9, 9, 9, 9, 9, 9, 9, 9, 9, 9, 9, 9, 9},
            {10, 10, 10, 9, 9, 8, 8, 8, 6, 5, 4, 4, 3, 3, 1},
            {23, 23, 23, 21, 21, 9, 9, 9, 7, 6, 5, 5, 4, 4, 2},
        };
        int[][] takes = {
            {1, 1, 1, 1, 1, 1, 1, 1, 1, 1, 1, 1, 1, 1, 1},
            {2, 2, 2, 2, 2, 2, 2, 2, 2, 2, 2, 2, 2, 2, 2},
            {1, 1, 1, 1, 1, 1, 1, 1, 1, 1, 1, 0, 0, 0, 0},
            {9, 9, 9, 9, 9, 9, 9, 9, 9, 9, 9, 9, 9, 9, 9},
            {2, 2, 2, 2, 2, 2, 2, 2, 2, 2, 2, 2, 2, 2, 2},
            {0, 0, 0, 0, 0, 0, 0, 0, 0, 0, 0, 0, 0, 0, 0},
        };
        int[][] leaves = {
            {0, 0, 0, 0, 0, 0, 0, 1, 1, 2, 2, 2, 2, 3, 3},
            {1, 1, 1, 1, 1, 1, 1, 2, 2, 3, 3, 3, 3, 4, 4},
            {0, 0, 0, 0, 0, 0, 0, 1, 1, 2, 2, 2, 2, 3, 3},
            {0, 0, 0, 0, 0, 0, 0, 0, 0, 1, 1, 1, 1, 2, 2},
            {2, 2, 2, 2, 2, 2, 2, 4, 4, 6, 6, 6, 6, 8, 8},
            {1, 0, 0, 0, 0, 0, 0, 1, 1, 2, 2, 2, 2, 3, 3},
        };
        for (int kind = 0; kind < 6; kind++) {
            DusterRounds x = with(kind);
            for (int i = 0; i < grimes.length; i++) {
                x.set(0, 2, grimes[i]);
                String of = " of kind " + kind + ", grime " + grimes[i];
                due("wipes" + of, x.of(0, 5), wipes[kind][i]);
                due("takes up" + of, x.of(0, 6), takes[kind][i]);
                due("leaves" + of, x.of(0, 7), leaves[kind][i]);
            }
            x.set(0, 2, 0);
            x.room(0, 0, 0);
            due("wipes however much there is", x.of(0, 5), wipes[kind][0]);
        }
    }

    static void keeping() {
        int[] keepsFour = {1, 1, 0, 1, 1, 0};
        int[] keepsFive = {1, 1, 0, 1, 1, 1};
        for (int kind = 0; kind < 6; kind++) {
            DusterRounds x = with(kind);
            x.set(0, 1, 960);
            due("keeps with 4, kind " + kind, x.of(0, 8), keepsFour[kind]);
            x.set(0, 1, 961);
            due("keeps with 5, kind " + kind, x.of(0, 8), keepsFive[kind]);
            x.set(0, 1, 1023);
            due("keeps with 10, kind " + kind, x.of(0, 8), keepsFive[kind]);
        }
    }

    static void settingAndTurning() {
        promise = 8;
        DusterRounds x = with(0, 4);
        due("set(1, 1, 1023)", x.set(1, 1, 1023), 0);
        due("set(1, 1, 6)", x.set(1, 1, 6), 1023);
        due("set(1, 2, 99)", x.set(1, 2, 99), 0);
        due("set(1, 2, 30)", x.set(1, 2, 30), 99);
        due("set(1, 3, 7)", x.set(1, 3, 7), 1);
        due("set(1, 3, 0)", x.set(1, 3, 0), 7);
        due("set(1, 1, 1024)", x.set(1, 1, 1024), BEYOND);
        due("set(1, 2, 100)", x.set(1, 2, 100), BEYOND);
        due("set(1, 3, 8)", x.set(1, 3, 8), BEYOND);
        due("set(1, 0, 0)", x.set(1, 0, 0), BEYOND);
        due("set(1, 4, 0)", x.set(1, 4, 0), BEYOND);
        due("set(2, 1, 0)", x.set(2, 1, 0), BEYOND);
        for (int v : NEVER) {
            due("set, duster", x.set(v, 1, 0), BEYOND);
            due("set, what", x.set(0, v, 0), BEYOND);
            for (int what = 1; what <= 3; what++) {
                due("set, v", x.set(0, what, v), BEYOND);
            }
        }
        due("holds", x.of(1, 1), 6);
        due("grime", x.of(1, 2), 30);
        due("round", x.of(1, 3), 0);

        promise = 9;
        due("turn(1, 5)", x.turn(1, 5), 4);
        due("turn(1, 5)", x.turn(1, 5), 5);
        due("turn(1, 6)", x.turn(1, 6), BEYOND);
        due("turn(2, 0)", x.turn(2, 0), BEYOND);
        for (int v : NEVER) {
            due("turn, duster", x.turn(v, 0), BEYOND);
            due("turn, kind", x.turn(0, v), BEYOND);
        }
        due("holds as before", x.of(1, 1), 6);
        due("grime as before", x.of(1, 2), 30);

        promise = 10;
        boolean[][] under = {
            {true, false, false, false, false, false},
            {true, true, false, false, false, false},
            {true, false, true, false, false, false},
            {true, false, false, true, false, false},
            {true, true, false, false, true, false},
            {true, false, true, false, false, true},
        };
        for (int kind = 0; kind < 6; kind++) {
            x.turn(1, kind);
            for (int above = 0; above < 6; above++) {
                due(kind + " as " + above, x.as(1, above), under[kind][above] ? 30 : KIND);
            }
        }
        due("as(2, 0)", x.as(2, 0), BEYOND);
        due("as(1, 6)", x.as(1, 6), BEYOND);
        for (int v : NEVER) {
            due("as, duster", x.as(v, 0), BEYOND);
            due("as, kind", x.as(1, v), BEYOND);
        }
    }

    static void goingThrough() {
        promise = 11;
        // Hemmed, grime 25: takes up 2 (the least of 1, 4, 6), leaves 2 (the least of 0, 2, 9), keeps them.
        DusterRounds x = with(1);
        x.set(0, 2, 25);
        x.set(0, 1, 1 + 4 + 8 + 512);
        x.room(5, 1, 2 + 8 + 16 + 64);
        due("through(0, 5)", x.through(0, 5), 13);
        due("holds", x.of(0, 1), 1 + 4 + 8 + 512 + 2 + 16);
        due("has", x.roomOf(5, 1), 8 + 64 + 1 + 4);
        due("dust", x.roomOf(5, 0), 7);
        due("grime", x.of(0, 2), 31);
        due("the day stays", x.now(0), 0);
        due("it wipes no more than there is", x.through(0, 5), 7);
        due("grime", x.of(0, 2), 34);
        due("dust", x.roomOf(5, 0), 0);

        // Glass, grime 25: what it takes up now it doesn't leave now, what it leaves it doesn't keep.
        DusterRounds y = with(2);
        y.set(0, 2, 25);
        y.set(0, 1, 4 + 8);
        y.room(0, 1, 1);
        due("through(0, 0)", y.through(0, 0), 10);
        due("holds", y.of(0, 1), 8 + 1);
        due("has", y.roomOf(0, 1), 4);

        // Silk that holds 5 keeps what it leaves; with 4 it does not.
        DusterRounds z = with(5);
        z.set(0, 1, 31);
        due("through(0, 1)", z.through(0, 1), 20);
        due("holds", z.of(0, 1), 31);
        due("has", z.roomOf(1, 1), 1);
        z.set(0, 1, 15);
        z.set(0, 2, 0);
        due("through(0, 2)", z.through(0, 2), 20);
        due("holds", z.of(0, 1), 14);
        due("has", z.roomOf(2, 1), 1);

        // Wool takes up 9 of 10.
        DusterRounds w = with(3);
        w.room(0, 1, 1023);
        w.set(0, 2, 98);
        due("through(0, 0)", w.through(0, 0), 9);
        due("holds", w.of(0, 1), 511);
        due("has", w.roomOf(0, 1), 512);
        due("grime is 99 at most", w.of(0, 2), 99);

        due("through(1, 0)", w.through(1, 0), BEYOND);
        due("through(0, 8)", w.through(0, 8), BEYOND);
        for (int v : NEVER) {
            due("through, duster", w.through(v, 0), BEYOND);
            due("through, room", w.through(0, v), BEYOND);
        }
    }

    static void washingAndShaking() {
        promise = 12;
        DusterRounds x = with(0, 1);
        x.set(1, 1, 9);
        x.set(1, 2, 77);
        x.set(0, 1, 2);
        x.room(3, 1, 16);
        due("wash(1)", x.wash(1), 9);
        due("everywhere", x.now(3), 9);
        due("has", x.roomOf(3, 1), 25);
        due("holds", x.of(1, 1), 0);
        due("grime", x.of(1, 2), 0);
        due("the other one holds", x.of(0, 1), 2);
        due("wash(2)", x.wash(2), BEYOND);
        for (int v : NEVER) {
            due("wash", x.wash(v), BEYOND);
        }

        promise = 13;
        DusterRounds y = with(0, 1);
        y.set(1, 1, 9);
        y.set(1, 2, 77);
        y.room(2, 1, 1 + 32);
        due("shake(1)", y.shake(1), 9);
        due("has", y.roomOf(2, 1), 41);
        due("anywhere", y.now(4), 41);
        due("where it is", y.roomOf(1, 1), 0);
        due("holds", y.of(1, 1), 0);
        due("grime", y.of(1, 2), 38);
        y.set(1, 3, 7);
        y.set(1, 1, 64);
        due("shake(1) in 7", y.shake(1), 64);
        due("behind 7 is 0", y.roomOf(0, 1), 64);
        due("shake(2)", y.shake(2), BEYOND);
        for (int v : NEVER) {
            due("shake", y.shake(v), BEYOND);
        }
    }

    static void days() {
        promise = 14;
        // Both are in room 0 on the first day, by their numbers: the second finds what the first left.
        DusterRounds x = with(0, 0);
        x.set(1, 3, 0);
        x.room(0, 1, 1 + 2);
        due("days(1)", x.days(1), 160 + 24 - 20);
        due("first holds", x.of(0, 1), 1);
        due("second holds", x.of(1, 1), 2);
        due("first grime", x.of(0, 2), 6);
        due("second grime", x.of(1, 2), 4);
        due("dust", x.roomOf(0, 0), 3);
        due("day", x.now(0), 1);
        due("room", x.of(0, 4), 1);
        due("days(0)", x.days(0), BEYOND);
        due("days(61)", x.days(61), BEYOND);
        for (int v : NEVER) {
            due("days", x.days(v), BEYOND);
        }
        due("day", x.now(0), 1);
        DusterRounds y = new DusterRounds();
        y.falls(20);
        y.room(2, 0, 98);
        due("days(4)", y.days(4), 8 * 99);
        DusterRounds z = new DusterRounds();
        for (int i = 0; i < 166; i++) {
            z.days(60);
        }
        due("day", z.now(0), 9960);
        due("days(40)", z.days(40), STATE);
        due("days(61) is asked first", z.days(61), BEYOND);
        due("days(39)", z.days(39), 792);
        due("day", z.now(0), 9999);
        due("days(1)", z.days(1), STATE);
        due("on goes on", z.on(0, 100, 0), 99);
    }

    static void looking() {
        // A duster that starts in room 0 with 9 to find there, and leaves memory 0 when it has grime 25.
        DusterRounds x = with(0);
        x.set(0, 1, 1);
        x.room(0, 1, 512);
        promise = 15;
        due("on(0, 0, 0)", x.on(0, 0, 0), 20);
        due("on(0, 0, 1)", x.on(0, 0, 1), 512);
        due("on(0, 1, 0)", x.on(0, 1, 0), 11);
        due("on(0, 1, 1)", x.on(0, 1, 1), 0);
        due("on(1, 2, 0)", x.on(1, 2, 0), 14);
        due("on(7, 100, 0)", x.on(7, 100, 0), 99);
        due("nothing changes", x.roomOf(0, 1), 512);
        due("nothing changes", x.now(0), 0);
        due("on(8, 0, 0)", x.on(8, 0, 0), BEYOND);
        due("on(0, 101, 0)", x.on(0, 101, 0), BEYOND);
        due("on(0, 0, 2)", x.on(0, 0, 2), BEYOND);
        promise = 16;
        // 6, 11 (11 of 23), 16 (11 of 26), 21 (11 of 29), 26 (10 of 32): so it leaves 0 in room 5.
        due("then(0, 0, 0)", x.then(0, 0, 0), 1);
        due("then(0, 1, 0)", x.then(0, 1, 0), 513);
        due("then(0, 0, 1)", x.then(0, 0, 1), 0);
        due("then(0, 1, 1)", x.then(0, 1, 1), 6);
        due("then(0, 2, 1)", x.then(0, 2, 1), 12);
        due("then(0, 3, 1)", x.then(0, 3, 1), 17);
        due("then(0, 4, 1)", x.then(0, 4, 1), 22);
        due("then(0, 5, 1)", x.then(0, 5, 1), 27);
        due("then(0, 100, 1)", x.then(0, 100, 1), 99);
        due("nothing changes", x.of(0, 1), 1);
        due("then(1, 0, 0)", x.then(1, 0, 0), BEYOND);
        due("then(0, 101, 0)", x.then(0, 101, 0), BEYOND);
        due("then(0, 0, 2)", x.then(0, 0, 2), BEYOND);
        for (int v : NEVER) {
            promise = 15;
            due("on, room", x.on(v, 0, 0), BEYOND);
            due("on, n", x.on(0, v, 0), BEYOND);
            due("on, what", x.on(0, 0, v), BEYOND);
            promise = 16;
            due("then, duster", x.then(v, 0, 0), BEYOND);
            due("then, n", x.then(0, v, 0), BEYOND);
            due("then, what", x.then(0, 0, v), BEYOND);
        }
        firsts(x);
    }

    static void firsts(DusterRounds x) {
        promise = 18;
        due("comes(0, 9)", x.comes(0, 9), 0);
        due("comes(5, 0)", x.comes(5, 0), 6);
        due("comes(4, 0)", x.comes(4, 0), 13);
        due("comes(5, 1)", x.comes(5, 1), NONE);
        due("comes(8, 0)", x.comes(8, 0), BEYOND);
        due("comes(0, 10)", x.comes(0, 10), BEYOND);
        promise = 19;
        due("holds(0, 0)", x.holds(0, 0), 0);
        due("holds(0, 9)", x.holds(0, 9), 1);
        due("holds(0, 1)", x.holds(0, 1), NONE);
        due("holds(1, 0)", x.holds(1, 0), BEYOND);
        due("holds(0, 10)", x.holds(0, 10), BEYOND);
        promise = 17;
        due("clean(0)", x.clean(0), NONE);
        due("clean(8)", x.clean(8), BEYOND);
        x.room(3, 0, 0);
        due("clean(3)", x.clean(3), 0);
        x.falls(0);
        x.room(4, 0, 1);
        due("clean(4)", x.clean(4), 5);
        for (int v : NEVER) {
            promise = 17;
            due("clean", x.clean(v), BEYOND);
            promise = 18;
            due("comes, room", x.comes(v, 0), BEYOND);
            due("comes, memory", x.comes(0, v), BEYOND);
            promise = 19;
            due("holds, duster", x.holds(v, 0), BEYOND);
            due("holds, memory", x.holds(0, v), BEYOND);
        }
        hundredth();
    }

    /** What comes in 100 days counts, what comes in 101 does not. */
    static void hundredth() {
        promise = 17;
        DusterRounds x = with(3, 3);
        x.falls(0);
        x.set(0, 3, 7);
        x.set(1, 3, 7);
        x.room(3, 0, 99);
        // From room 7 they come to room 3 on days 4, 12, .., and take 18 each time: the sixth ends it.
        due("clean(3) by two", x.clean(3), 45);
        // Weddings of grime 99 wipe 1 each, on days 3, 11, .. 99: 26 as the 100th day goes.
        for (int one = 0; one < 2; one++) {
            x.turn(one, 4);
            x.set(one, 2, 99);
            x.set(one, 3, 0);
        }
        x.room(3, 0, 26);
        due("clean(3), dust 26", x.clean(3), 100);
        x.room(3, 0, 27);
        due("clean(3), dust 27", x.clean(3), NONE);
        promise = 19;
        DusterRounds y = with(0);
        y.room(3, 1, 1023);
        y.falls(0);
        due("holds(0, 9), the tenth of one a round", y.holds(0, 9), 4 + 9 * 8);
    }

    static void choosingForDust() {
        promise = 20;
        DusterRounds x = with(0, 3);
        x.room(0, 0, 0);
        x.room(1, 0, 4);
        x.room(2, 0, 11);
        x.room(3, 0, 12);
        x.room(4, 0, 13);
        // On one day the duster takes 12 at most; the wool one is in room 1.
        due("round(0, 1)", x.round(0, 1), 3);
        x.room(3, 0, 11);
        due("round(0, 1)", x.round(0, 1), 4);
        due("nothing changes", x.of(0, 3), 0);
        due("round(2, 1)", x.round(2, 1), BEYOND);
        due("round(0, 0)", x.round(0, 0), BEYOND);
        due("round(0, 41)", x.round(0, 41), BEYOND);
        DusterRounds even = with(0);
        even.room(6, 0, 99);
        due("of several the least", even.round(0, 1), 0);

        promise = 23;
        DusterRounds y = with(0, 0, 0);
        due("best of even ones", y.best(1), 0);
        y.set(1, 2, 60);
        y.set(2, 2, 61);
        due("best(1)", y.best(1), 1);
        y.set(2, 2, 70);
        due("best(1)", y.best(1), 2);
        due("best(40)", y.best(40) >= 0 ? 1 : 0, 1);
        due("nothing changes", y.of(2, 2), 70);
        due("best(0)", y.best(0), BEYOND);
        due("best(41)", y.best(41), BEYOND);
        due("best(1) of none", new DusterRounds().best(1), NONE);
        due("best(0) of none", new DusterRounds().best(0), BEYOND);

        promise = 25;
        DusterRounds z = with(0);
        // 12 less on one day: 1 for each room, not 2.
        due("bears(1)", z.bears(1), 1);
        due("falls as before", z.now(1), 3);
        DusterRounds full = new DusterRounds();
        for (int room = 0; room < 8; room++) {
            full.room(room, 0, 99);
        }
        due("bears of full rooms", full.bears(40), 20);
        due("bears without dusters", new DusterRounds().bears(40), 0);
        due("bears(0)", z.bears(0), BEYOND);
        due("bears(41)", z.bears(41), BEYOND);

        promise = 26;
        DusterRounds f = with(3);
        due("fullest(0) of empty ones", f.fullest(0), 0);
        f.room(0, 1, 1023);
        f.room(5, 1, 7);
        f.room(6, 1, 56);
        due("fullest(0)", f.fullest(0), 0);
        due("fullest(1)", f.fullest(1), 5);
        due("fullest(100)", within(f.fullest(100), 0, 7), 1);
        due("fullest(101)", f.fullest(101), BEYOND);
        for (int v : NEVER) {
            promise = 20;
            due("round, duster", x.round(v, 1), BEYOND);
            due("round, n", x.round(0, v), BEYOND);
            promise = 23;
            due("best", y.best(v), BEYOND);
            promise = 25;
            due("bears", z.bears(v), BEYOND);
            promise = 26;
            due("fullest", f.fullest(v), BEYOND);
        }
    }

    static int within(int v, int least, int most) {
        return v >= least && v <= most ? 1 : 0;
    }

    static void choosingForMemories() {
        promise = 21;
        // On one day, holding 5 with grime 25, room 0 empty: duster leaves 1, hemmed 2, glass 1, wool 0,
        // wedding 4, silk 1.
        DusterRounds x = with(0);
        x.set(0, 1, 31);
        x.set(0, 2, 25);
        due("kind(0, 1)", x.kind(0, 1), 4);
        due("nothing changes", x.of(0, 0), 0);
        x.set(0, 1, 3);
        due("of several the least", x.kind(0, 1), 1);
        x.set(0, 1, 0);
        due("of all the least", x.kind(0, 1), 0);
        // The room has 2 and it holds none: only silk takes none up.
        x.room(0, 1, 3);
        due("silk takes none", x.kind(0, 1), 5);
        due("kind(1, 1)", x.kind(1, 1), BEYOND);
        due("kind(0, 0)", x.kind(0, 0), BEYOND);
        due("kind(0, 41)", x.kind(0, 41), BEYOND);

        promise = 22;
        DusterRounds y = with(0);
        y.set(0, 1, 31);
        due("grime(0, 1)", y.grime(0, 1), 75);
        y.set(0, 1, 3);
        due("grime(0, 1) of two", y.grime(0, 1), 50);
        y.set(0, 1, 0);
        due("grime(0, 1) of none", y.grime(0, 1), 0);
        y.set(0, 1, 1);
        y.falls(0);
        for (int room = 0; room < 8; room++) {
            y.room(room, 0, 0);
        }
        due("grime(0, 40)", y.grime(0, 40), 25);
        due("nothing changes", y.of(0, 2), 0);
        y.turn(0, 4);
        y.set(0, 1, 1023);
        due("wedding leaves 8", y.grime(0, 1), 75);
        due("grime(1, 1)", y.grime(1, 1), BEYOND);
        due("grime(0, 0)", y.grime(0, 0), BEYOND);
        due("grime(0, 41)", y.grime(0, 41), BEYOND);
        for (int v : NEVER) {
            promise = 21;
            due("kind, duster", x.kind(v, 1), BEYOND);
            due("kind, n", x.kind(0, v), BEYOND);
            promise = 22;
            due("grime, duster", y.grime(v, 1), BEYOND);
            due("grime, n", y.grime(0, v), BEYOND);
        }
    }

    static void delays() {
        promise = 24;
        // Silk in room 0 on day 0 neither takes up nor (of grime 1) leaves: room 4 gets all when it is
        // shaken in room 3, on day 3.
        DusterRounds x = with(5);
        x.falls(0);
        for (int room = 0; room < 8; room++) {
            x.room(room, 0, 0);
        }
        x.set(0, 1, 31);
        x.set(0, 2, 1);
        due("delay(0, 4, 1)", x.delay(0, 4, 1), 3);
        due("delay(0, 0, 20)", x.delay(0, 0, 20), 7);
        due("delay(0, 1, 20)", x.delay(0, 1, 20), 0);
        due("nothing changes", x.of(0, 1), 31);
        x.set(0, 1, 0);
        due("of several the fewest", x.delay(0, 4, 1), 0);
        // A wool one behind it clears room 4 on its own day, so n is counted behind the shaking.
        DusterRounds y = with(5, 3);
        y.falls(0);
        for (int room = 0; room < 8; room++) {
            y.room(room, 0, 0);
        }
        y.set(0, 1, 31);
        y.set(0, 2, 1);
        y.set(1, 3, 0);
        // Shaken on day 3, room 4 is cleared as day 4 goes.
        due("delay(0, 4, 1)", y.delay(0, 4, 1), 3);
        due("delay(0, 4, 2), cleared each time", y.delay(0, 4, 2), 0);
        due("delay(1, 0, 1)", y.delay(1, 0, 1), 0);
        due("delay(2, 0, 1)", y.delay(2, 0, 1), BEYOND);
        due("delay(0, 8, 1)", y.delay(0, 8, 1), BEYOND);
        due("delay(0, 0, 0)", y.delay(0, 0, 0), BEYOND);
        due("delay(0, 0, 21)", y.delay(0, 0, 21), BEYOND);
        for (int v : NEVER) {
            due("delay, duster", y.delay(v, 0, 1), BEYOND);
            due("delay, room", y.delay(0, v, 1), BEYOND);
            due("delay, n", y.delay(0, 0, v), BEYOND);
        }
    }

    static void tape() {
        promise = 27;
        DusterRounds x = new DusterRounds();
        due("feed(0, 0)", x.feed(0, 0), BEYOND);
        due("feed(0, 5)", x.feed(0, 5), BEYOND);
        for (int v : NEVER) {
            due("feed(0, " + v + ")", x.feed(0, v), BEYOND);
        }
        due("feed('fall', 4)", x.feed(0x66616c6c, 4), 4);
        due("feed('..s 7', 3)", x.feed(0x7f732037, 3), 7);
        due("house()", x.house(), 1);
        due("falls", x.now(1), 7);
        for (int i = 1; i <= 29; i++) {
            due("feed", x.feed(-1, 4), 4 * i);
        }
        due("feed(0, 3)", x.feed(0, 3), 119);
        due("feed(0, 2)", x.feed(0, 2), FULL);
        due("feed(0, 5) is asked first", x.feed(0, 5), BEYOND);
        due("feed(0, 1)", x.feed(0, 1), 120);
        due("feed(0, 1)", x.feed(0, 1), FULL);
        due("count(1)", x.count(1), 120);

        promise = 28;
        due("wipe()", x.wipe(), 120);
        due("wipe()", x.wipe(), 0);
        due("count(1)", x.count(1), 0);
    }

    static void texts() {
        promise = 29;
        DusterRounds x = with(0);
        due("house", tell(x, "silk holds 1 2 3 9 grime 99; room 7 dust 0 has 4 4;falls 20; wash 0"), 4);
        due("count(0)", x.count(0), 2);
        due("kind", x.of(1, 0), 5);
        due("holds", x.of(1, 1), 2 + 4 + 8 + 512);
        due("grime", x.of(1, 2), 99);
        due("round", x.of(1, 3), 1);
        due("dust", x.roomOf(7, 0), 0);
        due("has", x.roomOf(7, 1), 16);
        due("falls", x.now(1), 20);
        due("count(1)", x.count(1), 0);
        due("these alone", tell(x, "room 7 has 0"), 1);
        due("has", x.roomOf(7, 1), 1);
        due("dust as before", x.roomOf(7, 0), 0);
        due("room alone", tell(x, "room 7"), 1);
        due("has as before", x.roomOf(7, 1), 1);
        due("washed by then", tell(x, "wash 1;room 0 has 9;glass holds 8;wash 2"), 4);
        due("has", x.roomOf(0, 1), 512 + 256);
        due("has", x.roomOf(1, 1), 2 + 4 + 8 + 512 + 256);
        due("grime", x.of(1, 2), 0);
        String[] names = {"duster", "hemmed", "glass", "wool", "wedding", "silk"};
        DusterRounds y = new DusterRounds();
        for (int kind = 0; kind < 6; kind++) {
            due(names[kind], tell(y, "  " + names[kind] + "  "), 1);
            due("kind", y.of(kind, 0), kind);
            due("round", y.of(kind, 3), kind);
        }
        due("no blanks", tell(y, "wool holds1 2grime3;room0dust4has5;falls06"), 3);
        due("holds", y.of(6, 1), 6);
        due("grime", y.of(6, 2), 3);
        due("dust", y.roomOf(0, 0), 4);
        due("has", y.roomOf(0, 1), 32);
        due("falls", y.now(1), 6);
        due("leading noughts", tell(y, "falls 00000000000000000000000000000020"), 1);
        due("falls", y.now(1), 20);
        due("grime alone", tell(y, "wool grime 0"), 1);
        due("edges", tell(y, "room 0 dust 99;room 7 dust 99;falls 0;wash 7"), 4);
    }

    static void faults() {
        promise = 29;
        fault("", 0);
        fault("   ", 3);
        fault("duster;", 7);
        fault("duster; ", 8);
        fault(";", 0);
        fault("duster;;", 7);
        fault("dusters", 0);
        fault("dusterz", 0);
        fault("duste", 0);
        fault("muster", 0);
        fault("aduster", 0);
        fault("duster zwool", 7);
        fault("dust", 0);
        fault("holds 1", 0);
        fault("7", 0);
        fault("Duster", 0);
        fault("duster\tholds 1", 6);
        fault("duster\n", 6);
        fault("duster\u00e9", 6);
        fault("duster holds", 12);
        fault("duster holds ", 13);
        fault("duster holds 10", 13);
        fault("duster holds 1 10", 15);
        fault("duster holds 0 1 2 3 4", 21);
        fault("duster holds 0 1 2 3 10", 21);
        fault("duster holds grime 1", 13);
        fault("duster holds ; falls 1", 13);
        fault("duster grime", 12);
        fault("duster grime 100", 13);
        fault("duster grime 1000", 13);
        fault("duster grime 4294967297", 13);
        fault("duster grime 18446744073709551617", 13);
        fault("duster grime 1 2", 15);
        fault("duster grime 1 holds 1", 15);
        fault("duster 1", 7);
        fault("duster has 1", 7);
        fault("duster hemmed", 7);
        fault("room", 4);
        fault("room 8", 5);
        fault("room dust 1", 5);
        fault("room 1 dust", 11);
        fault("room 1 dust 100", 12);
        fault("room 1 dust 1 2", 14);
        fault("room 1 has", 10);
        fault("room 1 has 10", 11);
        fault("room 1 has 1 2 3 4 5", 19);
        fault("room 1 has 1 dust 2", 13);
        fault("room 1 holds 1", 7);
        fault("room 1 2", 7);
        fault("falls", 5);
        fault("falls 21", 6);
        fault("falls 1 1", 8);
        fault("wash", 4);
        fault("wash 1", 5);
        fault("wash 0 0", 7);
        fault("falls 9; room 1 dust 1 has 1; wash 0; wool; falls 9 ,", 52);
        fault("falls 9; wash 0; wool; wash 1; wash 2", 36);
        fault("-1", 0);
        // Eight and a ninth: one is there, so the eighth name is the one too many.
        fault("wool;wool;wool;wool;wool;wool;wool;wool", 35);
        DusterRounds x = new DusterRounds();
        due("eight", tell(x, "wool;wool;wool;wool;wool;wool;wool;wool"), 8);
        due("a ninth", tell(x, "silk"), -1);
        due("no finding", x.status(-1), 0);
        due("the others may be", tell(x, "falls 1; wash 7"), 2);
        fullTapes(x);
        // Many items.
        DusterRounds y = new DusterRounds();
        StringBuilder text = new StringBuilder("falls9");
        for (int i = 0; i < 16; i++) {
            text.append(";room1");
        }
        text.append(";falls 12345");
        due("17 items, then a fault", tell(y, text.toString()), -1 - 109);
    }

    static void fullTapes(DusterRounds x) {
        // A tape of 120 bytes, that ends in a word, in a number, in blanks, too early.
        due("a word at the end", tell(x, " ".repeat(116) + "dust"), -1 - 116);
        due("a name at the end", tell(x, "falls 2;" + " ".repeat(106) + "duster"), -1 - 114);
        due("a number at the end", tell(x, " ".repeat(112) + "falls 13"), 1);
        due("falls", x.now(1), 13);
        due("blanks at the end", tell(x, "falls 14" + " ".repeat(112)), 1);
        due("falls", x.now(1), 14);
        due("blanks alone", tell(x, " ".repeat(120)), -1 - 120);
        due("too early", tell(x, " ".repeat(119) + ";"), -1 - 119);
        due("too early", tell(x, " ".repeat(112) + "wash 7 ;"), -1 - 120);
        // What stood on the tape before is not read again.
        due("shorter than the one before", tell(x, "falls 1"), 1);
        due("falls", x.now(1), 1);
        due("cut in a word", tell(x, "fall"), -1);
        due("cut ahead of the number", tell(x, "falls "), -1 - 6);
    }

    static void sheets() {
        promise = 30;
        DusterRounds x = new DusterRounds();
        due("sheet(4, 8, 1)", x.sheet(4, 8, 1), BEYOND);
        due("sheet(0, 32, 1)", x.sheet(0, 32, 1), BEYOND);
        due("sheet(0, 1, 1)", x.sheet(0, 1, 1), BEYOND);
        due("sheet(0, 32, -1)", x.sheet(0, 32, -1), BEYOND);
        due("sheet(4, 8, -1)", x.sheet(4, 8, -1), BEYOND);
        due("sheet(0, 8, -1)", x.sheet(0, 8, -1), SIZE);
        due("sheet(0, 0, -1)", x.sheet(0, 0, -1), SIZE);
        due("sheet(0, 0, MIN)", x.sheet(0, 0, Integer.MIN_VALUE), SIZE);
        due("sheet(0, 8, 41)", x.sheet(0, 8, 41), BEYOND);
        due("sheet(0, 0, 41)", x.sheet(0, 0, 41), BEYOND);
        due("sheet(0, 64, MAX)", x.sheet(0, 64, Integer.MAX_VALUE), BEYOND);
        for (int v : NEVER) {
            due("sheet, s", x.sheet(v, 8, 1), BEYOND);
            due("sheet, bits", x.sheet(0, v, 1), BEYOND);
        }
        due("sheet(3, 8, 40)", x.sheet(3, 8, 40), 40);
        due("sheet(0, 0, 40)", x.sheet(0, 0, 40), 0);
        due("write(0, 0, 0)", x.write(0, 0, 0), MISSING);
        due("write(3, 39, 5)", x.write(3, 39, 5), 0);
        due("all 0 again", x.sheet(3, 16, 40), 40);
        due("write(3, 39, 5)", x.write(3, 39, 5), 0);
        due("sheet(3, 0, 7)", x.sheet(3, 0, 7), 0);
        due("write(3, 39, 5)", x.write(3, 39, 5), MISSING);

        promise = 31;
        due("write(4, 0, 0)", x.write(4, 0, 0), BEYOND);
        due("write(-1, 0, 0)", x.write(-1, 0, 0), BEYOND);
        due("write(0, 99, 0)", x.write(0, 99, 0), MISSING);
        x.sheet(0, 8, 2);
        x.sheet(1, 16, 2);
        x.sheet(2, 64, 2);
        for (int s = 0; s < 3; s++) {
            due("write, i", x.write(s, 2, 0), BEYOND);
            for (int v : NEVER) {
                due("write, i", x.write(s, v, 0), BEYOND);
                due("write, s", x.write(v, 0, 0), BEYOND);
            }
            due("write", x.write(s, 1, 127), 0);
        }
        int findings = x.status(-1);
        due("8 bits", x.write(0, 1, 128), 127);
        due("8 bits", x.write(0, 1, 0x1234567890abcdefL), -128);
        due("8 bits", x.write(0, 1, 511), (byte) 0xef);
        due("8 bits", x.write(0, 1, 0), -1);
        due("16 bits", x.write(1, 1, 32768), 127);
        due("16 bits", x.write(1, 1, 0x1234567890abcdefL), -32768);
        due("16 bits", x.write(1, 1, 65536 + 255), (short) 0xcdef);
        due("16 bits", x.write(1, 1, 0), 255);
        due("64 bits", x.write(2, 1, Long.MIN_VALUE), 127);
        due("64 bits", x.write(2, 1, BEYOND), Long.MIN_VALUE);
        due("64 bits, no finding", x.write(2, 1, 0x1234567890abcdefL), BEYOND);
        due("64 bits", x.write(2, 1, 0), 0x1234567890abcdefL);
        due("findings", x.status(-1), findings);
        due("number 0 as it was", x.write(2, 0, 0), 0);
    }

    static void fill(DusterRounds x, int s, long... numbers) {
        for (int i = 0; i < numbers.length; i++) {
            x.write(s, i, numbers[i]);
        }
    }

    static void holding(DusterRounds x, int s, long... numbers) {
        for (int i = 0; i < numbers.length; i++) {
            due("number " + i, x.write(s, i, numbers[i]), numbers[i]);
        }
    }

    static void copies() {
        promise = 32;
        DusterRounds x = new DusterRounds();
        due("copy of missing ones", x.copy(0, 0, 1, 0, 0), MISSING);
        x.sheet(0, 16, 5);
        due("to a missing one", x.copy(0, 0, 1, 0, 0), MISSING);
        due("of a missing one", x.copy(1, -1, 0, 0, 0), MISSING);
        x.sheet(1, 16, 3);
        x.sheet(2, 8, 3);
        due("other bits", x.copy(0, -1, 2, 0, 1), KIND);
        due("no such sheet", x.copy(4, 0, 1, 0, 1), BEYOND);
        due("no such sheet", x.copy(0, 0, 4, 0, 1), BEYOND);
        due("no such sheet, before missing", x.copy(3, 0, -1, 0, 1), BEYOND);
        fill(x, 0, 1, 2, 3, 4, 5);
        fill(x, 1, 6, 7, 8);
        due("copy(0, 3, 1, 1, 2)", x.copy(0, 3, 1, 1, 2), 2);
        holding(x, 1, 6, 4, 5);
        holding(x, 0, 1, 2, 3, 4, 5);
        due("up, over itself", x.copy(0, 0, 0, 1, 4), 4);
        holding(x, 0, 1, 1, 2, 3, 4);
        due("down, over itself", x.copy(0, 1, 0, 0, 4), 4);
        holding(x, 0, 1, 2, 3, 4, 4);
        due("none at the ends", x.copy(0, 5, 1, 3, 0), 0);
        due("none behind the end", x.copy(0, 6, 1, 0, 0), BEYOND);
        due("none behind the end", x.copy(0, 0, 1, 4, 0), BEYOND);
        due("too many there", x.copy(0, 0, 1, 0, 4), BEYOND);
        due("too many here", x.copy(1, 0, 0, 0, 4), BEYOND);
        due("too far", x.copy(0, 3, 1, 0, 3), BEYOND);
        due("too far", x.copy(0, 0, 1, 1, 3), BEYOND);
        for (int v : NEVER) {
            due("copy, s", x.copy(v, 0, 1, 0, 1), BEYOND);
            due("copy, t", x.copy(0, 0, v, 0, 1), BEYOND);
            due("copy, from", x.copy(0, v, 1, 0, 1), BEYOND);
            due("copy, to", x.copy(0, 0, 1, v, 1), BEYOND);
            due("copy, n", x.copy(0, 0, 1, 0, v), BEYOND);
            due("copy, from and n", x.copy(0, v, 1, 0, v), BEYOND);
        }
        holding(x, 0, 1, 2, 3, 4, 4);
        holding(x, 1, 6, 4, 5);
    }

    static void books() {
        promise = 33;
        DusterRounds x = with(0);
        due("lays(0)", x.lays(0), MISSING);
        due("lays(4)", x.lays(4), BEYOND);
        x.sheet(0, 64, 40);
        fill(x, 0, 1, 1024, -1, 1023, 0, Long.MIN_VALUE, 4294967297L, 7, 8);
        for (int room = 0; room < 8; room++) {
            x.room(room, 1, 32);
        }
        due("lays(0)", x.lays(0), 4);
        int[] has = {1, 32, 32, 1023, 0, 32, 32, 7};
        for (int room = 0; room < 8; room++) {
            due("has", x.roomOf(room, 1), has[room]);
        }
        x.sheet(0, 8, 2);
        due("lays(0) of two", x.lays(0), 2);
        due("has", x.roomOf(0, 1), 0);
        due("has", x.roomOf(2, 1), 32);
        x.sheet(0, 8, 0);
        due("lays(0) of none", x.lays(0), 0);

        promise = 34;
        DusterRounds y = with(0);
        y.room(0, 1, 1023);
        due("book(4, 0)", y.book(4, 0), BEYOND);
        due("book(0, 8), missing first", y.book(0, 8), MISSING);
        y.sheet(0, 16, 12);
        due("book(0, 8)", y.book(0, 8), BEYOND);
        due("book(0, 0)", y.book(0, 0), 12);
        // It takes 0 as the first day goes; back on the ninth, of grime above 25, it takes 1 and leaves 0.
        holding(y, 0, 1023, 1022, 1022, 1022, 1022, 1022, 1022, 1022, 1022, 1021, 1021, 1021);
        due("nothing changes", y.now(0), 0);
        y.sheet(1, 8, 2);
        due("book(1, 0) of 8 bits", y.book(1, 0), 2);
        holding(y, 1, -1, -2);
        y.sheet(1, 64, 0);
        due("book(1, 0) of none", y.book(1, 0), 0);

        promise = 35;
        DusterRounds z = with(0, 5);
        z.room(3, 1, 3);
        due("read(4, 0, 0)", z.read(4, 0, 0), BEYOND);
        due("read(0, 8, 9), missing first", z.read(0, 8, 9), MISSING);
        z.sheet(0, 16, 2);
        due("read(0, 8, 0)", z.read(0, 8, 0), BEYOND);
        due("read(0, 0, 2)", z.read(0, 0, 2), BEYOND);
        // Just one takes 0 from room 3 on the first day: by round 3, as duster or as glass.
        fill(z, 0, 3, 2);
        due("taken by one kind", z.read(0, 3, 0), 2);
        // Hemmed, wool and wedding take both.
        fill(z, 0, 3, 0);
        due("taken by three kinds", z.read(0, 3, 0), 3);
        // All rounds but 3, and silk by 3.
        fill(z, 0, 3, 3);
        due("not taken", z.read(0, 3, 0), 43);
        fill(z, 0, 1, 3);
        due("never so", z.read(0, 3, 0), 0);
        z.sheet(0, 16, 0);
        due("no numbers", z.read(0, 3, 0), 48);
        due("nothing changes", z.of(0, 0), 0);
        z.sheet(1, 8, 1);
        z.room(3, 1, 255);
        fill(z, 1, 255);
        due("-1 is no set", z.read(1, 3, 0), 0);
        for (int v : NEVER) {
            promise = 33;
            due("lays", x.lays(v), BEYOND);
            promise = 34;
            due("book, s", y.book(v, 0), BEYOND);
            due("book, room", y.book(0, v), BEYOND);
            promise = 35;
            due("read, s", z.read(v, 0, 0), BEYOND);
            due("read, room", z.read(1, v, 0), BEYOND);
            due("read, duster", z.read(1, 0, v), BEYOND);
        }
    }

    static void images() {
        promise = 37;
        DusterRounds x = with(0, 4);
        due("undo()", x.undo(), NONE);
        x.set(1, 1, 6);
        x.set(1, 2, 60);
        x.set(1, 3, 5);
        x.room(2, 0, 9);
        x.room(2, 1, 10);
        x.falls(11);
        x.days(3);
        x.sheet(0, 8, 3);
        int dust = x.now(2);
        int has = x.roomOf(2, 1);
        int held = x.of(1, 1);
        int grime = x.of(1, 2);
        promise = 36;
        due("image()", x.image(), 1);
        x.feed(97, 1);
        x.sheet(0, 16, 9);
        x.days(5);
        x.duster(3);
        x.turn(1, 2);
        x.set(1, 3, 0);
        x.set(1, 2, 0);
        x.falls(0);
        x.room(2, 1, 1023);
        promise = 37;
        for (int i = 0; i < 2; i++) {
            due("undo()", x.undo(), 2);
            due("day", x.now(0), 3);
            due("falls", x.now(1), 11);
            due("dust", x.now(2), dust);
            due("has", x.roomOf(2, 1), has);
            due("kind", x.of(1, 0), 4);
            due("holds", x.of(1, 1), held);
            due("grime", x.of(1, 2), grime);
            due("round", x.of(1, 3), 5);
            due("the tape stays", x.count(1), 1);
            due("the sheet stays", x.book(0, 0), 9);
            due("findings stay", x.status(3), 1);
            x.days(1);
        }
        x.duster(5);
        due("new ones are new", x.of(2, 0), 5);
        x.set(2, 1, 7);
        x.set(2, 2, 7);
        due("image(), the latest", x.image(), 1);
        x.turn(2, 1);
        due("undo()", x.undo(), 3);
        due("kind", x.of(2, 0), 5);
        promise = 38;
        due("tear()", x.tear(), 1);
        due("tear()", x.tear(), 0);
        due("undo()", x.undo(), NONE);
        due("all as it is", x.count(0), 3);
        // A duster that comes after an undo has nothing of the one that was there.
        DusterRounds y = new DusterRounds();
        y.image();
        y.duster(1);
        y.set(0, 1, 7);
        y.set(0, 2, 7);
        y.set(0, 3, 7);
        due("undo()", y.undo(), 0);
        y.duster(2);
        due("holds", y.of(0, 1), 0);
        due("grime", y.of(0, 2), 0);
        due("round", y.of(0, 3), 0);
        due("kind", y.of(0, 0), 2);
    }

    static void statuses() {
        promise = 39;
        DusterRounds x = with(0, 1, 2);
        x.feed(0, 3);
        x.room(0, 1, 7);
        x.room(7, 1, 5);
        x.set(0, 2, 99);
        x.set(2, 2, 5);
        due("count(0)", x.count(0), 3);
        due("count(1)", x.count(1), 3);
        due("count(2)", x.count(2), 5);
        due("count(3)", x.count(3), 104);
        due("count(4)", x.count(4), BEYOND);
        for (int v : NEVER) {
            due("count", x.count(v), BEYOND);
        }

        promise = 40;
        DusterRounds y = new DusterRounds();
        due("status(-1)", y.status(-1), 0);
        due("status(7)", y.status(7), BEYOND);
        due("status(-2)", y.status(-2), BEYOND);
        due("status(MIN)", y.status(Integer.MIN_VALUE), BEYOND);
        due("status(MAX)", y.status(Integer.MAX_VALUE), BEYOND);
        due("status(0)", y.status(0), 4);
        y.image();
        y.sheet(0, 8, -1);
        for (int i = 0; i < 2; i++) {
            y.lays(1);
        }
        for (int i = 0; i < 3; i++) {
            y.best(1);
        }
        y.duster(5);
        for (int i = 0; i < 5; i++) {
            y.as(0, 1);
        }
        for (int i = 0; i < 31; i++) {
            y.feed(0, 4);
        }
        for (int i = 0; i < 168; i++) {
            y.days(60);
        }
        y.write(0, 0, 0);
        y.write(7, 0, 0);
        y.house();
        y.undo();
        due("BEYOND", y.status(0), 5);
        due("FULL", y.status(1), 1);
        due("KIND", y.status(2), 5);
        due("NONE", y.status(3), 3);
        due("STATE", y.status(4), 2);
        due("MISSING", y.status(5), 3);
        due("SIZE", y.status(6), 1);
        due("all", y.status(-1), 20);
    }
}
