import java.math.BigInteger;

/** The edges of promises 25 to 28 and of part 4, a STEP, each under the words of the document that name it. */
final class EdgeStepTest {
    private static final int UNKNOWN = Edge.UNKNOWN, OUTSIDE = Edge.OUTSIDE, STATE = Edge.STATE, FULL = Edge.FULL,
            UNREAD = Edge.UNREAD, NONE = Edge.NONE;
    /** FAULTS as FINDINGS tell them. */
    private static final int NULL = 1, CAST = 2, INDEX = 3;
    private static final String ALL_KINDS = Edge.ALL_KINDS;
    /** 40 PANELS without ROWS: each STEP has 40 FAULTS, so 124 STEPS have 4,960. */
    private static final String FAULTS_4960 = "gear(10,0)*40 night(0,20)*6 step()*4";

    public static void main(String[] args) {
        stepFull();
        stepFullOfAll();
        nightOutside();
        nightDraws();
        nightComesOrNot();
        nightEnds();
        backRefused();
        backUndone();
        backOut(0);
        backOut(39);
        statusOfEach();
        statusOfTold();
        keptThirty();
        timeTraceMoved();
        planTimes();
        planRows();
        planDoors();
        planSides();
        planReleases();
        mergeChooses();
        mergeLast();
        paces();
        scannedOnce();
        scannedTargets();
        holdReleases();
        waits();
        movesUp();
        panels();
        chutesGive();
        othersGive();
        asked();
        scales();
        findings();
        lamps();
        jammed();
        traces();
        Edge.hasTested("Promise ", 25, 28);
        Edge.hasTested("Part ", 4, 4);
        Check.end();
    }

    // ---- promise 25

    private static void stepFull() {
        Edge.promise(25, "FULL: there were 5,000 FAULTS, or more.");
        House h = new House(FAULTS_4960, "links(0,-2)*39").tells("count(7)", 4999).does("step()", 125).tells("count(7)", 5039);
        h.refuses("step()", FULL).tells("count(5)", 125).tells("count(8)", 30).tells("count(9)", 40);
        House just = new House(FAULTS_4960, "step()").tells("count(7)", 5000).refuses("step()", FULL).tells("count(5)", 125);
        just.does("back(1)", 124).tells("count(6)", 4960).tells("count(7)", 5000).refuses("step()", FULL);
        just.then("works(1)").refuses("step()", FULL).does("gear(9,0)", 0).refuses("links(0,-2)", Edge.SIZE);
        just.tells("count(7)", 5001).refuses("step()", FULL);
    }

    private static void stepFullOfAll() {
        Edge.promise(47, "7 FAULTS of the house (FINDINGS of all WORKS and FAULTS of calls, also those that were gone back "
                + "behind)");
        House h = new House("gear(10,0)*40 night(0,20)*3 step()*2 works(1) copy(0) night(0,20)*3 step()*2 links(0,-2)*39");
        h.tells("count(7)", 4999).tells("count(6)", 2480).does("back(30)", 32).tells("count(6)", 1280).tells("count(7)", 4999);
        h.then("works(2)").tells("count(6)", 0).does("step()", 1).tells("count(7)", 4999).does("step()", 2);
        h.refuses("door(0,true)", UNKNOWN).does("step()", 3).then("works(0)").does("step()", 63).tells("count(7)", 5039);
        h.then("works(2)").refuses("step()", FULL);
    }

    // ---- promise 26

    private static void nightOutside() {
        Edge.promise(26, "OUTSIDE: n is not 1 .. 20.");
        House h = new House("gear(0,8) step()");
        for (String n : new String[] {"0", "21", "-1", "MIN", "MAX"}) {
            h.refuses("night(1," + n + ")", OUTSIDE);
        }
        h.does("night(1,1)", 1).tells("count(5)", 2).does("night(1,20)", 7).tells("count(5)", 22).tells("count(8)", 22);
        House full = new House(FAULTS_4960, "step()").refuses("night(1,0)", OUTSIDE).refuses("night(1,21)", OUTSIDE);
        full.does("night(1,20)", 0).tells("count(5)", 125);
    }

    private static int drawn(int x) {
        return BigInteger.valueOf(x).multiply(BigInteger.valueOf(1103515245)).add(BigInteger.valueOf(12345)).intValue();
    }

    /** The LABEL that a night gives, or null. */
    private static int[] labelOf(int weight, int size, int s, int t) {
        int place = s % 100;
        int[] label;
        if (s / 100 % 2 == 0) {
            int[] d = {place / 10, place % 10, weight / 100, weight / 10 % 10, weight % 10, size};
            int check = (10000 - (3 * d[0] + d[1] + 3 * d[2] + d[3] + 3 * d[4] + d[5])) % 10;
            label = new int[] {65, 48 + d[0], 48 + d[1], 48 + d[2], 48 + d[3], 48 + d[4], 48 + d[5], 48 + check};
        } else {
            label = new int[] {66, place, 0, weight, size, (7 * place + 3 * weight + size) % 97};
        }
        if (t % 8 == 0) {
            return null;
        }
        if (t % 8 == 1) {
            return java.util.Arrays.copyOf(label, t / 8 % 6);
        }
        label[label.length - 1] += t % 8 == 2 ? 1 : 0;
        return label;
    }

    private static void nightDraws() {
        Edge.promise(26, "x becomes x 1103515245 + 12345 (x is the seed at first), r is x >>> 16; so three times for r, s, t;");
        Edge.promise(26, "a PARCEL comes there, of WEIGHT 1 + r % 200, SIZE r / 200 % 10, and is tagged by FORM s / 100 % 2 "
                + "with PLACE s % 100; then, by t % 8: 0: its LABEL is NOTHING; 1: it keeps its first t / 8 % 6 bytes; 2: "
                        + "its last byte is 1 more; else nothing.");
        int[] seeds = new int[120];
        seeds[0] = Integer.MIN_VALUE;
        seeds[1] = Integer.MAX_VALUE;
        seeds[2] = -1;
        for (int i = 3; i < seeds.length; i++) {
            seeds[i] = 40503 * (i - 3);
        }
        boolean[] kept = new boolean[6];
        boolean behindNine = false;
        for (int seed : seeds) {
            House h = new House("gear(0,8)").does("night(" + seed + ",8)", 8);
            int x = seed;
            for (int p = 1; p <= 8; p++) {
                x = drawn(x);
                int r = x >>> 16;
                x = drawn(x);
                int s = x >>> 16;
                x = drawn(x);
                int t = x >>> 16;
                h.is("parcel(" + p + ",2)", 1 + r % 200).is("parcel(" + p + ",3)", r / 200 % 10);
                int[] label = labelOf(1 + r % 200, r / 200 % 10, s, t);
                h.is("parcel(" + p + ",6)", label == null ? NONE : label.length);
                for (int i = 0; label != null && i < label.length; i++) {
                    h.is("byteOf(" + p + "," + i + ")", label[i]);
                    behindNine = behindNine || label[i] == ':';
                }
                if (t % 8 == 1) {
                    kept[t / 8 % 6] = true;
                }
            }
        }
        for (int n = 0; n < 6; n++) {
            Check.due("a LABEL that kept its first " + n + " was drawn", kept[n] ? 1 : 0, 1);
        }
        Check.due("a last byte behind '9' was drawn", behindNine ? 1 : 0, 1);
    }

    private static void nightComesOrNot() {
        Edge.promise(26, "if there is a GEAR 0, it is one of TAKERS and no CHUTE, its SLOT 0 is empty, and come() would not "
                + "be FULL");
        new House().does("night(5,20)", 0).tells("count(5)", 20).tells("count(13)", 0);
        for (int kind = 0; kind <= 10; kind++) {
            House h = new House("gear(" + kind + ",1) gear(0,1)").does("night(5,1)", kind <= 6 ? 1 : 0).tells("count(5)", 1);
            h.tells("count(2)", kind <= 6 ? 1 : 0).does("night(5,1)", 0).tells("count(5)", 2).tells("told(1,5)", 0);
        }
        StringBuilder come = new StringBuilder();
        for (int g = 1; g <= 29; g++) {
            come.append("come(").append(g).append(",1,1) ");
        }
        House h = new House("gear(0,8) gear(0,1)*30", come.toString()).does("night(5,20)", 1).tells("count(1)", 30);
        h.tells("slot(0,0)", 0).does("night(5,1)", 0).tells("count(13)", 30).tells("count(5)", 21);
    }

    private static void nightEnds() {
        Edge.promise(26, "Then a STEP (it ends ahead of one that is FULL, what came stays). Answers how many came.");
        // 4,990 FAULTS by WORKS 1 and by calls; in WORKS 0 a STEP has 39.
        String built = "works(1) " + FAULTS_4960 + " links(0,-2)*30 works(0) gear(0,8) gear(10,0)*39";
        House h = new House(built).tells("count(7)", 4990).does("night(3,20)", 2).tells("count(7)", 5029).tells("count(5)", 1);
        h.slots(0, 2, 1).tells("count(1)", 2).tells("count(8)", 1).tells("count(9)", 40);
        h.does("night(3,20)", 0).tells("count(5)", 1).tells("count(2)", 2).refuses("step()", FULL).does("back(1)", 0);
        h.slots(0, 1, 0).tells("left(2)", NONE);
        // With 5,000 at first there is no STEP at all: nothing is KEPT, and one comes.
        House first = new House("works(1) " + FAULTS_4960 + " links(0,-2)*40 works(0) gear(0,8)").tells("count(7)", 5000);
        first.does("night(3,20)", 1).slots(0, 1, 0).tells("count(5)", 0).tells("count(8)", 0).does("night(3,1)", 0);
        // With 4,999 there is one STEP, which has no FAULT here: then there is another one.
        House near = new House("works(1) " + FAULTS_4960 + " links(0,-2)*39 works(0) gear(0,8)").tells("count(7)", 4999);
        near.does("night(3,5)", 5).tells("count(5)", 5);
    }

    // ---- promise 27

    private static void backRefused() {
        Edge.promise(27, "OUTSIDE: n is not 1 .. 30;");
        House none = new House();
        House thirty = new House("gear(0,1) come(0,1,1) step()*31");
        for (String n : new String[] {"0", "31", "-1", "MIN", "MAX"}) {
            none.refuses("back(" + n + ")", OUTSIDE);
            thirty.refuses("back(" + n + ")", OUTSIDE);
        }
        Edge.promise(27, "STATE: there are not so many.");
        none.refuses("back(1)", STATE).refuses("back(30)", STATE);
        for (int kept : new int[] {1, 2, 29}) {
            House h = new House("gear(0,1) step()*" + kept).refuses("back(" + (kept + 1) + ")", STATE)
                    .refuses("back(30)", STATE);
            h.does("back(" + kept + ")", 0).refuses("back(1)", STATE);
        }
        Edge.promise(27, "What was KEPT ahead of the n-th latest STEP is so again, and that and those behind it are KEPT no "
                + "more (count(8) is n less): TIME.");
        thirty.does("back(1)", 30).tells("count(8)", 29).does("back(28)", 2).tells("count(8)", 1).does("back(1)", 1);
        thirty.tells("count(8)", 0).refuses("back(1)", STATE).does("step()", 2).tells("count(8)", 1);
        new House("step()*30").does("back(30)", 0).tells("count(8)", 0);
        Edge.promise(27, "TRACE is empty then.");
        House trace = new House("gear(0,1) step()*2").tells("count(9)", 1).does("back(1)", 1).tells("count(9)", 0);
        trace.tells("trace(0)", NONE).does("step()", 2).tells("trace(0)", 1);
    }

    private static void backUndone() {
        Edge.promise(27, "NUMBERS that were given since in this WORKS are UNDONE: no PARCEL has them.");
        // 1 came ahead of the first STEP, 2 and 3 ahead of the second, 4 behind it; 5 is of another WORKS.
        String built = "gear(0,1)*5 works(1) gear(0,1) works(0) come(0,1,1) step() come(1,1,1) come(2,1,1) step() come(3,1,1)"
                + " works(1) come(0,1,1) works(0)";
        House h = new House(built).does("back(1)", 1).tells("left(3)", -10).tells("left(4)", NONE).tells("left(5)", -11);
        h.tells("parcel(4,0)", UNKNOWN).tells("parcel(3,0)", 2).tells("slot(3,0)", 0).tells("count(1)", 3).tells("count(2)", 3);
        h.tells("count(13)", 5).does("come(3,1,1)", 6).does("back(1)", 0).tells("left(1)", -10);
        for (int p : new int[] {2, 3, 4, 6}) {
            h.is("left(" + p + ")", NONE).is("parcel(" + p + ",0)", UNKNOWN).refuses("label(" + p + ",1)", UNKNOWN);
        }
        h.tells("left(5)", -11).tells("left(7)", UNKNOWN).tells("count(13)", 6).does("come(1,1,1)", 7);
        House two = new House(built).does("back(2)", 0).tells("left(1)", -10).tells("left(2)", NONE).tells("left(5)", -11);
        two.then("works(1)").tells("slot(0,0)", 5).tells("count(1)", 1).refuses("back(1)", STATE);
    }

    /**
     * Of each WORKS one was OUT ahead of the STEP that is gone back to, and stays so; one was given since, and OUT by that
     * DOOR.
     */
    private static void backOut(int door) {
        Edge.promise(27, "NUMBERS that were given since in this WORKS are UNDONE: no PARCEL has them.");
        House h = new House("gear(9,0) gear(3,1) gear(7,1) gear(9,0)*37 row:1>2 row:2>0,39 load:D=1:2;:2; works(1) copy(0)");
        h.then("works(2) copy(0)");
        for (int w = 0; w < 3; w++) {
            h.then("works(" + w + ") door(0,true)");
            for (int p = 3 * w + 1; p <= 3 * w + 3; p++) {
                h.then(p % 3 == 0 && door == 39 ? "door(0,false) door(39,true)" : "door(0,true)");
                h.then("come(1,1,1) tag(" + p + ",0,0) step()*2");
            }
        }
        for (int w = 0; w < 3; w++) {
            int first = 3 * w + 1;
            h.then("works(" + w + ") back(4)").is("left(" + first + ")", 1000 * w).is("left(" + (first + 1) + ")", -10 - w);
            h.is("left(" + (first + 2) + ")", NONE);
            for (int p = first + 3; p <= 9; p++) {
                h.is("left(" + p + ")", 1000 * ((p - 1) / 3) + (p % 3 == 0 ? door : 0));
            }
            h.then("back(1)").is("left(" + first + ")", -10 - w).is("left(" + (first + 1) + ")", NONE);
        }
        for (int w = 0; w < 3; w++) {
            h.is("left(" + (3 * w + 1) + ")", -10 - w).is("left(" + (3 * w + 2) + ")", NONE)
                    .is("left(" + (3 * w + 3) + ")", NONE);
        }
    }

    // ---- promise 28

    private static void statusOfEach() {
        Edge.promise(28, "What the latest of the calls above was refused with, or the answer by its FAULT (also where -100 "
                + "less a place was answered: that); 0, if it was not.");
        String[][] calls = {
            // a call that is done, one that is refused, its answer
            {"works(0)", "works(3)", "-1"},
            {"gear(0,1)", "gear(11,1)", "-2"},
            {"links(0,-1)", "links(0,-2)", "-15"},
            {"link(1,0,-1)", "link(1,1,0)", "-13"},
            {"aim(2,1,0,false)", "aim(0,1,0,true)", "-12"},
            {"rank(0,0)", "rank(0,10)", "-2"},
            {"refit(0,0)", "refit(0,9)", "-12"},
            {"letter(58)", "letter(32)", "-2"},
            {"load()", "load()", "-100"},
            {"plan(1,0,0,0,0)", "plan(5,0,0,0,0)", "-2"},
            {"come(4,1,1)", "come(4,1,1)", "-3"},
            {"label(1,-1)", "label(1,-2)", "-15"},
            {"tag(1,0,1)", "tag(1,2,1)", "-2"},
            {"put(1,7,0)", "put(1,8,0)", "-13"},
            {"door(3,true)", "door(0,true)", "-12"},
            {"turn(2,0)", "turn(2,-1)", "-13"},
            {"release(5,0)", "release(5,21)", "-2"},
            {"carry(1,6)", "carry(1,6)", "-3"},
            {"group(0,1,1)", "group(0,0,-1)", "-15"},
            {"enter(0,0,0)", "enter(0,0,3)", "-14"},
            {"tally(0,0)", "tally(1,0)", "-11"},
            {"night(1,1)", "night(1,0)", "-2"},
            {"back(1)", "back(1)", "-3"},
        };
        House h = new House("gear(0,1) gear(0,1) gear(5,1) gear(9,0) gear(0,1) gear(8,1) gear(0,1) row:1>-1 type::1;");
        for (String[] row : calls) {
            if (row[0].equals("load()")) {
                // What was tried by then has typed one letter more.
                h.then("load() type::1;");
            }
            h.then(row[0]).is("status()", 0).is(row[1], Integer.parseInt(row[2])).is("status()", Integer.parseInt(row[2]));
            h.then("door(3,false)").is("status()", 0);
        }
        House more = new House("gear(0,1) works(1) links(0,0)").is("status()", UNKNOWN).does("copy(2)", 0).does("copy(0)", 1);
        more.is("copy(0)", STATE).is("status()", STATE).does("step()", 1).is("clear(0)", STATE).is("status()", STATE);
        more.then("type::1;:40;").is("load()", -104).is("status()", -104).does("works(1)", 1);
        House clear = new House("gear(0,1) gear(8,1) come(0,1,1) step()*8 links(9,0)").is("status()", UNKNOWN)
                .does("clear(0)", 1);
        House full = new House(FAULTS_4960, "step()*2").is("status()", FULL).does("night(1,1)", 0).is("step()", FULL);
        full.is("status()", FULL);
        clear.is("status()", 0);
    }

    private static void statusOfTold() {
        Edge.says("Part 6", "---- what is told (nothing of this changes status())");
        String calls = "told(0,0) told(9,0) told(0,16) slot(0,0) slot(0,9) slot(9,0) linkOf(0,0) linkOf(9,0) parcel(1,0)"
                + " parcel(9,0) parcel(1,8) way(1,0) way(9,0) byteOf(1,0) byteOf(9,0) left(1) left(9) out(0,0) rule(0,0)"
                + " said(0) unused(0) finding(0,0) trace(0) jam(0) far(0,0) far(9,0) reach(0) reach(9) ring(0) ring(9)"
                + " audit() count(0) count(14) digest() status()";
        House h = new House("gear(0,1) come(0,1,1) step()");
        String[] before = {"works(0)", "works(3)", "gear(11,1)", "door(0,true)", "back(9)", "load()"};
        int[] status = {0, UNKNOWN, OUTSIDE, Edge.CAST, STATE, -100};
        for (int i = 0; i < before.length; i++) {
            h.then(before[i]);
            long faults = h.ask("count(7)");
            for (String call : calls.split(" ")) {
                h.then(call).is("status()", status[i]);
            }
            h.is("count(7)", faults);
        }
    }

    // ---- part 4

    private static void keptThirty() {
        Edge.part(4, "A STEP. What is there is KEPT (30 at most, the eldest goes).");
        House h = new House("gear(0,8)");
        for (int t = 1; t <= 32; t++) {
            h.then("come(0," + t + ",1) step()").is("count(8)", Math.min(t, 30));
        }
        for (int t = 31; t >= 2; t--) {
            h.is("back(1)", t).is("count(5)", t).is("count(8)", t - 2);
        }
        h.refuses("back(1)", STATE).tells("count(5)", 2).slots(0, 3, 2, 1, 0);
        // The ring of what is KEPT goes round once more.
        h.then("step()*31").does("back(30)", 3).refuses("back(1)", STATE);
    }

    private static void timeTraceMoved() {
        Edge.part(4, "TIME is 1 more, TRACE is empty, no PARCEL has MOVED.");
        House h = new House("gear(1,3) come(0,1,1)").does("step()", 1).traces().does("step()", 2).traces(2, 1)
                .slots(0, 0, 1, 0);
        h.does("step()", 3).traces().does("step()", 4).traces(2, 1).slots(0, 0, 0, 1);
        House belt = new House("gear(0,8) come(0,1,1)");
        for (int k = 1; k <= 7; k++) {
            belt.does("step()", k).tells("slot(0," + k + ")", 1);
        }
    }

    private static void planTimes() {
        Edge.part(4, "PLANS for this TIME are done, in order.");
        House h = new House("gear(8,1) plan(4,0,2,0,9) plan(4,2,2,0,5) plan(4,2,2,0,6) plan(4,1,2,0,1) plan(4,3,2,0,20)");
        h.tells("told(0,10)", 0).does("step()", 1).tells("told(0,10)", 1).does("step()", 2).tells("told(0,10)", 6);
        h.does("step()", 3).tells("told(0,10)", 20).does("step()", 4).tells("told(0,10)", 20).tells("count(6)", 0);
        House sixteen = new House("gear(9,0)");
        for (int k = 0; k < 16; k++) {
            sixteen.then("plan(1,1,0,0,0)");
        }
        sixteen.does("step()", 1).tells("count(6)", 16).isRow("finding", 0, 1, NONE, 5, INDEX, 15);
        sixteen.isRow("finding", 15, 1, NONE, 5, INDEX, 0).does("step()", 2).tells("count(6)", 16);
        House last = new House("gear(9,0) plan(4,9999,0,0,1) plan(4,0,0,0,1) night(0,20)*499 night(0,18)").is("count(5)", 9998);
        last.is("told(0,2)", 0).is("step()", 9999).is("told(0,2)", 1).is("step()", 10000).is("count(6)", 0);
    }

    /** A PLAN of TIME 1 comes to a FAULT in a house with one GEAR of each KIND; those ahead of it and behind it are done. */
    private static void planned(String numbers, int fault) {
        House h = new House(ALL_KINDS, "links(10,0) door(9,true) turn(5,1) turn(6,1) plan(4,1,2,8,8)");
        h.does("plan(" + numbers + ")", 1).does("step()", 1).tells("told(8,10)", 8);
        h.isRow("finding", 0, 1, NONE, 5, fault, 1).isTold(9, 2, 1).isTold(5, 2, 1).isTold(6, 2, 1).tells("count(6)", 1);
        House behind = new House(ALL_KINDS, "links(10,0)").does("plan(" + numbers + ")", 0).does("plan(4,1,2,8,9)", 1);
        behind.does("step()", 1).tells("told(8,10)", 9).tells("count(6)", 1).tells("count(7)", 1);
    }

    private static void planRows() {
        Edge.part(4, "A PLAN is a ROW of 1 to 4 ints, t, OP, a, b, each read as it is needed, in this order (INDEX: it has "
                + "not so many)");
        planned("1,1,0,9,1", INDEX);
        planned("1,1,0,99,1", INDEX);
        for (int op = 0; op <= 2; op++) {
            int right = op == 0 ? 9 : op == 1 ? 5 : 8;
            planned("2,1," + op + "," + right + ",1", INDEX);
            planned("2,1," + op + ",39,1", INDEX);
            planned("3,1," + op + "," + right + ",1", INDEX);
            Edge.part(4, "GEAR a, its CAST ahead of b: INDEX: a is not 0 .. 39; NULL: there is none such.");
            for (String a : new String[] {"-1", "40", "MIN", "MAX"}) {
                planned("4,1," + op + "," + a + ",1", INDEX);
                planned("3,1," + op + "," + a + ",1", INDEX);
            }
            planned("4,1," + op + ",39,1", NULL);
            planned("4,1," + op + ",11,99", NULL);
            planned("3,1," + op + ",11,1", NULL);
            planned("4,1," + op + ",0,1", CAST);
            planned("4,1," + op + ",10,99", CAST);
            planned("3,1," + op + ",10,1", CAST);
        }
        Edge.part(4, "Another OP: INDEX, ahead of a.");
        for (String op : new String[] {"-1", "3", "MIN", "MAX"}) {
            planned("4,1," + op + ",9,1", INDEX);
            planned("4,1," + op + ",39,1", INDEX);
            planned("4,1," + op + ",0,1", INDEX);
            planned("2,1," + op + ",0,1", INDEX);
            planned("3,1," + op + ",11,1", INDEX);
        }
    }

    private static void planDoors() {
        Edge.part(4, "OP 0: CAST: a is no DOOR; it is OPEN, if b is not 0, else not.");
        for (int gear = 0; gear <= 10; gear++) {
            if (gear != 9) {
                planned("4,1,0," + gear + ",0", CAST);
            }
        }
        for (String b : new String[] {"0", "1", "-1", "2", "MIN", "MAX"}) {
            House h = new House("gear(9,0) gear(9,0) door(1,true) plan(4,1,0,0," + b + ") plan(4,1,0,1," + b + ") step()");
            h.tells("told(0,2)", b.equals("0") ? 0 : 1).tells("told(1,2)", b.equals("0") ? 0 : 1).tells("count(6)", 0);
        }
    }

    private static void planSides() {
        Edge.part(4, "1: CAST: no DIVERT; b is read; if no PARCEL is in it, its SIDE is b (INDEX: it has no such SIDE), else "
                + "nothing is done.");
        for (int gear = 0; gear <= 10; gear++) {
            if (gear != 5 && gear != 6) {
                planned("4,1,1," + gear + ",0", CAST);
            }
        }
        for (String b : new String[] {"-1", "3", "MIN", "MAX"}) {
            planned("4,1,1,5," + b, INDEX);
            planned("4,1,1,6," + b, INDEX);
        }
        planned("4,1,1,5,2", INDEX);
        for (int kind = 5; kind <= 6; kind++) {
            for (int b = 0; b < kind - 3; b++) {
                House h = new House("gear(" + kind + ",2) turn(0,1) plan(4,1,1,0," + b + ") step()").tells("told(0,2)", b);
                h.tells("count(6)", 0).then("come(0,1,1) plan(4,2,1,0,1) plan(4,2,1,0,3) plan(4,2,1,0,MIN) step()");
                h.tells("told(0,2)", b).tells("count(6)", 0).slots(0, 0, 1).then("plan(3,3,1,0,1) step()");
                h.isRow("finding", 1, 3, NONE, 5, INDEX, 4).tells("told(0,2)", b);
            }
        }
    }

    private static void planReleases() {
        Edge.part(4, "2: CAST: no HOLD; its RELEASES are b (INDEX: not 0 .. 20).");
        for (int gear = 0; gear <= 10; gear++) {
            if (gear != 8) {
                planned("4,1,2," + gear + ",0", CAST);
            }
        }
        for (String b : new String[] {"-1", "21", "MIN", "MAX"}) {
            planned("4,1,2,8," + b, INDEX);
        }
        for (int b : new int[] {0, 20}) {
            House h = new House("gear(8,1) release(0,7) plan(4,1,2,0," + b + ") step()").tells("told(0,10)", b);
            h.tells("count(6)", 0);
        }
    }

    /** GEAR 0 to 3 lead to MERGE 4, GEAR 5 is where that leads. */
    private static House merging(String kinds) {
        House h = new House();
        for (char kind : kinds.toCharArray()) {
            h.then("gear(" + kind + ",1)");
        }
        h.then("gear(2,1) gear(0,8) row:4>5");
        for (int g = 0; g < kinds.length(); g++) {
            h.then("row:" + g + ">4");
        }
        return h;
    }

    private static void mergeChooses() {
        Edge.part(4, "Each MERGE, by numbers, CHOOSES, as all is then: of all TAKERS but KIND 7 that act in this STEP and have "
                + "a PARCEL in the last SLOT");
        House curve = merging("1000").then("rank(1,1) come(0,1,1) come(1,1,1) step()").tells("told(4,13)", 2);
        curve.then("step()*2").tells("told(4,13)", 2).then("step()").tells("told(4,13)", 1);
        House slots = new House("gear(0,2) gear(0,1) gear(2,2) row:0>2 row:1>2 rank(0,9) come(0,1,1) come(1,1,1)");
        slots.then("step()").tells("told(2,13)", 2).slots(0, 0, 1);
        House none = new House("gear(0,2) gear(2,1) row:0>1 come(0,1,1) step()").tells("told(1,13)", 0).then("step()");
        none.tells("told(1,13)", 1);
        Edge.part(4, "and whose LINK (of DIVERTS that of their SIDE, else 0; of a HOLD, if it has RELEASES) leads to the "
                + "MERGE");
        for (int side = 0; side <= 2; side++) {
            House h = new House("gear(6,1) gear(0,1) gear(2,1) gear(0,8) row:1>2 row:0>3,2,3 turn(0," + side + ")");
            h.then("come(0,1,1) come(1,1,1) step()").tells("told(2,13)", side == 1 ? 1 : 2);
        }
        // A HOLD of RANK 9 without RELEASES, then with one that a PLAN gives in that very STEP.
        House hold = new House("gear(0,1) gear(8,1) gear(0,1) gear(2,1) row:1>3 row:2>3 rank(1,9) come(0,1,1) step()*8 "
                + "clear(0)");
        hold.then("step() plan(4,11,2,1,1) come(2,1,1)").does("step()", 10).tells("told(3,13)", 3).then("carry(2,2)");
        hold.does("step()", 11).tells("told(3,13)", 2).tells("told(1,10)", 0).slots(2, 2);
        Edge.part(4, "the one with the greatest RANK;");
        House rank = merging("0000").then("rank(0,0) rank(1,8) rank(2,9) rank(3,9) come(0,1,1) come(1,1,1) come(2,1,1) "
                + "come(3,1,1)");
        for (int last : new int[] {3, 4, 2, 1}) {
            rank.then("step()").is("told(4,13)", last).then("step()");
        }
    }

    private static void mergeLast() {
        Edge.part(4, "of like ones the least number above its LAST, else the least.");
        House h = merging("0000").then("come(0,1,1) come(1,1,1) come(2,1,1) come(3,1,1)").tells("told(4,13)", 0);
        for (int last : new int[] {1, 2, 3, 4, 1, 2}) {
            h.then("step()").is("told(4,13)", last).then("come(" + (last - 1) + ",1,1) step()");
        }
        House two = merging("0000").then("come(3,1,1) step()").tells("told(4,13)", 4)
                .then("come(3,1,1) come(1,1,1) come(2,1,1) step()*2");
        two.tells("told(4,13)", 2).then("step()*2").tells("told(4,13)", 3).then("step()*2").tells("told(4,13)", 4);
        House least = new House("gear(2,8) gear(0,1)*38 gear(0,1) row:39>0 row:1>0 come(39,1,1) step()")
                .tells("told(0,13)", 40);
        least.then("come(39,1,1) come(1,1,1) step()").tells("told(0,13)", 2).then("step()").tells("told(0,13)", 40);
        Edge.part(4, "BELTS take it, if their SLOT 0 is empty; a MERGE just from the GEAR that it CHOSE (that is its LAST "
                + "then).");
        // MERGE 4 leads nowhere: what it CHOSE is asked in vain, so its LAST stays.
        House full = merging("0000").then("links(4,0) come(0,1,1) come(1,1,1) come(2,1,1) step()").tells("told(4,13)", 1);
        full.then("step()").tells("told(4,13)", 1).slots(1, 2).slots(2, 3).then("step()").tells("told(4,13)", 1);
        full.then("carry(1,3) links(3,0) step()").tells("told(4,13)", 2).slots(1, 0).slots(2, 3);
    }

    private static void paces() {
        Edge.part(4, "Then GEAR 0, 1, .. ACTS, if its PACE divides TIME.");
        House h = new House(ALL_KINDS);
        for (int t = 1; t <= 5; t++) {
            h.then("step()");
            for (int g = 0; g <= 10; g++) {
                h.is("told(" + g + ",8)", g == 1 || g == 4 ? t / 2 : t);
            }
        }
        Edge.part(4, "At the end of its ACT, whatever came, GEAR has one ACT more");
        House faults = new House("gear(0,1) gear(10,0) gear(3,1) come(0,1,1) come(2,1,1) step()*3").tells("count(6)", 9);
        faults.tells("told(0,8)", 3).tells("told(1,8)", 3).tells("told(2,8)", 3);
    }

    private static void scannedOnce() {
        Edge.part(4, "(just once there, also if a FAULT of its LABEL came: it is GIVEN by a later ACT then)");
        House h = new House("gear(3,1) gear(0,1) row:0>1 load::9; come(0,1,1) step()").isRow("finding", 0, 1, 0, 2, NULL, 1);
        h.isTold(0, 3, 1, 3).slots(0, 1).tells("parcel(1,4)", UNREAD).tells("parcel(1,7)", 1).then("tag(1,0,1) step()");
        h.slots(1, 1).tells("parcel(1,4)", UNREAD).tells("count(6)", 1).isTold(0, 3, 0, 1);
        House empty = new House("gear(4,2) gear(0,1) row:0>1 load::9; come(0,1,1) label(1,0) step()*2").tells("count(6)", 0);
        empty.slots(0, 0, 1).tells("parcel(1,7)", 0).then("step()*2").isRow("finding", 0, 4, 0, 2, INDEX, 1).slots(0, 0, 1);
        empty.then("label(1,-1) step()*2").tells("count(6)", 1).slots(1, 1);
        House again = new House("gear(3,1) load:D=1:1;D=2:2; row:0> come(0,1,1) tag(1,0,1) step()").tells("parcel(1,4)", 1);
        again.then("tag(1,0,2) step()").tells("parcel(1,4)", 1).tells("rule(1,2)", 0).then("gear(0,1) carry(1,1) carry(1,0)");
        again.tells("parcel(1,7)", 0).then("step()").tells("parcel(1,4)", 2).tells("rule(1,2)", 1);
    }

    private static void scannedTargets() {
        Edge.part(4, "SCANNED: its LABEL is READ; with a FAULT, or BAD, its TARGET is UNREAD;");
        // The TARGET that it has from SCANNER 0 goes by what SCANNER 1 makes of it.
        String built = "gear(3,1) gear(3,1) row:1> load:D=1:39;D=2,Q40=1:5; come(0,1,1) tag(1,0,1) step()";
        new House(built).tells("parcel(1,4)", 39);
        String[] labels = {"label(1,-1)", "label(1,0)", "tag(1,0,1) put(1,7,48)", "tag(1,1,1) put(1,0,67)", "tag(1,0,1)",
                "tag(1,0,2)", "tag(1,0,3)"};
        int[] targets = {UNREAD, UNREAD, UNREAD, UNREAD, 39, NONE, NONE};
        for (int i = 0; i < labels.length; i++) {
            new House(built, "carry(1,1)", labels[i], "step()").tells("parcel(1,4)", targets[i]);
        }
        Edge.part(4, "Else RULES are asked in order: the first that HOLDS tells its TARGET by its number, and was USED; NONE "
                + "if none does. A RULE that comes to a FAULT does not hold.");
        new House("gear(3,1) come(0,1,1) tag(1,0,1) step()").tells("parcel(1,4)", NONE).tells("parcel(1,7)", 1);
        House h = new House("gear(3,1) row:0> load:Q40=1:1;Q39=1:2;Q0=1:3;:4;:5; come(0,1,1) tag(1,0,1) step()");
        h.tells("parcel(1,4)", 4).tells("count(6)", 4).tells("unused(3)", 4).tells("unused(4)", NONE).tells("rule(3,2)", 1);
    }

    private static void holdReleases() {
        Edge.part(4, "(of a HOLD: only if it has RELEASES, which are 1 less then, if it was taken)");
        House h = new House("gear(3,1) gear(8,3) gear(0,8) row:0>1 row:1>2");
        for (int p = 1; p <= 3; p++) {
            h.then("come(0,1,1) step()*3");
        }
        h.slots(1, 3, 2, 1).tells("told(1,10)", 0).then("step()*2").slots(1, 3, 2, 1).then("release(1,2) step()");
        h.tells("told(1,10)", 1).slots(1, 0, 3, 2).slots(2, 1).then("step()").tells("told(1,10)", 1).then("step()");
        h.tells("told(1,10)", 0).slots(1, 0, 0, 3).then("step()*9").tells("told(1,10)", 0).slots(1, 0, 0, 3);
        h.then("links(1,0) release(1,1) step()").tells("told(1,10)", 1).isRow("finding", 1, 24, 1, 1, INDEX, 3);
    }

    private static void waits() {
        Edge.part(4, "WAIT is 0, if there was none that had not MOVED, or it was taken; else it is 1 more.");
        House h = new House("gear(0,2) gear(0,1) row:0>1 come(0,1,1) step()").isTold(0, 3, 0).then("step()").isTold(0, 3, 0);
        h.isTold(1, 3, 0, 1).then("come(0,1,1) step()").isTold(0, 3, 0).isTold(1, 3, 1).then("step()").isTold(0, 3, 1);
        h.then("step()").isTold(0, 3, 2).isTold(1, 3, 3).then("carry(1,0) step()").isTold(0, 3, 0).isTold(1, 3, 0).slots(1, 2);
        h.then("step()").isTold(0, 3, 1).isTold(1, 3, 1).then("carry(2,0) carry(1,1)").isTold(0, 3, 1).then("step()");
        h.isTold(0, 3, 0).isTold(1, 3, 2);
    }

    private static void movesUp() {
        Edge.part(4, "Then, whatever came, SLOT by SLOT from the last but one down: a PARCEL that has not MOVED moves up, if "
                + "the next SLOT is empty, and has MOVED.");
        House h = new House("gear(0,4) come(0,1,1) step() come(0,1,1) step() come(0,1,1) step() come(0,1,1)")
                .slots(0, 4, 3, 2, 1);
        h.then("step()").slots(0, 4, 3, 2, 1).isTold(0, 3, 1).then("gear(0,1) carry(1,1) step()").slots(0, 0, 4, 3, 2);
        h.then("step()").slots(0, 0, 4, 3, 2).then("carry(3,0)").slots(0, 3, 4, 0, 2).then("step()").slots(0, 0, 3, 4, 2);
        House one = new House("gear(0,1) come(0,1,1) step()").slots(0, 1);
        one.tells("told(0,3)", 1);
        Edge.part(4, "What is taken is in SLOT 0 then, and has MOVED.");
        // GEAR 1 and 2 act behind the one that gives to them, GEAR 0 ahead of it: one SLOT a STEP in either case.
        House chain = new House("gear(0,1) gear(0,2) gear(0,1) row:0>1 row:1>2 row:2>0 come(0,1,1)");
        int[][] places = {{1, 0}, {1, 1}, {2, 0}, {0, 0}, {1, 0}};
        for (int[] place : places) {
            chain.then("step()").tells("parcel(1,0)", place[0]).tells("parcel(1,1)", place[1]);
        }
    }

    private static void panels() {
        Edge.part(4, "A PANEL: its DIAL becomes the LOADS together of what it comes to when it FOLLOWS its LINKS, all of its "
                + "ROW (NULL, INDEX: the DIAL stays; NOTHING: NULL, at LINK 0)");
        String built = "gear(10,0) gear(0,8) gear(0,1) row:1> row:2> come(1,1,1) step() come(1,1,1) come(2,1,1)";
        House h = new House(built, "row:0>1,2,1 step()").tells("told(0,14)", 5).tells("told(0,4)", 1);
        long[][] wants = {
            // LINKS, the FAULT, the LINK's number
            {-1, 1, 2, INDEX, 0}, {1, -1, 2, INDEX, 1}, {1, 2, -1, INDEX, 2}, {39, 1, 2, NULL, 0}, {1, 3, 2, NULL, 1},
            {1, 2, 39, NULL, 2}, {39, -1, 3, NULL, 0}, {-1, 39, 3, INDEX, 0},
        };
        long time = 2;
        for (long[] w : wants) {
            time++;
            h.then("row:0>" + w[0] + "," + w[1] + "," + w[2] + " step()").tells("told(0,14)", 5).tells("told(0,4)", 3);
            long behind = h.ask("count(6)");
            // The FINDINGS of GEAR 1 and 2 come behind it in the same STEP.
            int i = 0;
            while (i < 3 && h.ask("finding(" + i + ",1)") != 0) {
                i++;
            }
            h.isRow("finding", i, time, 0, 4, w[3], w[4]).is("count(6)", behind);
        }
        House nothing = new House(built, "row:0>2 step() links(0,-1) carry(3,1) step()").tells("told(0,14)", 1);
        nothing.isRow("finding", 0, 3, 0, 4, NULL, 0);
        House empty = new House(built, "row:0>2 step() links(0,0) step()").tells("told(0,14)", 0).tells("told(0,4)", 1);
        empty.tells("told(0,7)", 1);
        House others = new House("gear(10,0) gear(9,0) row:0>0,1 step()").tells("told(0,14)", 0).tells("count(6)", 0);
        others.tells("told(0,4)", 1);
    }

    /** A PARCEL at the end of CHUTE 0, with DOORS 1 and 2, BELT 3, SCANNER 4. */
    private static House chuting(String more) {
        return new House("gear(7,1) gear(9,0) gear(9,0) gear(0,1) gear(3,1) row:4>0 load::0; come(4,1,1) tag(1,0,1) step()",
                more);
    }

    private static void chutesGive() {
        Edge.part(4, "GIVEN: KIND 7 FOLLOWS its LINKS from 0 on, as many as its ROW has: CAST: no DOOR; the first one OPEN "
                + "takes it: it is OUT. (NULL: NOTHING.)");
        chuting("step()").isRow("finding", 0, 2, 0, 1, NULL, 1).isTold(0, 3, 1, 3);
        chuting("row:0> step()").tells("count(6)", 0).isTold(0, 3, 1, 2);
        chuting("row:0>1,2,1 step()").tells("count(6)", 0).isTold(0, 3, 1, 2).tells("count(3)", 0);
        chuting("row:0>1,1,2 door(2,true) step()").tells("left(1)", 2).tells("count(6)", 0).isTold(0, 3, 0, 1);
        chuting("row:0>2,1,3 door(2,true) door(1,true) step()").tells("left(1)", 2).tells("count(6)", 0);
        chuting("row:0>1,3,2 door(2,true) step()").isRow("finding", 0, 2, 0, 1, CAST, 1).tells("left(1)", -10);
        chuting("row:0>0,2 door(2,true) step()").isRow("finding", 0, 2, 0, 1, CAST, 1).tells("left(1)", -10);
        chuting("row:0>1,-1,2 door(2,true) step()").isRow("finding", 0, 2, 0, 1, INDEX, 1);
        chuting("row:0>39,2 door(2,true) step()").isRow("finding", 0, 2, 0, 1, NULL, 1);
        chuting("row:0>2,39,-1 door(2,true) step()").tells("left(1)", 2).tells("count(6)", 0);
        chuting("row:0>1,2,5 step()").isRow("finding", 0, 2, 0, 1, NULL, 1).isTold(0, 3, 1, 3, 1, 0, 1);
    }

    private static void othersGive() {
        Edge.part(4, "All others FOLLOW one LINK (of DIVERTS that of the SIDE, else 0); CAST: no TAKER; that one is ASKED "
                + "whether it takes it.");
        String[] rows = {"", "row:0>", "row:0>-1", "row:0>39", "row:0>3", "row:0>1", "row:0>2"};
        int[] faults = {NULL, INDEX, INDEX, NULL, NULL, CAST, CAST};
        for (int kind : new int[] {0, 1, 2, 3, 4, 5, 6}) {
            for (int i = 0; i < rows.length; i++) {
                House h = new House("gear(" + kind + ",1) gear(9,0) gear(10,0) row:2>", rows[i], "come(0,1,1) tag(1,0,1)");
                h.then("step()*2").is("finding(0,1)", 0).is("finding(0,2)", 1).is("finding(0,3)", faults[i]);
                h.is("finding(0,4)", 1).slots(0, 1).isTold(0, 3, kind == 1 || kind == 4 ? 1 : 2, 3);
            }
        }
        for (int kind = 9; kind <= 10; kind++) {
            House h = new House("gear(" + kind + ",0) gear(0,1) links(0,0) row:1>0 come(1,1,1) step()");
            h.isRow("finding", 0, 1, 1, 1, CAST, 1).tells("count(6)", 1).slots(1, 1);
        }
        for (int side = 0; side <= 2; side++) {
            House h = new House("gear(6,1) gear(0,1) gear(0,1) gear(0,1) row:0>1,2,3 turn(0," + side + ") come(0,1,1) step()");
            h.slots(1 + side, 1).tells("count(6)", 0);
            House few = new House("gear(6,1) gear(0,1) row:0>1,1 turn(0," + side + ") come(0,1,1) step()");
            few.tells("count(6)", side == 2 ? 1 : 0);
        }
    }

    private static void asked() {
        Edge.part(4, "DIVERTS: if the SIDE is what it WANTS, if SLOT 0 is empty; else, if all SLOTS are empty, the SIDE "
                + "becomes that, and it is not taken.");
        String built = "gear(3,1) gear(5,8) gear(0,1) row:0>1 load:D=1:39;:0; aim(1,1,39,true) links(1,2) ";
        House h = new House(built, "come(0,1,1) tag(1,0,1) step()").isTold(1, 2, 1).slots(0, 1).isTold(0, 3, 1, 2)
                .then("step()");
        h.slots(1, 1).isTold(0, 3, 0).then("come(0,1,1) tag(2,0,0) step()").isTold(1, 2, 1).slots(0, 2).then("step()*8");
        // The one PARCEL stands in the last of its 8 SLOTS.
        h.tells("slot(1,7)", 1).isTold(1, 2, 1).slots(0, 2).then("carry(1,2) step()").isTold(1, 2, 0).slots(0, 2)
                .then("step()");
        h.slots(1, 2);
        House same = new House(built, "come(1,1,1) come(0,1,1) tag(2,0,0) step()").slots(0, 2).slots(1, 0, 1);
        same.tells("told(1,2)", 0).then("step()").slots(1, 2, 0, 1);
        Edge.part(4, "KIND 7: if its TARGET is this GEAR, and SLOT 0 is empty.");
        House chute = new House("gear(3,1) gear(7,2) row:0>1 row:1> load:D=0:0;D=2:2;:1; come(0,1,1) tag(1,0,0) step()")
                .slots(0, 1);
        chute.then("gear(0,1) carry(1,2) come(0,1,1) tag(2,0,2) step()").slots(0, 2)
                .then("gear(0,1) carry(2,3) come(0,1,1) tag(3,0,9)");
        chute.then("step()").slots(1, 3).then("come(0,1,1) tag(4,0,9) step()").slots(1, 0, 3).slots(0, 4).then("step()")
                .slots(1, 4, 3);
        chute.then("come(0,1,1) tag(5,0,9) step()*2").slots(0, 5);
        Edge.part(4, "A HOLD: if its TARGET is UNREAD, and SLOT 0 is empty.");
        House hold = new House("gear(3,1) gear(8,1) row:0>1 load:D=1:1; come(0,1,1) tag(1,0,1) step()").slots(0, 1);
        hold.then("gear(0,1) carry(1,2) come(0,1,1) tag(2,0,2) step()").tells("parcel(2,4)", NONE).slots(0, 2);
        hold.then("gear(0,1) carry(2,3) come(0,1,1) label(3,1) step()").slots(1, 3).then("come(0,1,1) label(4,1) step()*2");
        hold.slots(0, 4).tells("parcel(4,4)", UNREAD);
    }

    private static void scales() {
        Edge.part(4, "so of a SCALE, if the WEIGHT that was read is not its own.");
        int[] lasts = {4, 5, 6};
        for (int last : lasts) {
            for (int kind = 3; kind <= 4; kind++) {
                // PLACE 0, WEIGHT 0 .. 999 by three digits, SIZE 0; the CHECK fills up 3 * last to a ten.
                House h = new House("gear(" + kind + ",1) load::7; come(0,5,0) tag(1,0,0)");
                h.then("put(1,5," + (48 + last) + ") put(1,7," + (48 + (100 - 3 * last) % 10) + ") step()*2");
                h.tells("parcel(1,4)", kind == 3 || last == 5 ? 7 : UNREAD);
                h.tells("finding(0,2)", 1);
            }
        }
    }

    private static void findings() {
        Edge.part(4, "The latest 40 are kept, all are counted.");
        House h = new House("gear(10,0) step()*39").tells("count(6)", 39).isRow("finding", 38, 1, 0, 4, NULL, 0);
        h.tells("finding(39,0)", NONE).then("step()").isRow("finding", 39, 1, 0, 4, NULL, 0).tells("finding(40,0)", NONE);
        h.then("step()").isRow("finding", 39, 2, 0, 4, NULL, 0).isRow("finding", 0, 41, 0, 4, NULL, 0)
                .tells("finding(40,0)", NONE);
        h.tells("count(6)", 41).tells("told(0,7)", 41);
        // 16 of PLANS, 40 of PANELS in one STEP: just those of PANELS are kept.
        House one = new House("gear(10,0)*40 plan(1,1,0,0,0)*16 step()").tells("count(6)", 56).tells("finding(0,1)", 39);
        one.isRow("finding", 39, 1, 0, 4, NULL, 0).tells("finding(40,1)", NONE).tells("count(7)", 56);
        Edge.part(4, "FINDINGS: each FAULT in a STEP, at once: TIME, GEAR (NONE of PLANS), the ACT (1 GIVEN, 2 READ, 3 RULE, 4 "
                + "PANEL, 5 PLAN), the FAULT, and what: the PARCEL's NUMBER (1, 2), the RULE's number, the LINK's number (4), "
                + "the PLAN's number.");
        House read = new House("gear(0,1) gear(3,1) gear(3,1) come(0,1,1) come(1,1,1) come(2,1,1) label(3,0) step()");
        read.isRow("finding", 2, 1, 0, 1, NULL, 1).isRow("finding", 1, 1, 1, 2, NULL, 2).isRow("finding", 0, 1, 2, 2, INDEX, 3);
        House acts = new House("gear(3,2) gear(10,0) load:Q40=1:1;D=1,Q0=1:2; come(0,1,1) tag(1,0,1) step() come(0,1,1)");
        acts.then("plan(2,2,0,0,0) step()*2").isRow("finding", 6, 2, NONE, 5, INDEX, 0).isRow("finding", 5, 2, 0, 3, INDEX, 0);
        acts.isRow("finding", 4, 2, 0, 3, CAST, 1).isRow("finding", 3, 2, 0, 1, NULL, 1).isRow("finding", 2, 2, 1, 4, NULL, 0);
        acts.isRow("finding", 1, 3, 0, 1, NULL, 1).isRow("finding", 7, 1, 1, 4, NULL, 0).tells("count(6)", 8);
    }

    private static void lamps() {
        Edge.part(4, "and its LAMP is 3, if a FINDING came in it, else 2, if its WAIT is above 0, else 1; of a DOOR 1, if it "
                + "is OPEN, else 0. (0 at first.)");
        House h = new House(ALL_KINDS);
        for (int g = 0; g <= 10; g++) {
            h.is("told(" + g + ",4)", 0);
        }
        h.then("links(10,0) step()");
        for (int g = 0; g <= 10; g++) {
            h.is("told(" + g + ",4)", g == 1 || g == 4 || g == 9 ? 0 : 1);
        }
        h.then("door(9,true)").tells("told(9,4)", 0).then("step()").tells("told(9,4)", 1).tells("told(1,4)", 1);
        h.then("door(9,false)").tells("told(9,4)", 1).then("step()").tells("told(9,4)", 0);
        House held = new House("gear(0,1) gear(8,1) come(0,1,1) step()*8 clear(0)").tells("told(0,4)", 3).then("step()");
        held.tells("told(0,4)", 1).tells("told(1,4)", 2).then("release(1,1) step()").tells("told(1,4)", 3);
        held.then("release(1,0) step()").tells("told(1,4)", 2).tells("told(1,7)", 1);
        // A FINDING of a PLAN is none of the GEAR that it names.
        House plan = new House("gear(9,0) gear(0,1) plan(3,1,0,0,0) step()").tells("told(0,4)", 0).tells("told(1,4)", 1);
        plan.tells("told(0,7)", 0).tells("count(6)", 1);
    }

    private static void jammed() {
        Edge.part(4, "JAMMED is a TAKER whose WAIT is 8 or more.");
        for (int kind = 0; kind <= 6; kind++) {
            int pace = kind == 1 || kind == 4 ? 2 : 1;
            House h = new House("gear(" + kind + ",1) gear(8,1) come(0,1,1) step()*" + 7 * pace).tells("told(0,3)", 7);
            h.tells("jam(0)", NONE).refuses("clear(0)", STATE).then("step()*" + pace).tells("told(0,3)", 8).tells("jam(0)", 0);
            h.then("step()*" + pace).tells("told(0,3)", 9).tells("jam(0)", 0).tells("jam(1)", NONE).does("clear(0)", 1);
        }
        House chute = new House("gear(3,1) gear(7,1) row:0>1 load::1; come(0,1,1) tag(1,0,1) step()*8").tells("jam(0)", NONE);
        chute.then("step()").tells("jam(0)", 1);
        House hold = new House("gear(3,1) gear(8,1) row:0>1 come(0,1,1) step()*9").tells("jam(0)", NONE).then("step()");
        hold.tells("jam(0)", 1);
    }

    private static void traces() {
        Edge.part(4, "The first 60 are kept, all are counted.");
        for (int doors = 0; doors <= 3; doors++) {
            House h = new House("gear(1,1)*29").then("gear(9,0)*" + (doors + 1)).then("step()*2").tells("count(9)", 59 + doors);
            h.tells("trace(57)", 1).tells("trace(58)", 10).tells("trace(59)", doors == 0 ? NONE : 10).tells("trace(60)", NONE);
        }
        Edge.part(4, "TRACE: the bodies that ran, in the order in which they began: of an ACT, by KINDS 0 to 10: 1; 2 and 1; 3 "
                + "and 1; 4 and 1; 5, 4 and 1; 6; 7 and 6; 8; 9; 10; 11");
        long[][] bodies = {{1}, {2, 1}, {3, 1}, {4, 1}, {5, 4, 1}, {6}, {7, 6}, {8}, {9}, {10}, {11}};
        for (int kind = 0; kind <= 10; kind++) {
            new House("gear(" + kind + ",1) step()*2").traces(bodies[kind]);
        }
        Edge.part(4, "of one that is ASKED: BELTS 20, but MERGES 21, and 20 behind it if it is asked by the GEAR that it "
                + "CHOSE; DIVERTS 22; KIND 7 23; KIND 8 24.");
        long[][] askedBodies = {{20}, {20}, {21, 20}, {20}, {20}, {22}, {22}, {23}, {24}};
        for (int kind = 0; kind <= 8; kind++) {
            long[] all = new long[1 + askedBodies[kind].length + (kind == 1 || kind == 4 ? 0 : bodies[kind].length)];
            all[0] = 1;
            System.arraycopy(askedBodies[kind], 0, all, 1, askedBodies[kind].length);
            System.arraycopy(bodies[kind], 0, all, 1 + askedBodies[kind].length, all.length - 1 - askedBodies[kind].length);
            new House("gear(0,1) gear(" + kind + ",1) row:0>1 come(0,1,1) step()").traces(all);
        }
        House two = new House("gear(0,1) gear(0,1) gear(2,1) row:0>2 row:1>2 come(0,1,1) come(1,1,1) step()");
        two.traces(1, 21, 20, 1, 21, 3, 1);
        // CHOSEN and full: it is asked as a BELT, too, in vain.
        two.then("step()").traces(1, 1, 21, 20, 3, 1).slots(1, 2);
        // What has no LINK, or leads to no TAKER, asks nobody.
        new House("gear(0,1) gear(9,0) row:0>1 come(0,1,1) step()").traces(1, 10);
        new House("gear(0,1) gear(9,0) come(0,1,1) step()").traces(1, 10);
    }
}
