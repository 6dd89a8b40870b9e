/** The edges of promises 13 to 24, what is done by hand, each under the words of the document that name it. */
final class EdgeHandTest {
    private static final int UNKNOWN = Edge.UNKNOWN, OUTSIDE = Edge.OUTSIDE, STATE = Edge.STATE, FULL = Edge.FULL,
            UNREAD = Edge.UNREAD, NONE = Edge.NONE, NULL = Edge.NULL, CAST = Edge.CAST, INDEX = Edge.INDEX,
            STORE = Edge.STORE, SIZE = Edge.SIZE;
    private static final String ALL_KINDS = Edge.ALL_KINDS;
    private static final String SORTER = Edge.SORTER;
    private static final String[] NO_GEAR = {"-1", "11", "39", "40", "MIN", "MAX"};

    public static void main(String[] args) {
        comeUnknownOutside();
        comeCastState();
        comeFullInside();
        comeFullNumbers();
        parcelsUnknown();
        label();
        put();
        tagOutside();
        tagIsNotBad();
        door();
        turn();
        release();
        clearRefused();
        clearFull();
        clearDone();
        carryRefused();
        carryChutes();
        carryDone();
        group();
        groupTypes();
        enterRefused();
        enterStore();
        tally();
        Edge.hasTested("Promise ", 13, 24);
        Check.end();
    }

    private static void comeUnknownOutside() {
        House h = new House(ALL_KINDS, "come(0,5,5) step()");
        Edge.promise(13, "UNKNOWN;");
        for (String gear : NO_GEAR) {
            h.refuses("come(" + gear + ",1,1)", UNKNOWN).refuses("come(" + gear + ",0,10)", UNKNOWN);
        }
        Edge.promise(13, "OUTSIDE;");
        // GEAR 1 would take it, 9 is no TAKER, 8 is a CHUTE: OUTSIDE goes ahead of all that.
        for (String gear : new String[] {"1", "9", "8"}) {
            for (String weight : new String[] {"0", "1000", "-1", "MIN", "MAX"}) {
                h.refuses("come(" + gear + "," + weight + ",0)", OUTSIDE);
            }
            for (String size : new String[] {"-1", "10", "MIN", "MAX"}) {
                h.refuses("come(" + gear + ",1," + size + ")", OUTSIDE);
            }
        }
        h.does("come(1,1,0)", 2).does("come(2,999,9)", 3).tells("parcel(2,2)", 1).tells("parcel(2,3)", 0);
        h.tells("parcel(3,2)", 999).tells("parcel(3,3)", 9);
    }

    private static void comeCastState() {
        Edge.promise(13, "CAST: no TAKER;");
        House h = new House(ALL_KINDS, "come(0,5,5)");
        h.refuses("come(9,1,0)", CAST).refuses("come(10,999,9)", CAST);
        Edge.promise(13, "STATE: a CHUTE, or SLOT 0 is not empty;");
        h.refuses("come(7,1,0)", STATE).refuses("come(8,1,0)", STATE).refuses("come(0,1,0)", STATE);
        h.then("step()").does("come(0,1,1)", 2).slots(0, 2, 1).refuses("come(0,1,1)", STATE);
        for (int gear = 1; gear <= 6; gear++) {
            h.does("come(" + gear + ",1,1)", 2 + gear).refuses("come(" + gear + ",1,1)", STATE);
        }
        House one = new House("gear(0,1) come(0,1,1) step()");
        one.refuses("come(0,1,1)", STATE).tells("count(2)", 1).tells("count(13)", 1);
    }

    private static void comeFullInside() {
        Edge.promise(13, "FULL: 30 INSIDE,");
        StringBuilder come = new StringBuilder();
        for (int g = 0; g < 29; g++) {
            come.append("come(").append(g).append(",1,1) ");
        }
        House h = new House("gear(0,1)*30 gear(7,1) gear(9,0) gear(0,1)", come.toString());
        h.does("come(29,1,1)", 30).tells("count(1)", 30).refuses("come(32,1,1)", FULL).refuses("come(29,1,1)", STATE);
        h.refuses("come(30,1,1)", STATE).refuses("come(31,1,1)", CAST).refuses("come(32,0,1)", OUTSIDE);
        h.refuses("come(33,1,1)", UNKNOWN).tells("count(13)", 30).then("works(1) gear(0,1)").does("come(0,1,1)", 31);
        h.then("works(0)").refuses("come(32,1,1)", FULL).does("carry(30,32)", 29).refuses("come(29,1,1)", FULL);

        House out = new House("gear(0,1)*29", come.toString(), "gear(3,1) gear(7,1) gear(9,0)", "row:29>30", "row:30>31");
        out.then("load::30; door(31,true)").does("come(29,1,1)", 30).then("tag(30,0,0) step()").refuses("come(29,1,1)", FULL);
        out.then("step()").tells("count(1)", 29).tells("left(30)", 31).does("come(29,1,1)", 31).tells("count(1)", 30);
    }

    /** A night brings 14 at first, then 13: what came ahead of its first STEP is there again behind back(20). */
    private static void comeFullNumbers() {
        Edge.promise(13, "or 2,000 NUMBERS were given.");
        StringBuilder nights = new StringBuilder("night(0,20) back(20) ");
        for (int i = 1; i <= 152; i++) {
            nights.append("night(").append(i).append(",20) back(20) ");
        }
        House h = new House("gear(0,8)*4", "row:0>1", "row:1>2", nights.toString()).tells("count(13)", 1990);
        for (int p = 1991; p <= 1999; p++) {
            h.then("step() come(3,1,1) back(1)").is("count(13)", p);
        }
        h.does("come(2,1,1)", 2000).tells("count(13)", 2000).tells("left(2000)", -10).refuses("come(1,1,1)", FULL);
        h.refuses("come(2,1,1)", STATE).does("night(9,1)", 0).tells("count(5)", 1).tells("count(13)", 2000);
        h.then("works(1) gear(0,1)").refuses("come(0,1,1)", FULL).tells("left(2001)", UNKNOWN);
    }

    /** Numbers of no PARCEL INSIDE: never given, OUT, UNDONE, INSIDE another WORKS. */
    private static void parcelsUnknown() {
        String built = SORTER + " gear(0,1) come(0,1,1) tag(1,0,1) step()*2 come(3,2,2) back(1) works(1) gear(0,1) come(0,3,3)"
                + " works(0)";
        House look = new House(built).tells("left(1)", -10).tells("left(2)", NONE).tells("left(3)", -11);
        look.then("step()").tells("left(1)", 2);
        Edge.says("Terms", "or no such PARCEL INSIDE the WORKS AT HAND, but for left()");
        String[] calls = {"label(#,1)", "label(#,13)", "label(#,-2)", "put(#,0,0)", "put(#,-1,0)", "tag(#,0,0)", "tag(#,2,100)",
            "carry(#,3)", "carry(#,2)", "carry(#,0)"};
        int[] promises = {14, 14, 14, 15, 15, 16, 16, 21, 21, 21};
        for (int i = 0; i < calls.length; i++) {
            Edge.promise(promises[i], "UNKNOWN");
            House h = new House(built, "step()");
            for (String parcel : new String[] {"0", "-1", "1", "2", "3", "4", "2000", "2001", "MIN", "MAX"}) {
                h.refuses(calls[i].replace("#", parcel), UNKNOWN);
            }
        }
    }

    private static void label() {
        House h = new House("gear(0,1) come(0,1,1) tag(1,0,7) step()");
        Edge.promise(14, "OUTSIDE: above 12;");
        h.refuses("label(1,13)", OUTSIDE).refuses("label(1,MAX)", OUTSIDE);
        Edge.promise(14, "SIZE: below -1.");
        h.refuses("label(1,-2)", SIZE).refuses("label(1,MIN)", SIZE).tells("parcel(1,6)", 8);
        Edge.promise(14, "a new ROW of n bytes 0 (n = -1: NOTHING): n.");
        for (int n = -1; n <= 12; n++) {
            House row = new House("gear(0,1) come(0,1,1) label(1,12)");
            for (int i = 0; i < 12; i++) {
                row.then("put(1," + i + ",255)");
            }
            row.does("label(1," + n + ")", n).tells("parcel(1,6)", n == -1 ? NONE : n);
            for (int i = 0; i <= 12; i++) {
                row.is("byteOf(1," + i + ")", i < n ? 0 : NONE);
            }
            row.does("label(1,12)", 12);
            for (int i = 0; i < 12; i++) {
                row.is("byteOf(1," + i + ")", 0);
            }
        }
    }

    private static void put() {
        Edge.promise(15, "NULL, INDEX.");
        House h = new House("gear(0,1) come(0,1,1)");
        for (String i : new String[] {"0", "-1", "12", "MIN", "MAX"}) {
            h.refuses("put(1," + i + ",1)", NULL);
        }
        for (int n : new int[] {0, 1, 6, 12}) {
            House row = new House("gear(0,1) come(0,1,1) label(1," + n + ")");
            for (String i : new String[] {"-1", "" + n, "12", "MIN", "MAX"}) {
                row.refuses("put(1," + i + ",1)", INDEX);
            }
            if (n > 0) {
                row.does("put(1,0,9)", 1).does("put(1," + (n - 1) + ",7)", 1).tells("byteOf(1," + (n - 1) + ")", 7);
            }
        }
        Edge.promise(15, "Byte i of a LABEL becomes b (its lowest 8 bits): 1.");
        String[] bytes = {"0", "1", "127", "128", "255", "256", "257", "-1", "-128", "-129", "-256", "MIN", "MAX"};
        int[] want = {0, 1, 127, 128, 255, 0, 1, 255, 128, 127, 0, 0, 255};
        House row = new House("gear(0,1) come(0,1,1) label(1,3)");
        for (int i = 0; i < bytes.length; i++) {
            row.does("put(1,1," + bytes[i] + ")", 1).tells("byteOf(1,1)", want[i]).is("byteOf(1,0)", 0).is("byteOf(1,2)", 0);
        }
    }

    private static void tagOutside() {
        Edge.promise(16, "OUTSIDE: form; to is not 0 .. 99.");
        House h = new House("gear(0,1) come(0,1,1) label(1,2) put(1,1,77) step()");
        for (String form : new String[] {"-1", "2", "MIN", "MAX"}) {
            h.refuses("tag(1," + form + ",0)", OUTSIDE);
        }
        for (String to : new String[] {"-1", "100", "MIN", "MAX"}) {
            h.refuses("tag(1,0," + to + ")", OUTSIDE).refuses("tag(1,1," + to + ")", OUTSIDE);
        }
        h.tells("parcel(1,6)", 2).does("tag(1,0,0)", 8).does("tag(1,0,99)", 8).does("tag(1,1,0)", 6).does("tag(1,1,99)", 6);
    }

    /** What a SCANNER reads from it is its PLACE, its own WEIGHT and SIZE; a SCALE would find another WEIGHT. */
    private static void tagIsNotBad() {
        Edge.promise(16, "that is not BAD, with PLACE to, its own WEIGHT and SIZE: how many bytes.");
        int[] weights = {1, 9, 10, 99, 100, 255, 256, 511, 512, 767, 768, 999};
        for (int weight : weights) {
            for (int form = 0; form <= 1; form++) {
                for (int place : new int[] {0, 9, 10, 99}) {
                    int size = weight == 1 ? 0 : weight == 999 ? 9 : weight % 10;
                    House h = new House("gear(4,1) come(0," + weight + "," + size + ") label(1,12)");
                    h.then("load:D=" + place + ",W=" + weight + ",S=" + size + ":7;:8;");
                    h.does("tag(1," + form + "," + place + ")", form == 0 ? 8 : 6).tells("parcel(1,6)", form == 0 ? 8 : 6);
                    h.then("step()*2").tells("parcel(1,4)", 7);
                }
            }
        }
        House zero = new House("gear(0,1) come(0,10,9) tag(1,0,0)");
        // 0 + 0 + 0 + 1 + 0 + 9 = 10: no more is needed, so the CHECK is 0.
        zero.tells("byteOf(1,7)", '0').then("tag(1,0,1)").tells("byteOf(1,7)", '9').then("tag(1,1,0)");
        // 7 * 0 + 5 * 0 + 3 * 10 + 9 = 39
        zero.tells("byteOf(1,5)", 39).then("tag(1,1,8)").tells("byteOf(1,5)", 95).then("tag(1,1,9)").tells("byteOf(1,5)", 5);
    }

    private static void door() {
        House h = new House(ALL_KINDS, "step()");
        Edge.promise(17, "UNKNOWN;");
        for (String gear : NO_GEAR) {
            h.refuses("door(" + gear + ",true)", UNKNOWN).refuses("door(" + gear + ",false)", UNKNOWN);
        }
        Edge.promise(17, "CAST.");
        for (int gear = 0; gear <= 10; gear++) {
            if (gear != 9) {
                h.refuses("door(" + gear + ",true)", CAST).refuses("door(" + gear + ",false)", CAST);
            }
        }
        Edge.promise(17, "what it was (1, 0).");
        h.does("door(9,false)", 0).does("door(9,true)", 0).tells("told(9,2)", 1).does("door(9,true)", 1)
                .does("door(9,false)", 1);
        h.tells("told(9,2)", 0).does("door(9,false)", 0);
    }

    private static void turn() {
        House h = new House(ALL_KINDS, "turn(5,1) turn(6,2) step()");
        Edge.promise(18, "UNKNOWN;");
        for (String gear : NO_GEAR) {
            h.refuses("turn(" + gear + ",0)", UNKNOWN).refuses("turn(" + gear + ",9)", UNKNOWN);
        }
        Edge.promise(18, "CAST;");
        for (int gear = 0; gear <= 10; gear++) {
            if (gear != 5 && gear != 6) {
                h.refuses("turn(" + gear + ",0)", CAST).refuses("turn(" + gear + ",3)", CAST);
            }
        }
        Edge.promise(18, "INDEX: it has no such SIDE;");
        for (String side : new String[] {"-1", "2", "3", "MIN", "MAX"}) {
            h.refuses("turn(5," + side + ")", INDEX);
        }
        for (String side : new String[] {"-1", "3", "MIN", "MAX"}) {
            h.refuses("turn(6," + side + ")", INDEX);
        }
        h.does("turn(5,0)", 1).does("turn(5,1)", 0).does("turn(6,0)", 2).does("turn(6,1)", 0).does("turn(6,2)", 1);
        h.does("turn(6,2)", 2);
        Edge.promise(18, "STATE: its LOAD is above 0.");
        h.then("come(5,1,1) come(6,1,1)");
        for (int i = 0; i < 2; i++) {
            // In SLOT 0 at first, then in the last SLOT.
            h.refuses("turn(5,0)", STATE).refuses("turn(5,1)", STATE).refuses("turn(6,2)", STATE).refuses("turn(6,0)", STATE);
            h.refuses("turn(5,2)", INDEX).refuses("turn(6,-1)", INDEX).then("step()");
        }
        h.then("carry(1,0)").does("turn(5,0)", 1).refuses("turn(0,0)", CAST);
    }

    private static void release() {
        House h = new House(ALL_KINDS, "release(8,7) step()");
        Edge.promise(19, "UNKNOWN;");
        for (String gear : NO_GEAR) {
            h.refuses("release(" + gear + ",1)", UNKNOWN).refuses("release(" + gear + ",21)", UNKNOWN);
        }
        Edge.promise(19, "OUTSIDE: not 0 .. 20;");
        for (String n : new String[] {"-1", "21", "MIN", "MAX"}) {
            h.refuses("release(8," + n + ")", OUTSIDE).refuses("release(7," + n + ")", OUTSIDE);
        }
        Edge.promise(19, "CAST.");
        for (int gear = 0; gear <= 10; gear++) {
            if (gear != 8) {
                h.refuses("release(" + gear + ",0)", CAST).refuses("release(" + gear + ",20)", CAST);
            }
        }
        h.does("release(8,20)", 7).does("release(8,0)", 20).does("release(8,20)", 0).tells("told(8,10)", 20);
    }

    /** BELT 1 of LENGTH 2 leads nowhere; its PARCEL has waited that long. HOLDS are 0 and 3, DOOR 2, PANEL 4. */
    private static House jammed(int wait) {
        House h = new House("gear(8,2) gear(0,2) gear(9,0) gear(8,2) gear(10,0) links(4,0) come(1,5,5) step()");
        return h.then("step()*" + wait).tells("told(1,3)", wait);
    }

    private static void clearRefused() {
        Edge.promise(20, "UNKNOWN;");
        House h = jammed(8);
        for (String gear : new String[] {"-1", "5", "40", "MIN", "MAX"}) {
            h.refuses("clear(" + gear + ")", UNKNOWN);
        }
        Edge.promise(20, "CAST: no TAKER;");
        h.refuses("clear(2)", CAST).refuses("clear(4)", CAST);
        Edge.promise(20, "STATE: it is not JAMMED, or its last SLOT is empty;");
        h.refuses("clear(0)", STATE).refuses("clear(3)", STATE);
        jammed(7).refuses("clear(1)", STATE).then("step()").does("clear(1)", 0);
        jammed(1).refuses("clear(1)", STATE);
        House empty = jammed(9).then("carry(1,1)").tells("told(1,3)", 9).refuses("clear(1)", STATE);
        empty.then("step()*2").tells("told(1,3)", 1).refuses("clear(1)", STATE);
        House none = new House("gear(0,1) come(0,1,1) step()*7");
        none.refuses("clear(0)", STATE).then("step()").refuses("clear(0)", FULL);
    }

    private static void clearFull() {
        Edge.promise(20, "FULL: there is no such HOLD.");
        House none = new House("gear(0,1) gear(7,1) gear(9,0) come(0,1,1) step()*8");
        none.refuses("clear(0)", FULL).tells("told(0,3)", 8).tells("parcel(1,4)", NONE);
        // SLOT 0 of the one HOLD is taken at first; what is behind SLOT 0 does not matter.
        House one = new House("gear(0,1) gear(0,1) gear(8,2) come(0,1,1) come(1,2,2) step()*8").does("clear(0)", 2);
        one.refuses("clear(1)", FULL).then("step()").slots(2, 0, 1).does("clear(1)", 2).slots(2, 2, 1);
        House own = new House("gear(0,1) gear(8,1) come(0,1,1) step()*8").does("clear(0)", 1).then("step()*8");
        own.tells("told(1,3)", 8).refuses("clear(1)", FULL).then("gear(8,1)").does("clear(1)", 2);
        // A HOLD of which SLOT 0 is empty and the last SLOT jams is not itself that HOLD.
        House wide = new House("gear(0,1) gear(8,3) come(0,1,1) step()*8").does("clear(0)", 1).then("step()*10");
        wide.slots(1, 0, 0, 1).tells("told(1,3)", 8).refuses("clear(1)", FULL);
        new House("gear(0,1)*40 come(39,1,1) step()*8").refuses("clear(39)", FULL);
        new House("gear(0,1)*39 gear(8,1) come(0,1,1) step()*8").does("clear(0)", 39).tells("slot(39,0)", 1);
    }

    private static void clearDone() {
        Edge.promise(20, "goes to SLOT 0 of the first HOLD (not itself) whose SLOT 0 is empty; its TARGET is UNREAD; the "
                + "GEAR's WAIT is 0: the HOLD.");
        House h = jammed(8).does("clear(1)", 0).slots(0, 1, 0).slots(1, 0, 0).tells("parcel(1,4)", UNREAD);
        h.isTold(1, 3, 0, 3, 1, 1).isTold(0, 5, 1, 0).isTold(1, 9, 0).tells("jam(0)", NONE).tells("parcel(1,5)", 2);
        House scanned = new House("gear(3,1) gear(8,1) row:0> load::5; come(0,1,1) tag(1,0,1) step()*8");
        scanned.tells("parcel(1,4)", 5).tells("parcel(1,7)", 1).does("clear(0)", 1).tells("parcel(1,4)", UNREAD);
        scanned.tells("parcel(1,7)", 0).tells("told(0,3)", 0).tells("told(1,3)", 0);
        h.tells("way(1,1)", 0).tells("audit()", NONE).then("come(1,6,6) step()*9").does("clear(1)", 0).slots(0, 2, 1);
        h.then("come(1,7,7) step()*9").tells("told(0,3)", 17).refuses("carry(3,0)", STATE).does("clear(1)", 3)
                .refuses("clear(0)", FULL);
    }

    private static void carryRefused() {
        House h = new House(ALL_KINDS, "come(0,1,1) come(1,2,2) step()");
        Edge.promise(21, "UNKNOWN;");
        for (String gear : NO_GEAR) {
            h.refuses("carry(1," + gear + ")", UNKNOWN).refuses("carry(99," + gear + ")", UNKNOWN);
        }
        h.refuses("carry(99,9)", UNKNOWN).refuses("carry(99,1)", UNKNOWN);
        Edge.promise(21, "CAST: no TAKER;");
        h.refuses("carry(1,9)", CAST).refuses("carry(1,10)", CAST);
        Edge.promise(21, "STATE: SLOT 0 is not empty (also if it is there itself),");
        h.refuses("carry(1,1)", STATE).refuses("carry(2,1)", STATE).tells("parcel(2,5)", 1);
        h.does("carry(1,0)", 0).refuses("carry(1,0)", STATE).refuses("carry(2,0)", STATE);
    }

    private static void carryChutes() {
        Edge.promise(21, "or it is a CHUTE that would not take it.");
        // PARCEL 1 is for CHUTE 1, 2 is UNREAD, 3 has no TARGET.
        House h = new House("gear(3,1) gear(7,2) gear(7,2) gear(8,2) gear(0,4)", "load:D=1:1;", "row:0>4");
        h.then("come(0,1,1) tag(1,0,1) step() come(0,1,1) step()*2 come(0,1,1)");
        h.tells("parcel(1,4)", 1).tells("parcel(2,4)", UNREAD).tells("parcel(3,4)", NONE);
        h.refuses("carry(1,2)", STATE).refuses("carry(1,3)", STATE).refuses("carry(2,1)", STATE).refuses("carry(2,2)", STATE);
        h.refuses("carry(3,1)", STATE).refuses("carry(3,2)", STATE).refuses("carry(3,3)", STATE);
        h.does("carry(1,1)", 4).refuses("carry(1,1)", STATE).does("carry(2,3)", 4).refuses("carry(2,3)", STATE);
        h.then("step()").slots(1, 0, 1).does("carry(1,1)", 1).slots(1, 1, 0).slots(3, 0, 2).does("carry(2,3)", 3)
                .slots(3, 2, 0);
    }

    private static void carryDone() {
        Edge.promise(21, "(from another SLOT of the same one, too: it WENT, CAME, is on its WAY once more)");
        House h = new House("gear(0,8) gear(5,1) gear(2,1) come(0,1,1) step()*7").tells("slot(0,7)", 1);
        h.does("carry(1,0)", 0).slots(0, 1, 0, 0, 0, 0, 0, 0, 0).isTold(0, 5, 2, 1).tells("parcel(1,5)", 2)
                .tells("way(1,1)", 0);
        h.tells("audit()", NONE);
        Edge.promise(21, "(WAITS stay.)");
        House waits = new House("gear(0,1) gear(0,1) come(0,1,1) step()*9").does("carry(1,1)", 0).tells("told(0,3)", 9);
        waits.tells("jam(0)", 0).tells("told(1,3)", 0).then("step()").tells("told(0,3)", 0).tells("told(1,3)", 1);
        Edge.promise(21, "the GEAR in which it was.");
        h.does("carry(1,1)", 0).does("carry(1,2)", 1).tells("told(2,13)", 0).does("carry(1,0)", 2);
    }

    private static void group() {
        House h = new House("gear(0,1) group(0,1,1) enter(0,0,0) group(3,0,0) step()");
        Edge.promise(22, "UNKNOWN;");
        for (String i : new String[] {"-1", "4", "MIN", "MAX"}) {
            h.refuses("group(" + i + ",0,1)", UNKNOWN).refuses("group(" + i + ",4,9)", UNKNOWN)
                    .refuses("group(" + i + ",0,-1)", UNKNOWN);
        }
        Edge.promise(22, "OUTSIDE: type; n above 8;");
        for (String type : new String[] {"-1", "4", "MIN", "MAX"}) {
            h.refuses("group(0," + type + ",1)", OUTSIDE).refuses("group(1," + type + ",-1)", OUTSIDE);
            h.refuses("group(0," + type + ",9)", OUTSIDE);
        }
        h.refuses("group(0,0,9)", OUTSIDE).refuses("group(3,3,MAX)", OUTSIDE);
        Edge.promise(22, "SIZE: below 0.");
        h.refuses("group(0,0,-1)", SIZE).refuses("group(2,3,MIN)", SIZE).refuses("group(2,0,-2)", SIZE);
        Edge.promise(22, "GROUP i is a new row of n places, empty, of a TYPE: n.");
        for (int i = 0; i < 4; i++) {
            House rows = new House("gear(0,1)");
            for (int n : new int[] {8, 0, 1, 8}) {
                rows.does("group(" + i + ",1," + n + ")", n).refuses("enter(" + i + "," + n + ",0)", INDEX);
                if (n == 0) {
                    rows.does("tally(" + i + ",0)", 0);
                } else {
                    rows.refuses("tally(" + i + ",0)", NULL).does("enter(" + i + "," + (n - 1) + ",0)", 1);
                }
            }
            for (int k = 0; k < 7; k++) {
                rows.refuses("tally(" + i + ",1)", NULL).does("enter(" + i + "," + k + ",0)", 1);
            }
            rows.does("tally(" + i + ",1)", 0).does("group(" + i + ",1,8)", 8).refuses("tally(" + i + ",1)", NULL);
            rows.refuses("tally(" + (i + 1) % 4 + ",0)", NULL).then("works(1)").refuses("tally(" + i + ",0)", NULL);
        }
    }

    private static void groupTypes() {
        Edge.promise(22, "of a TYPE: n.");
        House h = new House(ALL_KINDS);
        // Each TYPE behind each other one, with a GEAR that only the new one, or only the old one, has room for.
        h.does("group(0,3,1)", 1).does("enter(0,0,7)", 1).does("group(0,2,1)", 1).refuses("enter(0,0,7)", STORE);
        h.does("enter(0,0,3)", 1).does("group(0,1,1)", 1).does("enter(0,0,0)", 1).refuses("enter(0,0,7)", STORE);
        h.does("group(0,0,1)", 1).does("enter(0,0,10)", 1).does("group(0,3,1)", 1).refuses("enter(0,0,0)", STORE);
        h.does("group(1,1,1)", 1).refuses("enter(0,0,0)", STORE).does("enter(1,0,0)", 1).does("enter(0,0,8)", 1);
    }

    private static void enterRefused() {
        House h = new House("gear(0,1) gear(9,0) group(0,0,0) group(1,1,8) group(2,2,1)");
        Edge.promise(23, "UNKNOWN (GROUP, GEAR);");
        for (String i : new String[] {"-1", "4", "MIN", "MAX"}) {
            h.refuses("enter(" + i + ",0,0)", UNKNOWN).refuses("enter(" + i + ",9,99)", UNKNOWN);
        }
        for (String gear : new String[] {"-1", "2", "40", "MIN", "MAX"}) {
            h.refuses("enter(1,0," + gear + ")", UNKNOWN).refuses("enter(3,0," + gear + ")", UNKNOWN);
            h.refuses("enter(1,9," + gear + ")", UNKNOWN);
        }
        Edge.promise(23, "NULL: the GROUP is NOTHING;");
        h.refuses("enter(3,0,0)", NULL).refuses("enter(3,-1,0)", NULL).refuses("enter(3,8,1)", NULL);
        Edge.promise(23, "INDEX;");
        for (String k : new String[] {"-1", "8", "MIN", "MAX"}) {
            // GEAR 1 is not of TYPE 1: INDEX goes ahead of STORE.
            h.refuses("enter(0," + k + ",0)", INDEX).refuses("enter(1," + k + ",0)", INDEX)
                    .refuses("enter(1," + k + ",1)", INDEX);
        }
        h.refuses("enter(0,0,0)", INDEX).refuses("enter(2,1,1)", INDEX).does("enter(1,0,0)", 1).does("enter(1,7,0)", 1);
    }

    private static void enterStore() {
        Edge.promise(23, "STORE: it is not of its TYPE");
        String[] fits = {"11111111111", "11111000000", "00011000000", "00000001100"};
        for (int type = 0; type <= 3; type++) {
            House h = new House(ALL_KINDS, "group(3," + type + ",1)");
            for (int kind = 0; kind <= 10; kind++) {
                String call = "enter(3,0," + kind + ")";
                if (fits[type].charAt(kind) == '1') {
                    h.does(call, 1);
                } else {
                    h.refuses(call, STORE);
                }
            }
        }
        Edge.promise(23, "(also behind refit() it stays where it stands)");
        House h = new House("gear(3,2) gear(3,2) group(0,2,1) enter(0,0,0) come(0,1,1) step() carry(1,1) refit(0,8)");
        h.does("tally(0,0)", 0).refuses("enter(0,0,0)", STORE).does("tally(0,1)", 0).does("enter(0,0,1)", 1)
                .does("tally(0,0)", 1);
        h.refuses("enter(0,0,0)", STORE).does("tally(0,0)", 1);
    }

    private static void tally() {
        House h = new House("gear(0,1) group(0,0,0) group(1,0,2) enter(1,0,0)");
        Edge.promise(24, "UNKNOWN;");
        for (String i : new String[] {"-1", "4", "MIN", "MAX"}) {
            h.refuses("tally(" + i + ",0)", UNKNOWN).refuses("tally(" + i + ",3)", UNKNOWN);
        }
        Edge.promise(24, "OUTSIDE;");
        for (String what : new String[] {"-1", "3", "MIN", "MAX"}) {
            h.refuses("tally(0," + what + ")", OUTSIDE).refuses("tally(1," + what + ")", OUTSIDE)
                    .refuses("tally(2," + what + ")", OUTSIDE);
        }
        Edge.promise(24, "NULL: the GROUP is NOTHING, or a place is empty.");
        for (int what = 0; what <= 2; what++) {
            h.does("tally(0," + what + ")", 0).refuses("tally(1," + what + ")", NULL).refuses("tally(2," + what + ")", NULL);
        }
        Edge.promise(24, "Of all places of a GROUP, in order, together: LOADS (what = 0), what CAME (1), what WENT (2).");
        House full = new House("gear(0,8) gear(0,2) gear(10,0) row:0>1 group(3,0,8)");
        for (int k = 0; k < 7; k++) {
            full.then("enter(3," + k + "," + k % 3 + ")").refuses("tally(3,0)", NULL);
        }
        full.then("enter(3,7,1)").does("tally(3,0)", 0);
        for (int i = 0; i < 10; i++) {
            full.then("come(0,1,1) step()");
        }
        // BELT 0 gave in STEPS 8 and 10; in STEP 9 SLOT 0 of BELT 1 was taken, so the tenth could not come.
        full.isTold(0, 5, 9, 2).isTold(1, 5, 2, 0).isTold(0, 9, 7).isTold(1, 9, 2);
        full.does("tally(3,0)", 3 * 7 + 3 * 2).does("tally(3,1)", 3 * 9 + 3 * 2).does("tally(3,2)", 3 * 2);
    }
}
