/** The edges of promises 29 to 48, what is told, each under the words of the document that name it. */
final class EdgeToldTest {
    private static final int UNKNOWN = Edge.UNKNOWN, OUTSIDE = Edge.OUTSIDE, UNREAD = Edge.UNREAD, NONE = Edge.NONE;
    private static final String ALL_KINDS = Edge.ALL_KINDS;
    private static final String SORTER = Edge.SORTER;
    private static final String[] NO_GEAR = {"-1", "11", "39", "40", "MIN", "MAX"};
    private static final String[] NO_PARCEL = {"0", "-1", "2", "2000", "2001", "MIN", "MAX"};

    public static void main(String[] args) {
        toldRefused();
        toldEdges();
        toldOfDoors();
        slot();
        linkOf();
        parcelRefused();
        parcelEdges();
        way();
        byteOf();
        leftUnknown();
        leftOut();
        out();
        ruleEdges();
        said();
        unused();
        finding();
        trace();
        jam();
        far();
        reach();
        ring();
        audit();
        countEdges();
        counts();
        digest();
        Edge.hasTested("Promise ", 29, 48);
        Check.end();
    }

    private static void toldRefused() {
        House h = new House(ALL_KINDS);
        Edge.promise(29, "UNKNOWN, OUTSIDE.");
        for (String gear : NO_GEAR) {
            h.tells("told(" + gear + ",0)", UNKNOWN).tells("told(" + gear + ",16)", UNKNOWN)
                    .tells("told(" + gear + ",-1)", UNKNOWN);
        }
        for (String what : new String[] {"-1", "16", "17", "MIN", "MAX"}) {
            h.tells("told(0," + what + ")", OUTSIDE).tells("told(10," + what + ")", OUTSIDE);
        }
        h.tells("told(0,0)", 0).tells("told(10,15)", NONE);
        new House("gear(0,1)*40").tells("told(39,0)", 0).tells("told(40,0)", UNKNOWN);
        new House("gear(0,1) works(1)").tells("told(0,0)", UNKNOWN);
    }

    private static void toldEdges() {
        Edge.promise(29, "2 SIDE (of a DOOR 1, if it is OPEN; 0 of others)");
        House h = new House(ALL_KINDS, "turn(5,1) turn(6,2) door(9,true)");
        for (int g = 0; g <= 10; g++) {
            h.is("told(" + g + ",2)", g == 5 || g == 9 ? 1 : g == 6 ? 2 : 0);
        }
        Edge.promise(29, "11 RANK (0 of DOORS, PANELS)");
        h.tells("told(9,11)", 0).tells("told(10,11)", 0).then("rank(8,0) rank(7,9)").tells("told(8,11)", 0)
                .tells("told(7,11)", 9);
        Edge.promise(29, "13 LAST and 1 (0: none)");
        h.tells("told(2,13)", 0);
        new House("gear(0,1) gear(2,1) row:0>1 come(0,1,1) step()").tells("told(1,13)", 1);
        new House("gear(2,1) gear(0,1)*39 row:39>0 come(39,1,1) step()").tells("told(0,13)", 40);
        Edge.promise(29, "15 how many LINKS (NONE: NOTHING)");
        for (int n = -1; n <= 3; n++) {
            new House("gear(10,0) links(0," + n + ")").tells("told(0,15)", n == -1 ? NONE : n);
        }
        Edge.promise(29, "9 LOAD, 10 RELEASES");
        House load = new House("gear(0,1) gear(8,1)").tells("told(0,9)", 0).then("come(0,1,1) release(1,20)")
                .tells("told(0,9)", 1);
        load.tells("told(1,10)", 20).tells("told(0,10)", 0);
    }

    private static void toldOfDoors() {
        Edge.promise(29, "(OUT, carried, cleared too; of a DOOR both are how many are OUT by it since it came, or was "
                + "refitted)");
        House h = new House(SORTER).isTold(2, 5, 0, 0).then("come(0,1,1) tag(1,0,0) step()*2").isTold(2, 5, 1, 1)
                .isTold(1, 5, 1, 1);
        h.then("come(0,1,1) tag(2,0,0) step()*2").isTold(2, 5, 2, 2).does("refit(2,9)", 9).isTold(2, 5, 0, 0)
                .then("door(2,true)");
        h.then("come(0,1,1) tag(3,0,0) step()*2").isTold(2, 5, 1, 1).isTold(0, 5, 3, 3).isTold(2, 9, 0);
        House carried = new House("gear(0,1) gear(0,1) gear(8,1) come(0,1,1) carry(1,1)").isTold(0, 5, 1, 1).isTold(1, 5, 1, 0);
        carried.then("step()*8").does("clear(1)", 2).isTold(1, 5, 1, 1).isTold(2, 5, 1, 0);
    }

    private static void slot() {
        House h = new House(ALL_KINDS, "gear(0,8) come(0,1,1)");
        Edge.promise(30, "UNKNOWN;");
        for (String gear : new String[] {"-1", "12", "40", "MIN", "MAX"}) {
            h.tells("slot(" + gear + ",0)", UNKNOWN).tells("slot(" + gear + ",-1)", UNKNOWN);
        }
        Edge.promise(30, "OUTSIDE: there is no such SLOT.");
        for (String k : new String[] {"-1", "2", "8", "MIN", "MAX"}) {
            h.tells("slot(0," + k + ")", OUTSIDE);
        }
        for (String k : new String[] {"-1", "8", "MIN", "MAX"}) {
            h.tells("slot(11," + k + ")", OUTSIDE);
        }
        h.tells("slot(9,0)", OUTSIDE).tells("slot(10,0)", OUTSIDE);
        Edge.promise(30, "The PARCEL in a SLOT; 0: it is empty.");
        h.slots(0, 1, 0).tells("slot(11,7)", 0).then("step()").slots(0, 0, 1);
    }

    private static void linkOf() {
        House h = new House(ALL_KINDS, "row:0>-1,0,39 links(1,0) links(2,1)");
        Edge.promise(31, "LINK k of a GEAR, and 1 (0: it is -1); NONE: there is none such.");
        h.tells("linkOf(0,0)", 0).tells("linkOf(0,1)", 1).tells("linkOf(0,2)", 40).tells("linkOf(2,0)", 0);
        for (String k : new String[] {"-1", "3", "MIN", "MAX"}) {
            h.tells("linkOf(0," + k + ")", NONE).tells("linkOf(1," + k + ")", NONE).tells("linkOf(10," + k + ")", NONE);
        }
        h.tells("linkOf(1,0)", NONE).tells("linkOf(2,1)", NONE).tells("linkOf(3,0)", NONE);
        Edge.promise(31, "UNKNOWN.");
        for (String gear : NO_GEAR) {
            h.tells("linkOf(" + gear + ",0)", UNKNOWN).tells("linkOf(" + gear + ",9)", UNKNOWN);
        }
    }

    /** Numbers of no PARCEL INSIDE; then one that is OUT, one that is UNDONE, one INSIDE another WORKS. */
    private static void unknownParcels(String call) {
        House h = new House("gear(0,1) come(0,1,1)");
        for (String parcel : NO_PARCEL) {
            h.tells(call.replace("#", parcel), UNKNOWN);
        }
        House gone = new House(SORTER, "come(0,1,1) tag(1,0,0) step()*3 come(0,1,1) back(1) works(1) gear(0,1) come(0,1,1) "
                + "works(0)");
        gone.tells("left(1)", 2).tells("left(2)", NONE).tells("left(3)", -11);
        for (int p = 1; p <= 3; p++) {
            gone.tells(call.replace("#", "" + p), UNKNOWN);
        }
    }

    private static void parcelRefused() {
        Edge.promise(32, "UNKNOWN, OUTSIDE.");
        unknownParcels("parcel(#,0)");
        unknownParcels("parcel(#,8)");
        House h = new House("gear(0,1) come(0,1,1)");
        for (String what : new String[] {"-1", "8", "MIN", "MAX"}) {
            h.tells("parcel(1," + what + ")", OUTSIDE);
        }
    }

    private static void parcelEdges() {
        Edge.promise(32, "6 how many bytes its LABEL has (NONE: NOTHING), 7 whether it was SCANNED since it came into its "
                + "GEAR (1, 0)");
        House h = new House("gear(3,2) gear(0,1) load::39; come(0,1,0)").tells("parcel(1,6)", NONE).tells("parcel(1,7)", 0);
        h.then("label(1,0)").tells("parcel(1,6)", 0).then("label(1,12)").tells("parcel(1,6)", 12).then("tag(1,0,0) step()");
        h.tells("parcel(1,7)", 0).then("step()").tells("parcel(1,7)", 1).tells("parcel(1,4)", 39).then("carry(1,0)");
        h.tells("parcel(1,7)", 0).tells("parcel(1,4)", 39).then("carry(1,1)").tells("parcel(1,0)", 1).tells("parcel(1,1)", 0);
        Edge.promise(32, "0 its GEAR, 1 its SLOT, 2 WEIGHT, 3 SIZE, 4 TARGET, 5 how long its WAY is");
        House last = new House("gear(9,0)*39 gear(0,8) come(39,999,9) step()*7").tells("parcel(1,0)", 39)
                .tells("parcel(1,1)", 7);
        last.tells("parcel(1,2)", 999).tells("parcel(1,3)", 9).tells("parcel(1,4)", NONE).tells("parcel(1,5)", 1);
    }

    private static void way() {
        Edge.promise(33, "UNKNOWN: it is not INSIDE.");
        unknownParcels("way(#,0)");
        unknownParcels("way(#,99)");
        Edge.promise(33, "GEAR i of a PARCEL's WAY; NONE: there is none kept.");
        House h = new House("gear(0,1) gear(0,1) come(1,1,1)").tells("way(1,0)", 1).tells("way(1,1)", NONE);
        for (int n = 2; n <= 15; n++) {
            h.then("carry(1," + n % 2 + ")");
        }
        h.tells("way(1,14)", 1).tells("way(1,15)", NONE).then("carry(1,0)").tells("way(1,15)", 0).tells("way(1,16)", NONE);
        h.then("carry(1,1)").tells("way(1,15)", 0).tells("way(1,16)", NONE).tells("parcel(1,5)", 17);
        for (String i : new String[] {"-1", "17", "MIN", "MAX"}) {
            h.tells("way(1," + i + ")", NONE);
        }
    }

    private static void byteOf() {
        Edge.promise(34, "UNKNOWN: it is not INSIDE.");
        unknownParcels("byteOf(#,0)");
        unknownParcels("byteOf(#,99)");
        Edge.promise(34, "Byte i of a LABEL (0 .. 255); NONE: there is none such.");
        House h = new House("gear(0,1) come(0,1,1)").tells("byteOf(1,0)", NONE).tells("byteOf(1,-1)", NONE).then("label(1,0)");
        h.tells("byteOf(1,0)", NONE).then("label(1,12) put(1,0,255) put(1,11,128)").tells("byteOf(1,0)", 255)
                .tells("byteOf(1,11)", 128);
        h.tells("byteOf(1,1)", 0);
        for (String i : new String[] {"-1", "12", "MIN", "MAX"}) {
            h.tells("byteOf(1," + i + ")", NONE);
        }
        h.then("tag(1,1,0)").tells("byteOf(1,5)", 4).tells("byteOf(1,6)", NONE).then("label(1,-1)").tells("byteOf(1,0)", NONE);
    }

    private static void leftUnknown() {
        Edge.promise(35, "UNKNOWN: it was not given.");
        House h = new House("gear(0,1)").tells("left(1)", UNKNOWN).then("come(0,1,1)").tells("left(1)", -10);
        for (String parcel : NO_PARCEL) {
            h.tells("left(" + parcel + ")", UNKNOWN);
        }
        Edge.promise(35, "NONE: it is UNDONE.");
        House undone = new House("gear(0,1) step() come(0,1,1) back(1)").tells("left(1)", NONE).tells("left(2)", UNKNOWN);
        undone.then("works(2)").tells("left(1)", NONE);
    }

    private static void leftOut() {
        Edge.promise(35, "1000 w and the number of the GEAR that was the DOOR by which it is OUT of WORKS w; -10 less w: it "
                + "is INSIDE WORKS w");
        for (int w = 0; w < 3; w++) {
            // DOORS 0 and 39: the least and the greatest number that there is.
            House h = new House("works(" + w + ") gear(9,0) gear(3,1) gear(7,1) gear(9,0)*37 row:1>2 row:2>0,39 load::2; "
                    + "door(39,true)");
            h.then("come(1,1,1) tag(1,0,0)").tells("left(1)", -10 - w).then("step()*2").tells("left(1)", 1000 * w + 39);
            h.then("door(0,true) come(1,1,1) tag(2,0,0) step()*2").tells("left(2)", 1000 * w)
                    .then("works(" + (w + 1) % 3 + ")");
            h.tells("left(1)", 1000 * w + 39).tells("left(2)", 1000 * w).then("works(" + w + ") refit(0,10)");
            h.tells("left(2)", 1000 * w).then("step()*30").tells("left(1)", 1000 * w + 39);
        }
    }

    private static void out() {
        Edge.promise(36, "NONE: there is none kept, or another what.");
        House h = new House(SORTER).tells("out(0,0)", NONE);
        for (int p = 1; p <= 30; p++) {
            h.then("come(0,1,1) tag(" + p + ",0,0) step()*2");
        }
        h.isRow("out", 29, 1, 2, 2, 1).tells("out(30,0)", NONE).isRow("out", 0, 30, 2, 60, 1)
                .then("come(0,1,1) tag(31,0,0) step()*2");
        h.isRow("out", 29, 2, 2, 4, 1).isRow("out", 0, 31, 2, 62, 1).tells("out(30,0)", NONE).tells("count(3)", 31);
        for (String i : new String[] {"-1", "30", "31", "MIN", "MAX"}) {
            h.tells("out(" + i + ",0)", NONE);
        }
        for (String what : new String[] {"-1", "4", "MIN", "MAX"}) {
            h.tells("out(0," + what + ")", NONE).tells("out(29," + what + ")", NONE);
        }
    }

    private static void ruleEdges() {
        Edge.promise(37, "NONE: none such.");
        House h = new House().tells("rule(0,0)", NONE).then("load:D=1,W=1,S=1,T=1:39;:0;");
        h.tells("rule(0,0)", 39).tells("rule(0,1)", 4).tells("rule(0,2)", 0).tells("rule(1,0)", 0).tells("rule(1,1)", 0);
        for (String k : new String[] {"-1", "2", "12", "MIN", "MAX"}) {
            h.tells("rule(" + k + ",0)", NONE).tells("rule(" + k + ",3)", NONE);
        }
        for (String what : new String[] {"-1", "3", "MIN", "MAX"}) {
            h.tells("rule(0," + what + ")", NONE).tells("rule(1," + what + ")", NONE);
        }
        House twelve = new House("load:" + ":1;".repeat(11) + "D=1:2;").tells("rule(11,0)", 2).tells("rule(11,1)", 1);
        twelve.tells("rule(12,0)", NONE);
        Edge.promise(37, "2 how often it was USED");
        House used = new House("gear(3,1) gear(0,1) load:D=1:1;:2; come(0,1,1) tag(1,0,1) step()").tells("rule(0,2)", 1);
        used.then("step()").tells("rule(0,2)", 1).then("carry(1,1) carry(1,0) step()").tells("rule(0,2)", 2)
                .tells("rule(1,2)", 0);
    }

    private static void said() {
        Edge.promise(38, "as they were typed, but numbers without zeros before them; NONE behind the end.");
        String[][] texts = {{":0;", ":0;"}, {":0000;", ":0;"}, {":0039;", ":39;"}, {"D<0:00;", "D<0:0;"}, {"Q0040=0100:09;",
                "Q40=100:9;"},
            {"W>1000:010;T=0010,S<0001:0;", "W>1000:10;T=10,S<1:0;"}, {"Q0000>0000:0001;", "Q0>0:1;"}};
        for (String[] text : texts) {
            House h = new House("load:" + text[0]);
            for (int i = 0; i < text[1].length(); i++) {
                h.is("said(" + i + ")", text[1].charAt(i));
            }
            for (String i : new String[] {"-1", "" + text[1].length(), "199", "200", "MIN", "MAX"}) {
                h.tells("said(" + i + ")", NONE);
            }
        }
        String long200 = "Q1=1,Q1=1,Q1=1,Q1=1:1;".repeat(8) + "Q1=1,Q12=12,D=1,W=1:10;:";
        House full = new House("type:" + long200).is("count(10)", 200);
        full.refusesToLoad(-300).tells("said(0)", NONE);
        String right200 = "Q1=1,Q1=1,Q1=1,Q1=1:1;".repeat(8) + "Q11=11,Q1=1234,D=123:10;";
        House whole = new House("type:" + right200).is("count(10)", 200).does("load()", 9).tells("said(199)", ';');
        whole.tells("said(200)", NONE).tells("said(198)", '0');
    }

    private static void unused() {
        Edge.promise(39, "The i-th RULE that was not USED; NONE.");
        House none = new House().tells("unused(0)", NONE);
        none.then("load:" + ":1;".repeat(12)).tells("unused(11)", 11).tells("unused(12)", NONE);
        for (String i : new String[] {"-1", "12", "MIN", "MAX"}) {
            none.tells("unused(" + i + ")", NONE);
        }
        House h = new House("gear(3,1) gear(0,1) load:D=1:1;D=2:2;D=3:3;");
        int[][] unused = {{0, 1, 2}, {1, 2, NONE}, {1, NONE, NONE}, {NONE, NONE, NONE}};
        String[] next = {"come(0,1,1) tag(1,0,1) step()", "carry(1,1) carry(1,0) tag(1,0,3) step()",
                "carry(1,1) carry(1,0) tag(1,0,2) step()"};
        for (int k = 0; k <= 3; k++) {
            for (int i = 0; i < 3; i++) {
                h.tells("unused(" + i + ")", unused[k][i]);
            }
            if (k < 3) {
                h.then(next[k]);
            }
        }
    }

    private static void finding() {
        Edge.promise(40, "NONE: there is none kept, or another what.");
        House h = new House("gear(10,0)").tells("finding(0,0)", NONE).then("step()*40").isRow("finding", 39, 1, 0, 4, 1, 0);
        h.tells("finding(40,0)", NONE).then("step()").isRow("finding", 39, 2, 0, 4, 1, 0).isRow("finding", 0, 41, 0, 4, 1, 0);
        for (String i : new String[] {"-1", "40", "41", "MIN", "MAX"}) {
            h.tells("finding(" + i + ",0)", NONE);
        }
        for (String what : new String[] {"-1", "5", "MIN", "MAX"}) {
            h.tells("finding(0," + what + ")", NONE).tells("finding(39," + what + ")", NONE);
        }
        h.then("works(1)").tells("finding(0,0)", NONE);
    }

    private static void trace() {
        Edge.promise(41, "NONE: there is none kept.");
        House h = new House("gear(1,1)*29 gear(9,0)*2").tells("trace(0)", NONE).then("step()").tells("trace(0)", 10);
        h.tells("trace(1)", 10).tells("trace(2)", NONE).then("step()").tells("count(9)", 60).tells("trace(0)", 2);
        h.tells("trace(59)", 10).then("gear(9,0) step()*2").tells("count(9)", 61);
        for (String i : new String[] {"-1", "60", "61", "MIN", "MAX"}) {
            h.tells("trace(" + i + ")", NONE);
        }
        h.then("back(1)").tells("trace(0)", NONE).then("works(1)").tells("trace(0)", NONE).then("step()")
                .tells("trace(0)", NONE);
    }

    private static void jam() {
        Edge.promise(42, "The i-th JAMMED GEAR, by numbers; NONE.");
        House h = new House("gear(0,1)*40 come(0,1,1) come(39,1,1) come(7,1,1) step()*7").tells("jam(0)", NONE).then("step()");
        h.tells("jam(0)", 0).tells("jam(1)", 7).tells("jam(2)", 39).tells("jam(3)", NONE).then("carry(2,38) step()");
        h.tells("jam(1)", 7).tells("jam(2)", NONE);
        for (String i : new String[] {"-1", "3", "40", "MIN", "MAX"}) {
            h.tells("jam(" + i + ")", NONE);
        }
        new House().tells("jam(0)", NONE);
    }

    private static void far() {
        House h = new House(ALL_KINDS, "row:0>1 row:1>2 row:2>7");
        Edge.promise(43, "UNKNOWN.");
        for (String gear : NO_GEAR) {
            h.tells("far(" + gear + ",0)", UNKNOWN).tells("far(0," + gear + ")", UNKNOWN)
                    .tells("far(" + gear + "," + gear + ")", UNKNOWN);
        }
        Edge.promise(43, "0 if they are one; NONE: there is none.");
        for (int g = 0; g <= 10; g++) {
            h.tells("far(" + g + "," + g + ")", 0).tells("far(7," + g + ")", g == 7 ? 0 : NONE);
        }
        h.tells("far(0,7)", 6).tells("far(0,9)", NONE).tells("far(9,0)", NONE);
        Edge.promise(43, "The fewest SLOTS of a WAY AHEAD from a GEAR to another one;");
        // By three GEAR of LENGTH 1 it is nearer than by one of LENGTH 4, and by one of 3 as near.
        House near = new House("gear(6,1) gear(0,4) gear(0,1) gear(0,1) gear(0,1) gear(0,3) gear(0,1) row:0>1,2,5 row:1>6 "
                + "row:2>3 row:3>4 row:4>6");
        near.tells("far(0,6)", 4).then("links(2,0)").tells("far(0,6)", 5).then("row:5>6").tells("far(0,6)", 4);
        House forty = new House("gear(0,8)*40");
        for (int g = 0; g < 40; g++) {
            forty.then("row:" + g + ">" + (g + 39) % 40);
        }
        forty.tells("far(39,0)", 312).tells("far(0,39)", 8).tells("far(0,1)", 312);
    }

    private static void reach() {
        Edge.promise(44, "0 also if there is no such GEAR.");
        House h = new House(ALL_KINDS, "row:0>0 row:1>8");
        for (String gear : NO_GEAR) {
            h.tells("reach(" + gear + ")", 0);
        }
        Edge.promise(44, "(of one LINK at least)");
        h.tells("reach(0)", 1).tells("reach(1)", 1 << 8).tells("reach(2)", 0).tells("reach(9)", 0).tells("reach(10)", 0);
        House forty = new House("gear(0,1)*40");
        for (int g = 0; g < 39; g++) {
            forty.then("row:" + g + ">" + (g + 1));
        }
        forty.tells("reach(0)", (1L << 40) - 2).tells("reach(38)", 1L << 39).tells("reach(39)", 0).then("row:39>0");
        forty.tells("reach(0)", (1L << 40) - 1).tells("reach(39)", (1L << 40) - 1).then("row:39>31")
                .tells("reach(39)", 0x1ffL << 31);
    }

    private static void ring() {
        House h = new House(ALL_KINDS, "row:0>0 row:1>2 row:2>1 row:6>3,1,6 row:3>6 row:7>7,7,7 row:10>10 row:9>9");
        Edge.promise(45, "UNKNOWN.");
        for (String gear : NO_GEAR) {
            h.tells("ring(" + gear + ")", UNKNOWN);
        }
        Edge.promise(45, "(of one LINK at least) from a GEAR back to itself; NONE: there is none.");
        int[] want = {2, 4, 4, 4, NONE, NONE, 2, NONE, NONE, NONE, NONE};
        for (int g = 0; g <= 10; g++) {
            h.tells("ring(" + g + ")", want[g]);
        }
        House forty = new House("gear(0,8)*40");
        for (int g = 0; g < 40; g++) {
            forty.then("row:" + g + ">" + (g + 1) % 40);
        }
        forty.tells("ring(0)", 320).tells("ring(39)", 320).then("row:39>1").tells("ring(0)", NONE).tells("ring(39)", 312);
        forty.then("row:39>38").tells("ring(39)", 16).tells("ring(37)", NONE).then("row:39>39").tells("ring(39)", 8);
    }

    private static void audit() {
        Edge.promise(46, "The first GEAR of which what CAME less what WENT is not its LOAD; NONE.");
        House h = new House().tells("audit()", NONE).then(SORTER + " gear(8,2) gear(0,2) gear(0,2) row:5>4")
                .tells("audit()", NONE);
        String[] next = {"come(0,1,1) tag(1,0,0)", "step()", "step()", "come(5,1,1) step()", "carry(2,4)", "step()*9",
                "clear(4)", "carry(2,4)",
            "carry(2,5)", "refit(4,3)", "night(3,20)", "back(10)", "works(1) copy(0)", "night(3,20)", "works(0) refit(2,9)"};
        for (String script : next) {
            h.then(script).tells("audit()", NONE);
        }
    }

    private static void countEdges() {
        Edge.promise(47, "NONE: another what.");
        House h = new House("gear(0,1)");
        for (String what : new String[] {"-1", "14", "15", "MIN", "MAX"}) {
            h.tells("count(" + what + ")", NONE);
        }
        h.tells("count(0)", 1).tells("count(13)", 0);
    }

    private static void counts() {
        Edge.promise(47, "How many: 0 GEAR, 1 PARCELS INSIDE, 2 PARCELS that came (by come(), night()), 3 OUT, 4 RULES, 5 "
                + "TIME, 6 FINDINGS");
        House h = new House(SORTER, "gear(10,0) come(0,1,1) tag(1,0,0) step()*2 come(0,2,2) tag(2,0,0)");
        int[] want = {4, 1, 2, 1, 1, 2, 2};
        for (int what = 0; what <= 6; what++) {
            h.tells("count(" + what + ")", want[what]);
        }
        House night = new House("gear(0,8) row:0>0").does("night(1,8)", 8).tells("count(2)", 8).tells("count(1)", 8);
        night.then("carry(1,0)").tells("count(2)", 8).refuses("come(0,1,0)", Edge.STATE).tells("count(2)", 8);
        Edge.promise(47, "8 STEPS KEPT, 9 TRACE, 10 letters typed, 11 PLANS, 12 the WORKS AT HAND, 13 NUMBERS given");
        House more = new House("works(2) gear(0,1) plan(1,1,0,0,0)*16 come(0,1,1) letter(58)*200 step()*31");
        more.tells("count(8)", 30).tells("count(9)", 1).tells("count(10)", 200).tells("count(11)", 16).tells("count(12)", 2);
        more.tells("count(13)", 1).then("works(0)").tells("count(8)", 0).tells("count(9)", 0).tells("count(10)", 200);
        more.tells("count(11)", 0).tells("count(12)", 0).tells("count(13)", 1);
    }

    private static long mixed(long before, long... numbers) {
        long d = before;
        for (long x : numbers) {
            d = 31 * d + x;
        }
        return d;
    }

    private static void digest() {
        Edge.promise(48, "D is 17; then for each number x of these, in order, D becomes 31 D + x: TIME; how many GEAR; of "
                + "each its KIND, what told() tells by 2 to 14");
        House h = new House().tells("digest()", mixed(17, 0, 0, 0, 0, 0, 0)).then("gear(9,0) door(0,true)");
        h.tells("digest()", mixed(17, 0, 1, 9, 1, 0, 0, 0, 0, 0, 0, 0, 0, 0, 1, 0, 0, 0, 0, 0, 0));
        // LENGTH and LINKS are not among them, nor is the NUMBER.
        House links = new House("gear(9,0) door(0,true) row:0>0,0,0").tells("digest()", h.ask("digest()"));
        links.then("works(1)").tells("digest()", mixed(17, 0, 0, 0, 0, 0, 0));
        Edge.promise(48, "and of each SLOT the number 0, if it is empty, else two numbers, 16 w + s of its PARCEL (WEIGHT w, "
                + "SIZE s), and its TARGET;");
        House slots = new House("gear(3,8) row:0> come(0,999,9) step()*8 come(0,1,0)");
        slots.tells("digest()", mixed(17, 8, 1, 3, 0, 1, 3, 2, 0, 1, 8, 2, 0, 1, 1, 0, 0, 16, NONE, 0, 0, 0, 0, 0, 0,
                16 * 999 + 9, UNREAD,
                2, 2, 0, 1));
        Edge.promise(48, "how many are INSIDE, came, OUT; how many FINDINGS.");
        House out = new House(Edge.SORTER + " plan(1,2,0,0,0)");
        out.then("come(0,5,5) tag(1,0,0) step()*2 come(0,6,6)");
        out.tells("digest()", mixed(17, 2, 3,
                3, 0, 0, 1, 2, 1, 0, 2, 1, 0, 1, 1, 0, 0, 16 * 6 + 6, NONE,
                7, 0, 0, 1, 1, 1, 0, 2, 0, 0, 1, 1, 0, 0, 0,
                9, 1, 0, 1, 1, 1, 0, 2, 0, 0, 0, 1, 0, 0,
                1, 2, 1, 1));
        House full = new House("gear(2,1) gear(0,1) gear(10,0) gear(8,1) gear(6,1) row:1>0 row:0> row:2>0 release(3,20) "
                + "turn(4,2)");
        full.then("come(1,1,1) step()");
        full.tells("digest()", mixed(17, 1, 5,
                2, 0, 0, 1, 1, 0, 0, 1, 1, 0, 1, 1, 2, 0, 17, NONE,
                0, 0, 0, 1, 1, 1, 0, 1, 0, 0, 1, 1, 0, 0, 0,
                10, 0, 0, 1, 0, 0, 0, 1, 0, 0, 0, 1, 0, 1,
                8, 0, 0, 1, 0, 0, 0, 1, 0, 20, 1, 1, 0, 0, 0,
                6, 2, 0, 1, 0, 0, 0, 1, 0, 0, 3, 1, 0, 0, 0,
                1, 1, 0, 0));
    }
}
