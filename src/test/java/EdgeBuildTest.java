/** The edges of promises 1 to 12, a new object and what builds, each under the words of the document that name it. */
final class EdgeBuildTest {
    private static final int UNKNOWN = Edge.UNKNOWN, OUTSIDE = Edge.OUTSIDE, STATE = Edge.STATE, FULL = Edge.FULL,
            NONE = Edge.NONE, NULL = Edge.NULL, CAST = Edge.CAST, INDEX = Edge.INDEX, SIZE = Edge.SIZE;
    private static final String FORTY = "gear(0,1)*40";
    private static final String ALL_KINDS = Edge.ALL_KINDS;

    /** Seven RULES typed with 194 letters. */
    private static final String RULES_OF_194 = "Q1=1,Q1=1,Q1=1,Q1=1:0001;".repeat(6)
            + "Q1234=1234,Q1234=1234,Q1234=1234,S=0001:001;";

    public static void main(String[] args) {
        newObject();
        works();
        gearOutside();
        gearFull();
        linksRefused();
        linksAreNew();
        linkRefused();
        linkFaults();
        aimRefused();
        aimIsNew();
        rank();
        refitRefused();
        refitAnew();
        refitKeepsNames();
        copyRefused();
        copyOfFull();
        copyAnew();
        letter();
        loadRefused();
        loadRight();
        planOutside();
        planFull();
        planFirstNumbers();
        nothingIsKept();
        refusedKeeps();
        Edge.hasTested("Promise ", 1, 12);
        Check.end();
    }

    private static void newObject() {
        Edge.promise(1, "Three WORKS without GEAR, PARCELS, GROUPS, RULES; WORKS 0 is AT HAND.");
        new House().tells("status()", 0).tells("count(12)", 0).does("works(0)", 0);
        for (int w = 0; w < 3; w++) {
            House h = new House("works(" + w + ")");
            for (int what = 0; what <= 13; what++) {
                h.is("count(" + what + ")", what == 12 ? w : 0);
            }
            h.tells("told(0,0)", UNKNOWN).tells("slot(0,0)", UNKNOWN).tells("parcel(1,0)", UNKNOWN).tells("left(1)", UNKNOWN);
            h.tells("out(0,0)", NONE).tells("rule(0,0)", NONE).tells("said(0)", NONE).tells("unused(0)", NONE);
            h.tells("finding(0,0)", NONE).tells("trace(0)", NONE).tells("jam(0)", NONE).tells("audit()", NONE);
            h.tells("digest()", 17L * 31 * 31 * 31 * 31 * 31 * 31);
            for (int i = 0; i < 4; i++) {
                h.refuses("tally(" + i + ",0)", NULL).refuses("enter(" + i + ",0,0)", UNKNOWN);
            }
            h.refuses("back(1)", STATE).refusesToLoad(-100).does("step()", 1);
        }
    }

    private static void works() {
        Edge.promise(2, "Another WORKS is AT HAND: which one was.");
        House h = new House();
        h.does("works(2)", 0).does("works(1)", 2).does("works(1)", 1).does("works(0)", 1).tells("count(12)", 0);
        Edge.promise(2, "UNKNOWN.");
        House rich = new House("works(1)", ALL_KINDS, "step()");
        for (String w : new String[] {"-1", "3", "MIN", "MAX"}) {
            rich.refuses("works(" + w + ")", UNKNOWN).tells("count(12)", 1);
        }
    }

    private static void gearOutside() {
        Edge.promise(3, "OUTSIDE: kind;");
        House h = new House("gear(0,1)", "step()");
        for (String kind : new String[] {"-1", "11", "MIN", "MAX"}) {
            h.refuses("gear(" + kind + ",1)", OUTSIDE).refuses("gear(" + kind + ",0)", OUTSIDE);
        }
        Edge.promise(3, "a TAKER's length");
        for (int kind = 0; kind <= 8; kind++) {
            House taker = new House();
            for (String length : new String[] {"0", "9", "-1", "MIN", "MAX"}) {
                taker.refuses("gear(" + kind + "," + length + ")", OUTSIDE);
            }
            taker.does("gear(" + kind + ",1)", 0).does("gear(" + kind + ",8)", 1);
            taker.tells("told(0,1)", 1).tells("told(1,1)", 8).tells("told(1,0)", kind);
        }
        Edge.promise(3, "(of others it does not matter)");
        for (int kind = 9; kind <= 10; kind++) {
            House other = new House();
            int number = 0;
            for (String length : new String[] {"MIN", "-1", "0", "1", "8", "9", "MAX"}) {
                other.does("gear(" + kind + "," + length + ")", number).tells("told(" + number + ",1)", 0);
                other.tells("slot(" + number + ",0)", OUTSIDE);
                number++;
            }
        }
    }

    private static void gearFull() {
        Edge.promise(3, "FULL.");
        House h = new House("gear(0,1)*39");
        h.does("gear(8,8)", 39).tells("count(0)", 40);
        for (int kind = 0; kind <= 10; kind++) {
            h.refuses("gear(" + kind + ",1)", FULL);
        }
        h.refuses("gear(0,9)", OUTSIDE).refuses("gear(11,1)", OUTSIDE);
        h.does("works(1)", 0).does("gear(0,1)", 0).does("works(2)", 1).does("copy(0)", 40).refuses("gear(9,0)", FULL);
        House doors = new House("gear(9,0)*39");
        doors.does("gear(10,0)", 39).refuses("gear(9,0)", FULL);
    }

    private static void linksRefused() {
        Edge.promise(4, "UNKNOWN;");
        House h = new House("gear(0,1)", "row:0>0,39", "step()");
        for (String gear : new String[] {"-1", "1", "39", "40", "MIN", "MAX"}) {
            h.refuses("links(" + gear + ",1)", UNKNOWN).refuses("links(" + gear + ",4)", UNKNOWN);
            h.refuses("links(" + gear + ",-2)", UNKNOWN);
        }
        Edge.promise(4, "OUTSIDE: above 3;");
        h.refuses("links(0,4)", OUTSIDE).refuses("links(0,5)", OUTSIDE).refuses("links(0,MAX)", OUTSIDE);
        Edge.promise(4, "SIZE: below -1.");
        h.refuses("links(0,-2)", SIZE).refuses("links(0,-3)", SIZE).refuses("links(0,MIN)", SIZE);
        h.tells("linkOf(0,0)", 1).tells("linkOf(0,1)", 40).tells("told(0,15)", 2);
        House full = new House(FORTY);
        full.does("links(39,3)", 3).refuses("links(40,3)", UNKNOWN);
    }

    private static void linksAreNew() {
        Edge.promise(4, "is a new one of n LINKS (n = -1: NOTHING): n.");
        for (int kind = 0; kind <= 10; kind++) {
            House h = new House("gear(" + kind + ",1)");
            h.tells("told(0,15)", NONE);
            for (int n = 3; n >= -1; n--) {
                h.then("row:0>5,6,7").does("links(0," + n + ")", n).tells("told(0,15)", n == -1 ? NONE : n);
                for (int k = 0; k < 3; k++) {
                    h.tells("linkOf(0," + k + ")", k < n ? 0 : NONE);
                }
            }
            h.does("links(0,3)", 3);
            for (int k = 0; k < 3; k++) {
                h.tells("linkOf(0," + k + ")", 0);
            }
        }
    }

    private static void linkRefused() {
        Edge.promise(5, "UNKNOWN;");
        House h = new House("gear(0,1)", "links(0,2)", "step()");
        for (String gear : new String[] {"-1", "1", "39", "40", "MIN", "MAX"}) {
            h.refuses("link(" + gear + ",0,0)", UNKNOWN).refuses("link(" + gear + ",0,40)", UNKNOWN);
            h.refuses("link(" + gear + ",9,0)", UNKNOWN);
        }
        Edge.promise(5, "OUTSIDE: to is not -1 .. 39;");
        House nothing = new House("gear(0,1)");
        for (String to : new String[] {"-2", "40", "MIN", "MAX"}) {
            h.refuses("link(0,0," + to + ")", OUTSIDE).refuses("link(0,2," + to + ")", OUTSIDE);
            nothing.refuses("link(0,0," + to + ")", OUTSIDE);
        }
        h.does("link(0,0,39)", 1).tells("linkOf(0,0)", 40).does("link(0,0,0)", 1).tells("linkOf(0,0)", 1);
        h.does("link(0,0,-1)", 1).tells("linkOf(0,0)", 0).does("link(0,1,1)", 1).tells("linkOf(0,1)", 2)
                .tells("linkOf(0,0)", 0);
    }

    private static void linkFaults() {
        Edge.promise(5, "NULL, INDEX (its ROW).");
        House h = new House("gear(9,0)", "step()");
        for (String k : new String[] {"0", "2", "3", "-1", "MIN", "MAX"}) {
            h.refuses("link(0," + k + ",0)", NULL);
        }
        for (int n = 0; n <= 3; n++) {
            House row = new House("gear(0,1)", "links(0," + n + ")", "step()");
            for (String k : new String[] {"-1", "" + n, "3", "MIN", "MAX"}) {
                row.refuses("link(0," + k + ",0)", INDEX);
            }
            for (int k = 0; k < n; k++) {
                row.does("link(0," + k + "," + (37 + k) + ")", 1).tells("linkOf(0," + k + ")", 38 + k);
            }
        }
        h.then("links(0,1)").does("link(0,0,0)", 1).then("links(0,-1)").refuses("link(0,0,0)", NULL);
    }

    private static void aimRefused() {
        House h = new House(ALL_KINDS, "aim(5,1,7,true) aim(6,1,8,true) aim(6,2,7,true) step()");
        Edge.promise(6, "UNKNOWN;");
        for (String gear : new String[] {"-1", "11", "40", "MIN", "MAX"}) {
            h.refuses("aim(" + gear + ",1,0,true)", UNKNOWN).refuses("aim(" + gear + ",0,40,true)", UNKNOWN);
        }
        Edge.promise(6, "OUTSIDE: side is not 1, 2, target not 0 .. 39;");
        for (String side : new String[] {"0", "3", "-1", "MIN", "MAX"}) {
            h.refuses("aim(6," + side + ",7,false)", OUTSIDE).refuses("aim(0," + side + ",0,true)", OUTSIDE);
        }
        for (String target : new String[] {"-1", "40", "64", "MIN", "MAX"}) {
            h.refuses("aim(6,1," + target + ",true)", OUTSIDE).refuses("aim(0,1," + target + ",true)", OUTSIDE);
            h.refuses("aim(5,2," + target + ",true)", OUTSIDE);
        }
        Edge.promise(6, "CAST: no DIVERT;");
        House kinds = new House(ALL_KINDS, "step()");
        for (int gear = 0; gear <= 10; gear++) {
            if (gear != 5 && gear != 6) {
                kinds.refuses("aim(" + gear + ",1,0,true)", CAST).refuses("aim(" + gear + ",2,39,false)", CAST);
            }
        }
        Edge.promise(6, "INDEX: it has no such SIDE.");
        kinds.refuses("aim(5,2,0,true)", INDEX).refuses("aim(5,2,39,false)", INDEX);
        kinds.does("aim(6,2,0,true)", 1).does("aim(5,1,0,true)", 1);
    }

    private static void aimIsNew() {
        Edge.promise(6, "whether that is new (1, 0).");
        House h = new House("gear(5,1) gear(6,1)");
        for (int target : new int[] {0, 1, 31, 32, 33, 38, 39}) {
            h.does("aim(1,2," + target + ",false)", 0).does("aim(1,2," + target + ",true)", 1);
            h.does("aim(1,2," + target + ",true)", 0).does("aim(1,1," + target + ",false)", 0);
            h.does("aim(0,1," + target + ",false)", 0);
        }
        for (int target : new int[] {39, 38, 33, 32, 31, 1, 0}) {
            h.does("aim(1,2," + target + ",false)", 1).does("aim(1,2," + target + ",false)", 0);
        }
        for (int target = 0; target < 40; target++) {
            h.is("aim(0,1," + target + ",true)", 1);
        }
        for (int target = 0; target < 40; target++) {
            h.is("aim(0,1," + target + ",false)", 1);
        }
    }

    private static void rank() {
        House h = new House(ALL_KINDS, "step()");
        Edge.promise(7, "UNKNOWN;");
        for (String gear : new String[] {"-1", "11", "40", "MIN", "MAX"}) {
            h.refuses("rank(" + gear + ",1)", UNKNOWN).refuses("rank(" + gear + ",10)", UNKNOWN);
        }
        Edge.promise(7, "OUTSIDE;");
        for (String rank : new String[] {"-1", "10", "MIN", "MAX"}) {
            h.refuses("rank(0," + rank + ")", OUTSIDE).refuses("rank(9," + rank + ")", OUTSIDE);
            h.refuses("rank(10," + rank + ")", OUTSIDE);
        }
        Edge.promise(7, "CAST: no TAKER.");
        h.refuses("rank(9,0)", CAST).refuses("rank(9,9)", CAST).refuses("rank(10,0)", CAST).refuses("rank(10,9)", CAST);
        Edge.promise(7, "Another RANK: the one before.");
        int[] first = {1, 2, 1, 1, 4, 3, 3, 1, 1};
        for (int gear = 0; gear <= 8; gear++) {
            h.does("rank(" + gear + ",0)", first[gear]).does("rank(" + gear + ",9)", 0).does("rank(" + gear + ",9)", 9);
            h.tells("told(" + gear + ",11)", 9);
        }
        h.tells("told(9,11)", 0).tells("told(10,11)", 0);
    }

    private static void refitRefused() {
        House h = new House(ALL_KINDS, "come(0,1,1) come(1,1,1) step()");
        Edge.promise(8, "UNKNOWN;");
        for (String gear : new String[] {"-1", "11", "40", "MIN", "MAX"}) {
            h.refuses("refit(" + gear + ",0)", UNKNOWN).refuses("refit(" + gear + ",11)", UNKNOWN);
        }
        Edge.promise(8, "OUTSIDE;");
        for (String kind : new String[] {"-1", "11", "MIN", "MAX"}) {
            h.refuses("refit(0," + kind + ")", OUTSIDE).refuses("refit(2," + kind + ")", OUTSIDE);
            h.refuses("refit(9," + kind + ")", OUTSIDE);
        }
        Edge.promise(8, "CAST: just one of both KINDS is one of TAKERS;");
        for (int kind = 0; kind <= 8; kind++) {
            h.refuses("refit(9," + kind + ")", CAST).refuses("refit(" + kind + ",9)", CAST)
                    .refuses("refit(" + kind + ",10)", CAST);
        }
        h.refuses("refit(10,8)", CAST).refuses("refit(10,0)", CAST);
        Edge.promise(8, "STATE: its LOAD is above 0.");
        // By now the PARCEL of BELT 0 is in its last SLOT, that of CURVE 1 in SLOT 0.
        h.slots(0, 0, 1).slots(1, 2, 0);
        for (int kind = 0; kind <= 8; kind++) {
            h.refuses("refit(0," + kind + ")", STATE).refuses("refit(1," + kind + ")", STATE);
        }
        h.then("carry(1,2)").does("refit(0,8)", 0).refuses("refit(2,2)", STATE);
    }

    private static void refitAnew() {
        Edge.promise(8, "(or the same one), as if it came now, with its LENGTH and LINKS");
        int[] ranks = {1, 2, 1, 1, 4, 3, 3, 1, 1, 0, 0};
        int[] paces = {1, 2, 1, 1, 2, 1, 1, 1, 1, 1, 1};
        for (int from = 0; from <= 10; from++) {
            for (int to = from <= 8 ? 0 : 9; to <= (from <= 8 ? 8 : 10); to++) {
                House h = new House("gear(" + from + ",3) gear(0,3)", "row:0>1,-1,39", "step()*2");
                h.then(from <= 8 ? "rank(0,9)" : "door(0,true)");
                h.does("refit(0," + to + ")", from);
                h.isTold(0, 0, to, from <= 8 ? 3 : 0, 0, 0, 0, 0, 0, 0, 0, 0, 0, ranks[to], paces[to], 0, 0, 3);
                h.is("linkOf(0,0)", 2).is("linkOf(0,1)", 0).is("linkOf(0,2)", 40);
            }
        }
        House worn = new House("gear(8,1) gear(2,1) gear(6,1) gear(10,0) gear(0,2)", "row:4>1", "row:3>1", "row:1>1");
        worn.then("release(0,20) turn(2,2) aim(2,1,39,true) aim(2,2,0,true) come(4,1,1) step()*3 links(3,-1) step()");
        worn.isTold(1, 13, 5).isTold(0, 10, 20).isTold(2, 2, 2).isTold(3, 4, 3).isTold(3, 14, 1).isTold(1, 3, 2)
                .isTold(1, 5, 1);
        worn.then("carry(1,4)");
        for (int gear = 0; gear < 4; gear++) {
            worn.does("refit(" + gear + "," + new int[] {8, 2, 6, 10}[gear] + ")", new int[] {8, 2, 6, 10}[gear]);
            worn.isTold(gear, 2, 0, 0, 0, 0, 0, 0, 0, 0, 0).isTold(gear, 13, 0, 0);
        }
        worn.does("aim(2,1,39,false)", 0).does("aim(2,2,0,false)", 0);
    }

    private static void refitKeepsNames() {
        Edge.promise(8, "(LASTS of others, PLANS name its number as they did)");
        House h = new House("gear(0,1) gear(0,1) gear(2,1) gear(0,8) gear(9,0)", "row:0>2", "row:1>2", "row:2>3");
        h.then("come(0,1,1) plan(4,4,0,4,1) plan(4,5,2,1,7) step()");
        h.tells("told(2,13)", 1).does("refit(0,4)", 0).tells("told(2,13)", 1);
        h.does("refit(4,10)", 9).does("refit(1,8)", 0).tells("count(11)", 2).then("step()*3");
        h.isRow("finding", 1, 4, NONE, 5, 2, 0).then("step()").tells("told(1,10)", 7);
    }

    private static void copyRefused() {
        Edge.promise(9, "UNKNOWN;");
        House h = new House("gear(0,1) step() works(1) load::1; step()");
        House has = new House("gear(0,1) step()");
        for (String w : new String[] {"-1", "3", "MIN", "MAX"}) {
            h.refuses("copy(" + w + ")", UNKNOWN);
            has.refuses("copy(" + w + ")", UNKNOWN);
        }
        Edge.promise(9, "STATE: it has GEAR.");
        for (int w = 0; w < 3; w++) {
            has.refuses("copy(" + w + ")", STATE);
        }
        House door = new House("works(2) gear(9,0) step()");
        door.refuses("copy(0)", STATE).refuses("copy(2)", STATE);
    }

    private static void copyOfFull() {
        Edge.promise(9, "how many GEAR.");
        StringBuilder rules = new StringBuilder();
        for (int k = 0; k < 12; k++) {
            rules.append("D=").append(k).append(':').append(k).append(';');
        }
        House h = new House("gear(0,1)*39 gear(6,8)", "row:39>0,1,39", "aim(39,2,39,true) rank(39,9)", "load:" + rules);
        h.then("plan(4,1,2,2,2)*15 plan(1,9999,0,0,0) works(2)").does("copy(0)", 40);
        h.tells("count(0)", 40).tells("count(4)", 12).tells("count(11)", 16).refuses("plan(1,1,0,0,0)", FULL);
        h.isTold(39, 0, 6, 8).isTold(39, 11, 9).tells("linkOf(39,2)", 40).does("aim(39,2,39,true)", 0);
        h.tells("rule(11,0)", 11).tells("rule(12,0)", NONE).tells("said(" + (rules.length() - 1) + ")", ';');
        h.tells("said(" + rules.length() + ")", NONE).does("step()", 1).tells("count(6)", 15);

        Edge.promise(9, "(or itself)");
        House own = new House("load:D=1:1;:2; plan(2,1,0,0,0) step()");
        own.does("copy(0)", 0).tells("count(4)", 2).tells("said(0)", 'D').tells("count(11)", 1).tells("count(5)", 1);
        Edge.promise(9, "and its RULES (not USED) and PLANS in place of its own;");
        own.does("copy(1)", 0).tells("count(4)", 0).tells("said(0)", NONE).tells("count(11)", 0).tells("count(5)", 1);
        House used = new House("gear(3,1)", "load:D=1:5;:6;", "come(0,1,1) tag(1,0,1) step()");
        used.tells("rule(0,2)", 1).then("works(1) load::1;:2;:3; plan(1,1,0,0,0)").does("copy(0)", 1);
        used.tells("rule(0,2)", 0).tells("unused(0)", 0).tells("unused(1)", 1).tells("unused(2)", NONE).tells("count(11)", 0);
        used.then("works(0)").tells("rule(0,2)", 1);
        House plans = new House("gear(8,1) plan(4,1,2,0,9) plan(3,1,2,0,5) works(1) plan(1,1,2,0,9) plan(4,1,2,0,5)");
        plans.does("copy(0)", 1).does("step()", 1).tells("told(0,10)", 9).tells("count(6)", 1).tells("finding(0,4)", 1);
        plans.does("plan(4,2,2,0,3)", 2).then("works(0)").tells("count(11)", 2);
    }

    private static void copyAnew() {
        Edge.promise(9, "all else of GEAR as if it came now (TIME and all else of the WORKS stay)");
        House h = new House("gear(6,2) gear(9,0) gear(8,1) gear(2,1) gear(0,1) gear(10,0)", "row:4>3", "row:5>3", "row:3>");
        h.then("turn(0,2) door(1,true) release(2,20) come(4,1,1) come(0,2,2) step()*2 carry(1,4) step()");
        h.isTold(3, 13, 5).isTold(5, 14, 1).isTold(0, 2, 2).isTold(1, 2, 1).isTold(2, 10, 20);
        h.then("works(1) step()*3 group(0,0,1)").does("copy(0)", 6).tells("count(5)", 3).tells("count(9)", 0);
        int[] kinds = {6, 9, 8, 2, 0, 10};
        int[] lengths = {2, 0, 1, 1, 1, 0};
        int[] ranks = {3, 0, 1, 1, 1, 0};
        int[] rows = {NONE, NONE, NONE, 0, 1, 1};
        for (int g = 0; g < 6; g++) {
            h.isTold(g, 0, kinds[g], lengths[g], g == 1 ? 1 : 0, 0, 0, 0, 0, 0, 0, 0, 0, ranks[g], 1, 0, 0, rows[g]);
        }
        h.tells("count(1)", 0).tells("count(13)", 2).does("enter(0,0,5)", 1);
        Edge.promise(9, "LINKS (ROWS of its own)");
        h.does("link(4,0,0)", 1).then("works(0)").tells("linkOf(4,0)", 4).does("links(4,-1)", -1).then("works(1)");
        h.tells("linkOf(4,0)", 1).does("aim(0,1,9,true)", 1).then("works(0)").does("aim(0,1,9,true)", 1);
    }

    private static void letter() {
        Edge.promise(10, "OUTSIDE: not 33 .. 126;");
        House h = new House("gear(0,1) step()");
        for (String c : new String[] {"32", "127", "0", "-1", "289", "MIN", "MAX"}) {
            h.refuses("letter(" + c + ")", OUTSIDE);
        }
        h.does("letter(33)", 1).does("letter(126)", 2);
        Edge.promise(10, "(the house has one row of them)");
        h.then("works(1)").does("letter(58)", 3).then("works(2)").tells("count(10)", 3).does("letter(58)", 4);
        Edge.promise(10, "FULL: 200.");
        House full = new House("letter(58)*100 works(1) letter(58)*99");
        full.does("letter(126)", 200).refuses("letter(58)", FULL).refuses("letter(33)", FULL).refuses("letter(32)", OUTSIDE);
        full.refuses("letter(127)", OUTSIDE).tells("count(10)", 200).then("works(2)").refuses("letter(58)", FULL);
        full.refusesToLoad(-101).does("letter(58)", 1);
    }

    private static void loadRefused() {
        Edge.promise(11, "-100 less the place where they are not (the RULES stay, and what is KEPT).");
        House h = new House("gear(3,1)", "load:D=1:1;:2;", "come(0,1,1) tag(1,0,1) step()*2");
        h.refusesToLoad(-100).then("type::3").refusesToLoad(-102).then("type:x").refusesToLoad(-100);
        h.then("type::40;").refusesToLoad(-101).tells("count(4)", 2).tells("rule(0,2)", 1).tells("count(8)", 2);
        h.tells("said(0)", 'D').tells("said(8)", ';').tells("said(9)", NONE).does("back(2)", 0);
        String[] tails = {"", "D", "D=1:", ":00391", "D=0001", "D=001:", ":0040;", "Q1:00x"};
        int[] places = {-1, 195, 198, 199, 200, 200, 195, 196};
        for (int i = 0; i < tails.length; i++) {
            House wide = new House("type:" + RULES_OF_194 + tails[i]).is("count(10)", 194 + tails[i].length());
            if (places[i] >= 0) {
                wide.refusesToLoad(-100 - places[i]);
            } else {
                wide.does("load()", 7);
            }
        }
        new House("type:" + RULES_OF_194 + ":0039;").is("count(10)", 200).does("load()", 8).tells("rule(7,0)", 39);
    }

    private static void loadRight() {
        Edge.promise(11, "The letters (which are none then, whatever is answered) are RULES, in place of those that were: "
                + "how many;");
        House h = new House("load::1;:2;:3; step()");
        h.then("type::4;").does("load()", 1).tells("count(4)", 1).tells("rule(0,0)", 4).tells("rule(1,0)", NONE);
        h.tells("said(0)", ':').tells("said(1)", '4').tells("said(2)", ';').tells("said(3)", NONE);
        h.tells("count(10)", 0).tells("count(8)", 0).refusesToLoad(-100).tells("count(4)", 1);
        h.then("type::0;:0;:0;:0;:0;:0;:0;:0;:0;:0;:0;:39;").does("load()", 12).tells("rule(11,0)", 39);
        h.then("works(1)").tells("count(4)", 0);
        House used = new House("gear(3,1) load:D=1,W=1:5; come(0,1,1) tag(1,0,1) step()").tells("rule(0,2)", 1);
        used.then("type::5;").does("load()", 1).tells("rule(0,2)", 0).tells("rule(0,1)", 0).tells("unused(0)", 0);
    }

    private static void planOutside() {
        Edge.promise(12, "OUTSIDE: n is not 1 .. 4, t not 0 .. 9999;");
        House h = new House("gear(9,0) plan(4,1,0,0,1) step()");
        for (String n : new String[] {"0", "5", "-1", "MIN", "MAX"}) {
            h.refuses("plan(" + n + ",2,0,0,0)", OUTSIDE);
        }
        for (String t : new String[] {"-1", "10000", "MIN", "MAX"}) {
            h.refuses("plan(4," + t + ",0,0,0)", OUTSIDE).refuses("plan(1," + t + ",0,0,0)", OUTSIDE);
        }
        h.does("plan(1,0,0,0,0)", 1).does("plan(4,9999,MAX,MIN,MAX)", 2).does("plan(4,0,MIN,MAX,MIN)", 3);
        h.does("plan(1,9999,MIN,MIN,MIN)", 4).tells("count(11)", 5);
    }

    private static void planFull() {
        Edge.promise(12, "FULL: 16.");
        House h = new House("plan(4,9,0,0,0)*15 step()");
        h.does("plan(4,9,0,0,0)", 15).refuses("plan(4,9,0,0,0)", FULL).refuses("plan(1,0,0,0,0)", FULL);
        h.refuses("plan(0,9,0,0,0)", OUTSIDE).refuses("plan(4,10000,0,0,0)", OUTSIDE).tells("count(11)", 16);
        h.then("works(1)").does("plan(4,9,0,0,0)", 0);
    }

    private static void planFirstNumbers() {
        Edge.promise(12, "A PLAN more, of the first n of these numbers: its number.");
        for (int n = 1; n <= 4; n++) {
            House h = new House("gear(8,1)").does("plan(" + n + ",1,2,0,9)", 0).does("step()", 1);
            h.tells("told(0,10)", n == 4 ? 9 : 0).tells("count(6)", n == 4 ? 0 : 1);
            if (n < 4) {
                h.isRow("finding", 0, 1, NONE, 5, 3, 0);
            }
        }
    }

    /** Each call that builds, also where all is as it was before it, in a house whose three WORKS have two STEPS KEPT. */
    private static void nothingIsKept() {
        Edge.part(6, "with each of these (but letter(), and what is refused or meets a FAULT) nothing is KEPT any more of "
                + "the WORKS AT HAND");
        String built = "gear(5,1) row:0>0 rank(0,3) load::1; step()*2 works(1) step()*2 works(2) step()*2";
        String calls = "gear(9,0) gear(0,8) links(0,1) links(0,-1) link(0,0,0) link(0,0,-1) aim(0,1,5,true) aim(0,1,5,false)"
                + " rank(0,3) rank(0,9) refit(0,5) refit(0,0) plan(1,0,0,0,0)";
        for (String call : calls.split(" ")) {
            House h = new House(built, "works(0)").tells("count(8)", 2).then(call).tells("status()", 0).tells("count(8)", 0);
            h.refuses("back(1)", STATE).then("works(1)").tells("count(8)", 2).then("works(2)").tells("count(8)", 2);
            h.then("works(0) step()").tells("count(8)", 1).does("back(1)", 2);
        }
        House load = new House(built, "works(0) type::1;").tells("count(8)", 2).does("load()", 1).tells("count(8)", 0);
        load.then("works(1)").tells("count(8)", 2);
        for (int w = 0; w < 3; w++) {
            House copy = new House(built).tells("count(8)", 2).then("copy(" + w + ")").tells("status()", 0)
                    .tells("count(8)", 0);
            copy.refuses("back(1)", STATE).then("works(1)").tells("count(8)", 2).then("works(0)").tells("count(8)", 2);
        }
        House letter = new House(built, "works(0)").does("letter(58)", 1).tells("count(8)", 2).does("back(2)", 0);
        letter.does("letter(58)", 2);
    }

    /** refuses() asks by back() for all that is KEPT; here what is done by hand is seen to leave it, too. */
    private static void refusedKeeps() {
        Edge.part(6, "what is refused or meets a FAULT");
        House h = new House("gear(5,1) gear(9,0) gear(0,1) links(0,1) step()*2");
        String calls = "gear(11,1) links(0,4) links(0,-2) link(0,1,0) link(2,0,0) aim(0,2,0,true) aim(2,1,0,true) rank(0,10)"
                + " rank(1,1) refit(0,9) refit(0,11) copy(0) copy(3) load() plan(0,0,0,0,0)";
        for (String call : calls.split(" ")) {
            h.then(call).is("count(8)", 2);
        }
        h.does("back(2)", 0);
        House hands = new House("gear(5,1) gear(9,0) gear(0,1) gear(8,1) step()*2");
        String byHand = "come(2,1,1) label(1,12) put(1,0,65) tag(1,0,1) door(1,true) turn(0,1) release(3,20) carry(1,0)"
                + " group(0,0,1) enter(0,0,0) tally(0,0) works(0)";
        for (String call : byHand.split(" ")) {
            hands.then(call).is("status()", 0).is("count(8)", 2);
        }
        hands.does("back(2)", 0);
    }
}
