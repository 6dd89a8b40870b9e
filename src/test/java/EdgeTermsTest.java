import java.math.BigInteger;

/** The edges of 'What it is' and of 'Terms' but its parts 3 and 4, each under the words of the document that name it. */
final class EdgeTermsTest {
    private static final int UNKNOWN = Edge.UNKNOWN, OUTSIDE = Edge.OUTSIDE, STATE = Edge.STATE, FULL = Edge.FULL,
            UNREAD = Edge.UNREAD, NONE = Edge.NONE, NULL = Edge.NULL, CAST = Edge.CAST, INDEX = Edge.INDEX,
            STORE = Edge.STORE, SIZE = Edge.SIZE;
    /** FAULTS as FINDINGS tell them. */
    private static final int NULL_FOUND = 1, INDEX_FOUND = 3, ZERO_FOUND = 6;
    private static final String ALL_KINDS = Edge.ALL_KINDS;
    private static final String RICH = Edge.RICH;

    public static void main(String[] args) {
        lastCalls();
        cutTowardZero();
        intsAndLongsWrap();
        firstThatFits();
        changesNothing();
        answersOfFaults();
        caughtAtThatAct();
        ownWorks();
        fortyGear();
        kinds();
        slotsAndLoads();
        linksAtFirst();
        followed();
        pacesAndRanks();
        sides();
        wants();
        firsts();
        groupsAtFirst();
        numbersOfTheHouse();
        parcelsAtFirst();
        ways();
        inside();
        labelLacks();
        labelFormA();
        labelFormB();
        labelOthers();
        waysAhead();
        keptGoesBack();
        keptCounts();
        outsKept();
        Edge.hasTested("Part ", 1, 2);
        Edge.hasTested("Part ", 5, 6);
        Check.end();
    }

    // ---- What it is

    private static void lastCalls() {
        Edge.says("What it is", "An object is used for at most 512 calls after it has been made");
        new House("count(0)*511").is("gear(9,0)", 0);
        new House("gear(0,8) row:0>0 night(1,20)*508").is("count(5)", 10160);
        new House("gear(0,1)*40 step()*471").is("count(5)", 471);
        new House("letter(58)*200 load() letter(58)*200 load() letter(58)*109").is("count(10)", 109);
        new House("gear(3,8) gear(7,8) gear(9,0) row:0>1 row:1>2 load::1; door(2,true)", "night(7,20)*499").is("audit()", NONE);
    }

    // ---- Terms

    /** LOAD / DOORS as a RULE of SCANNER 0 comes to it, which acts ahead of CHUTE 1; DOORS are 2, 3, 4. */
    private static void quotient(int load, int doors, int want) {
        House h = new House("gear(3,1) gear(7,8) gear(9,0) gear(9,0) gear(9,0) row:0>1 row:1>2,3,4 load::1;");
        for (int p = 1; p <= load; p++) {
            h.then("come(0,1,1) tag(" + p + ",0,0) step()*2");
        }
        h.then("load:Q1=" + want + ":9;:8;").tells("told(1,9)", load);
        for (int d = 0; d < doors; d++) {
            h.then("door(" + (2 + d) + ",true)");
        }
        int parcel = load + 1;
        h.then("come(0,1,1) tag(" + parcel + ",0,0) step()").tells("parcel(" + parcel + ",4)", 9);
    }

    private static void cutTowardZero() {
        Edge.says("Terms", "x / y is cut toward 0;");
        quotient(0, 1, 0);
        quotient(0, 3, 0);
        quotient(1, 1, 1);
        quotient(1, 2, 0);
        quotient(2, 3, 0);
        quotient(3, 2, 1);
        quotient(3, 3, 1);
        quotient(5, 3, 1);
        quotient(6, 3, 2);
        quotient(8, 3, 2);
        quotient(8, 1, 8);
    }

    private static void intsAndLongsWrap() {
        Edge.says("Terms", "ints and longs wrap.");
        for (int seed : new int[] {Integer.MIN_VALUE, Integer.MAX_VALUE, -1, 0, 1, 1103515245}) {
            House h = new House("gear(0,1)").does("night(" + seed + ",1)", 1);
            int x = BigInteger.valueOf(seed).multiply(BigInteger.valueOf(1103515245)).add(BigInteger.valueOf(12345)).intValue();
            h.tells("parcel(1,2)", 1 + (x >>> 16) % 200).tells("parcel(1,3)", (x >>> 16) / 200 % 10);
        }
        // 40 GEAR have 600 numbers: 31 to that power is far beyond a long.
        House h = new House("gear(0,1)*40 come(0,999,9) step()");
        BigInteger d = BigInteger.valueOf(17);
        d = mixed(d, 1, 40, 0, 0, 1, 3, 1, 0, 1, 1, 1, 0, 1, 1, 0, 0, 16 * 999 + 9, NONE);
        for (int g = 1; g < 40; g++) {
            d = mixed(d, 0, 0, 0, 1, 0, 0, 0, 1, 0, 0, 1, 1, 0, 0, 0);
        }
        h.tells("digest()", mixed(d, 1, 1, 0, 1).longValue());
    }

    private static BigInteger mixed(BigInteger before, long... numbers) {
        BigInteger d = before;
        for (long x : numbers) {
            d = d.multiply(BigInteger.valueOf(31)).add(BigInteger.valueOf(x));
        }
        return d;
    }

    private static void firstThatFits() {
        Edge.says("Terms", "REFUSALS, the first that fits: UNKNOWN (there is no such WORKS, GEAR, GROUP, or no such PARCEL "
                + "INSIDE the WORKS AT HAND, but for left()), OUTSIDE (another number is not as told), then FAULTS, STATE (as "
                + "told), FULL;");
        StringBuilder come = new StringBuilder();
        for (int g = 0; g < 30; g++) {
            come.append("come(").append(g).append(",1,1) ");
        }
        House h = new House("gear(0,1)*31 gear(9,0) gear(7,1)", come.toString());
        h.refuses("come(33,0,10)", UNKNOWN).refuses("come(31,0,10)", OUTSIDE).refuses("come(31,1,9)", CAST);
        h.refuses("come(32,1,9)", STATE).refuses("come(0,1,9)", STATE).refuses("come(30,1,9)", FULL);
        House aim = new House("gear(0,1) gear(5,1)").refuses("aim(2,3,40,true)", UNKNOWN).refuses("aim(0,3,0,true)", OUTSIDE);
        aim.refuses("aim(0,2,40,true)", OUTSIDE).refuses("aim(0,2,0,true)", CAST).refuses("aim(1,2,0,true)", INDEX);
        House group = new House("gear(9,0)").refuses("group(4,4,-1)", UNKNOWN).refuses("group(0,4,-1)", OUTSIDE);
        group.refuses("group(0,3,-1)", SIZE).refuses("enter(0,9,1)", UNKNOWN).refuses("enter(0,9,0)", NULL)
                .then("group(0,1,1)");
        group.refuses("enter(0,1,0)", INDEX).refuses("enter(0,0,0)", STORE);
        House turn = new House("gear(0,1) gear(5,1) come(1,1,1)").refuses("turn(2,2)", UNKNOWN).refuses("turn(0,2)", CAST);
        turn.refuses("turn(1,2)", INDEX).refuses("turn(1,1)", STATE).refuses("refit(1,11)", OUTSIDE)
                .refuses("refit(1,9)", CAST);
        turn.refuses("refit(1,8)", STATE).refuses("clear(2)", UNKNOWN).refuses("clear(1)", STATE);
    }

    private static void refusedEach(int answer, String calls) {
        for (String call : calls.split(" ")) {
            new House(RICH).refuses(call, answer);
        }
    }

    private static void changesNothing() {
        Edge.says("Terms", "they change nothing (but status(), and a FAULT how many there were).");
        refusedEach(UNKNOWN, "works(3) copy(3) label(99,1) put(99,0,1)");
        refusedEach(OUTSIDE, "gear(11,1) gear(0,9) links(0,4) link(0,0,40) aim(6,3,0,true) rank(0,10) refit(5,11) letter(32)"
                + " plan(5,1,0,0,0) come(2,1000,0) label(1,13) tag(1,2,1) tag(1,0,100) release(8,21) group(0,4,1) tally(0,3)"
                + " night(1,0) night(1,21) back(0) back(31)");
        refusedEach(NULL, "link(9,0,1) enter(3,0,0) tally(3,0) tally(1,0)");
        refusedEach(CAST, "aim(0,1,0,true) rank(9,9) refit(5,9) come(9,1,1) door(0,true) door(10,false) turn(2,0)"
                + " release(7,1) clear(9) carry(1,9)");
        refusedEach(INDEX, "link(0,1,1) aim(5,2,7,true) put(1,12,1) turn(5,2) enter(0,2,0)");
        refusedEach(STORE, "enter(1,0,9)");
        refusedEach(SIZE, "links(0,-2) label(1,-2) group(0,0,-1)");
        refusedEach(STATE, "copy(1) come(8,1,1) come(1,1,1) clear(1) carry(1,1) carry(1,7) back(10)");
        new House(RICH).refusesToLoad(-103);
    }

    private static void answersOfFaults() {
        Edge.says("Terms", "FAULTS are the machine's: 1 NULL (nothing is there), 2 CAST (it is of another kind), 3 INDEX, 4 "
                + "STORE, 5 SIZE (a count below 0), 6 ZERO; a call that comes to one answers -10 less it.");
        House h = new House("gear(0,1) gear(9,0) come(0,1,1)").refuses("link(0,0,0)", -11).refuses("put(1,0,0)", -11);
        h.refuses("enter(0,0,0)", -11).refuses("tally(0,0)", -11).refuses("door(0,true)", -12).refuses("clear(1)", -12);
        h.then("links(0,0) label(1,0) group(0,1,1)").refuses("link(0,0,0)", -13).refuses("put(1,0,0)", -13);
        h.refuses("enter(0,1,0)", -13).refuses("enter(0,0,1)", -14).refuses("links(0,-2)", -15).refuses("label(1,-2)", -15);
        h.refuses("group(0,1,-1)", -15).tells("count(7)", 13).tells("count(6)", 0);
        House zero = new House("gear(3,1) gear(7,1) load:Q1=0:1; come(0,1,1) tag(1,0,0) step()");
        zero.isRow("finding", 1, 1, 0, 3, ZERO_FOUND, 0).tells("count(7)", 2);
    }

    private static void caughtAtThatAct() {
        Edge.says("Terms", "What the machine itself has against an act is caught at that act, by its kind, and told.");
        // Of each act one that comes to a FAULT, with others ahead of it and behind it that are done all the same.
        House h = new House("gear(9,0) gear(3,1) gear(0,1) gear(0,1) gear(10,0) gear(10,0) gear(0,2) row:3>2 row:4>7 row:5>6 "
                + "row:1>");
        h.then("plan(4,1,0,0,1) plan(4,1,0,1,1) plan(4,1,0,0,0) load:Q0=1:3;:39; come(1,1,1) tag(1,0,0) come(3,1,1) "
                + "come(6,1,1) step()");
        h.isRow("finding", 3, 1, NONE, 5, 2, 1).isRow("finding", 2, 1, 1, 3, 2, 0).isRow("finding", 1, 1, 1, 1, 3, 1);
        h.isRow("finding", 0, 1, 4, 4, 1, 0).tells("count(6)", 4).tells("count(7)", 4).tells("parcel(1,4)", 39)
                .tells("told(0,2)", 0);
        h.slots(2, 2).slots(6, 0, 3).tells("told(5,14)", 1).tells("told(4,14)", 0);
        for (int g = 0; g <= 6; g++) {
            h.tells("told(" + g + ",8)", 1).tells("told(" + g + ",4)", g == 0 ? 0 : g == 1 || g == 4 ? 3 : 1);
        }
        Edge.says("Terms", "NONE is -9, UNREAD -8.");
        Check.due("NONE", SortWorks.NONE, -9);
        Check.due("UNREAD", SortWorks.UNREAD, -8);
        Check.due("UNKNOWN", SortWorks.UNKNOWN, -1);
        Check.due("OUTSIDE", SortWorks.OUTSIDE, -2);
        Check.due("STATE", SortWorks.STATE, -3);
        Check.due("FULL", SortWorks.FULL, -4);
    }

    // ---- part 1

    private static void fortyGear() {
        Edge.part(1, "GEAR 0, 1, .. (40 at most), as it comes, is of a KIND: 0 BELT, 1 CURVE, 2 MERGE, 3 SCANNER, 4 SCALE, 5 "
                + "DIVERT, 6 CROSS, 7 CHUTE, 8 HOLD, 9 DOOR, 10 PANEL.");
        House h = new House();
        for (int g = 0; g < 40; g++) {
            h.is("gear(" + g % 11 + ",1)", g).is("count(0)", g + 1);
        }
        h.refuses("gear(0,1)", FULL).tells("told(39,0)", 39 % 11).tells("told(40,0)", UNKNOWN);
        Edge.part(1, "and all that is told is of that one");
        h.then("works(1)").tells("told(0,0)", UNKNOWN).tells("count(0)", 0).tells("far(0,0)", UNKNOWN).tells("reach(0)", 0);
    }

    /** By what each KIND is refused: whoever is one of TAKERS has a RANK, and so on. */
    private static void kinds() {
        Edge.part(1, "BELTS are KINDS 0 to 4, SCANNERS 3 and 4, DIVERTS 5 and 6, CHUTES 7 and 8. TAKERS are KINDS 0 to 8");
        House h = new House(ALL_KINDS, "group(1,1,1) group(2,2,1) group(3,3,1)");
        for (int g = 0; g <= 10; g++) {
            h.is("rank(" + g + ",5)", g <= 8 ? new int[] {1, 2, 1, 1, 4, 3, 3, 1, 1}[g] : CAST);
            h.is("enter(1,0," + g + ")", g <= 4 ? 1 : STORE).is("enter(2,0," + g + ")", g == 3 || g == 4 ? 1 : STORE);
            h.is("enter(3,0," + g + ")", g == 7 || g == 8 ? 1 : STORE).is("turn(" + g + ",0)", g == 5 || g == 6 ? 0 : CAST);
            h.is("door(" + g + ",false)", g == 9 ? 0 : CAST).is("release(" + g + ",0)", g == 8 ? 0 : CAST);
            h.is("come(" + g + ",1,1)", g <= 6 ? g + 1 : g <= 8 ? STATE : CAST);
        }
    }

    private static void ownWorks() {
        Edge.part(1, "GEAR. There are WORKS 0, 1, 2, each with GEAR, PARCELS, GROUPS, RULES, PLANS, a TIME (0 at first) of its "
                + "own; one is AT HAND (0 at first)");
        House h = new House().tells("count(12)", 0).tells("count(5)", 0);
        h.then("gear(0,1) come(0,1,1) group(0,0,0) load::1; plan(1,1,0,0,0) step()");
        for (int w : new int[] {1, 2}) {
            h.then("works(" + w + ")");
            for (int what : new int[] {0, 1, 2, 3, 4, 5, 6, 8, 9, 11}) {
                h.is("count(" + what + ")", 0);
            }
            h.refuses("tally(0,0)", NULL).tells("said(0)", NONE).tells("parcel(1,0)", UNKNOWN).tells("finding(0,0)", NONE);
            h.refuses("label(1,1)", UNKNOWN).does("step()", 1).tells("count(6)", 0);
        }
        h.then("works(0)").tells("count(5)", 1).tells("count(0)", 1).does("tally(0,0)", 0).refuses("works(3)", UNKNOWN);
    }

    private static void slotsAndLoads() {
        Edge.part(1, "they have SLOTS 0, 1, .., as many as their LENGTH (1 .. 8), each with a PARCEL or empty; DOORS and "
                + "PANELS have none (LENGTH 0).");
        for (int kind = 0; kind <= 8; kind++) {
            for (int length = 1; length <= 8; length++) {
                House h = new House("gear(" + kind + "," + length + ")").tells("told(0,1)", length);
                h.tells("slot(0,0)", 0).tells("slot(0," + (length - 1) + ")", 0).tells("slot(0," + length + ")", OUTSIDE);
            }
        }
        House others = new House("gear(9,8) gear(10,8)").tells("told(0,1)", 0).tells("told(1,1)", 0);
        others.tells("slot(0,0)", OUTSIDE).tells("slot(1,0)", OUTSIDE);
        Edge.part(1, "LOAD: how many PARCELS are in a GEAR.");
        House h = new House("gear(0,8)");
        for (int p = 1; p <= 8; p++) {
            h.is("told(0,9)", p - 1).then("come(0,1,1)").is("told(0,9)", p).then("step()").is("told(0,9)", p);
        }
        h.slots(0, 8, 7, 6, 5, 4, 3, 2, 1).refuses("come(0,1,1)", STATE).refuses("refit(0,0)", STATE);
    }

    private static void linksAtFirst() {
        Edge.part(1, "LINKS: a GEAR has a ROW of 0 to 3 LINKS, each -1 (at first) or 0 .. 39, or NOTHING (at first).");
        for (int kind = 0; kind <= 10; kind++) {
            House h = new House("gear(" + kind + ",1)").tells("told(0,15)", NONE).tells("linkOf(0,0)", NONE);
            for (int n = 0; n <= 3; n++) {
                h.does("links(0," + n + ")", n).tells("told(0,15)", n).tells("linkOf(0," + n + ")", NONE);
                for (int k = 0; k < n; k++) {
                    h.is("linkOf(0," + k + ")", 0);
                }
            }
            h.does("link(0,0,0)", 1).does("link(0,1,39)", 1).does("link(0,2,-1)", 1).refuses("link(0,2,40)", OUTSIDE);
            h.refuses("link(0,2,-2)", OUTSIDE).refuses("links(0,4)", OUTSIDE);
        }
    }

    private static void followed() {
        Edge.part(1, "TO FOLLOW LINK k of a GEAR: NULL: it has NOTHING; INDEX: its ROW has no LINK k, or that is -1; NULL: "
                + "there is no GEAR of that number; else one comes to that GEAR.");
        String built = "gear(0,1) come(0,1,1) ";
        new House(built, "step()").isRow("finding", 0, 1, 0, 1, NULL_FOUND, 1);
        new House(built, "links(0,0) step()").isRow("finding", 0, 1, 0, 1, INDEX_FOUND, 1);
        new House(built, "links(0,3) step()").isRow("finding", 0, 1, 0, 1, INDEX_FOUND, 1);
        new House(built, "row:0>-1,0,0 step()").isRow("finding", 0, 1, 0, 1, INDEX_FOUND, 1);
        new House(built, "row:0>1 step()").isRow("finding", 0, 1, 0, 1, NULL_FOUND, 1);
        new House(built, "row:0>39 gear(0,1)*38 step()").isRow("finding", 0, 1, 0, 1, NULL_FOUND, 1);
        new House(built, "row:0>39 gear(0,1)*39 step()").tells("finding(0,0)", NONE).slots(39, 1);
        new House(built, "row:0>1 gear(0,1) step()").tells("finding(0,0)", NONE).slots(1, 1);
        new House("gear(0,1) gear(0,1) row:1>0 come(1,1,1) step()").slots(0, 1).tells("count(6)", 0);
    }

    private static void pacesAndRanks() {
        Edge.part(1, "PACE: 2 of CURVES and SCALES (KINDS 1, 4), 1 of others. RANK 0 .. 9: at first what the KIND lends, 2 "
                + "of CURVES, 4 of SCALES, 3 of DIVERTS, 1 of others.");
        House h = new House(ALL_KINDS);
        int[] ranks = {1, 2, 1, 1, 4, 3, 3, 1, 1, 0, 0};
        for (int g = 0; g <= 10; g++) {
            h.is("told(" + g + ",11)", ranks[g]).is("told(" + g + ",12)", g == 1 || g == 4 ? 2 : 1);
        }
        h.refuses("rank(0,-1)", OUTSIDE).refuses("rank(0,10)", OUTSIDE).does("rank(0,0)", 1).does("rank(0,9)", 0);
    }

    private static void sides() {
        Edge.part(1, "A DIVERT has a SIDE, 0 at first: KIND 5 has SIDES 0 and 1, KIND 6 0, 1 and 2; each SIDE but 0 has a "
                + "SET of numbers 0 .. 39, empty at first.");
        House h = new House("gear(5,1) gear(6,1)").tells("told(0,2)", 0).tells("told(1,2)", 0);
        h.refuses("turn(0,-1)", INDEX).refuses("turn(0,2)", INDEX).refuses("turn(1,-1)", INDEX).refuses("turn(1,3)", INDEX);
        h.does("turn(0,1)", 0).does("turn(1,1)", 0).does("turn(1,2)", 1).does("turn(1,0)", 2).does("turn(0,0)", 1);
        h.refuses("aim(1,0,0,true)", OUTSIDE).refuses("aim(1,3,0,true)", OUTSIDE).refuses("aim(0,2,0,true)", INDEX);
        h.refuses("aim(1,1,-1,true)", OUTSIDE).refuses("aim(1,1,40,true)", OUTSIDE);
        for (int target = 0; target < 40; target++) {
            h.is("aim(0,1," + target + ",false)", 0).is("aim(1,1," + target + ",false)", 0)
                    .is("aim(1,2," + target + ",false)", 0);
        }
    }

    /** SCANNER 0 gives to CROSS 1, which is empty: in the first STEP its SIDE becomes the one that is wanted. */
    private static void wanted(String aims, String rules, boolean hasLabel, int target, int side) {
        for (int first = 0; first <= 2; first++) {
            House h = new House("gear(3,1) gear(6,1) row:0>1", rules, aims, "turn(1," + first + ") come(0,1,1)");
            h.then(hasLabel ? "tag(1,0,7) step()" : "label(1,1) step()");
            h.tells("parcel(1,4)", target).tells("told(1,2)", side).slots(first == side ? 1 : 0, 1);
        }
    }

    private static void wants() {
        Edge.part(1, "A PARCEL WANTS the least SIDE in whose SET its TARGET is; 0 without.");
        String both = "aim(1,1,39,true) aim(1,2,39,true) aim(1,2,0,true)";
        wanted(both, "load::39;", true, 39, 1);
        wanted(both, "load::0;", true, 0, 2);
        wanted(both, "load::1;", true, 1, 0);
        wanted(both, "load::38;", true, 38, 0);
        wanted(both, "load:D=8:39;", true, NONE, 0);
        wanted(both, "load::39;", false, UNREAD, 0);
        StringBuilder all = new StringBuilder();
        for (int target = 0; target < 40; target++) {
            all.append("aim(1,2,").append(target).append(",true) ");
        }
        wanted(all.toString(), "load::39;", true, 39, 2);
        wanted(all.toString(), "load::0;", true, 0, 2);
        wanted(all.toString(), "load:D=8:39;", true, NONE, 0);
        wanted(all.toString(), "load::39;", false, UNREAD, 0);
        // -9 and -8 must not be taken for 55 and 56, nor for 31 and 24.
        wanted("aim(1,1,31,true) aim(1,1,23,true) aim(1,1,24,true)", "load:D=8:39;", true, NONE, 0);
        wanted("aim(1,1,31,true) aim(1,1,23,true) aim(1,1,24,true)", "load::39;", false, UNREAD, 0);
    }

    private static void firsts() {
        Edge.part(1, "A MERGE has a LAST, none at first. A HOLD has RELEASES, 0 at first. A DOOR is OPEN or not (at first). "
                + "A PANEL has a DIAL, 0 at first.");
        House h = new House(ALL_KINDS).tells("told(2,13)", 0).tells("told(8,10)", 0).tells("told(9,2)", 0)
                .tells("told(10,14)", 0);
        h.does("release(8,0)", 0).does("door(9,false)", 0);
    }

    private static void groupsAtFirst() {
        Edge.part(1, "GROUPS 0 .. 3 are NOTHING (at first), or rows of 0 to 8 places for GEAR of a TYPE (0 all, 1 BELTS, 2 "
                + "SCANNERS, 3 CHUTES), each place with a GEAR or empty.");
        House h = new House("gear(4,1)");
        for (int i = 0; i <= 3; i++) {
            h.refuses("tally(" + i + ",0)", NULL).refuses("enter(" + i + ",0,0)", NULL);
            h.does("group(" + i + ",0,0)", 0).does("tally(" + i + ",0)", 0).does("group(" + i + ",2,8)", 8);
            h.refuses("tally(" + i + ",0)", NULL).does("enter(" + i + ",7,0)", 1).refuses("enter(" + i + ",8,0)", INDEX);
        }
        h.refuses("group(-1,0,0)", UNKNOWN).refuses("group(4,0,0)", UNKNOWN).refuses("group(0,0,9)", OUTSIDE);
        h.refuses("group(0,0,-1)", SIZE).refuses("group(0,-1,0)", OUTSIDE).refuses("group(0,4,0)", OUTSIDE);
    }

    // ---- part 2

    private static void numbersOfTheHouse() {
        Edge.part(2, "PARCELS have NUMBERS 1, 2, .., given by the house for all WORKS as they come, each once, 2,000 at most");
        House h = new House("gear(0,1)*2 works(1) gear(0,1)*2 works(2) gear(0,1)*2").does("come(0,1,1)", 1).then("works(0)");
        h.does("come(0,1,1)", 2).then("works(1)").does("come(0,1,1)", 3).then("step() come(1,1,1) back(1)")
                .does("come(1,1,1)", 5);
        h.tells("left(4)", NONE).then("works(2)").does("come(1,1,1)", 6).tells("count(13)", 6).tells("left(0)", UNKNOWN);
        // The 2,000th and the one that is too many stand in EdgeHandTest, promise 13.
        h.tells("left(7)", UNKNOWN).refuses("come(1,1,1)", STATE).tells("count(13)", 6);
    }

    private static void parcelsAtFirst() {
        Edge.part(2, "a WEIGHT (1 .. 999), a SIZE (0 .. 9); a TARGET: NONE at first, UNREAD, or a number 0 .. 39; a LABEL: a "
                + "ROW of 0 to 12 bytes, or NOTHING (at first)");
        House h = new House("gear(0,1) gear(3,1) load:D=0:0;D=1:39;");
        h.refuses("come(0,0,0)", OUTSIDE).refuses("come(0,1000,0)", OUTSIDE).refuses("come(0,1,-1)", OUTSIDE);
        h.refuses("come(0,1,10)", OUTSIDE).does("come(0,999,9)", 1).tells("parcel(1,4)", NONE).tells("parcel(1,6)", NONE);
        h.refuses("label(1,13)", OUTSIDE).refuses("label(1,-2)", SIZE).does("label(1,12)", 12).does("label(1,0)", 0);
        h.does("carry(1,1)", 0).then("tag(1,0,0) step()").tells("parcel(1,4)", 0)
                .then("carry(1,0) carry(1,1) tag(1,0,1) step()");
        h.tells("parcel(1,4)", 39).then("carry(1,0) carry(1,1) tag(1,0,2) step()").tells("parcel(1,4)", NONE);
        h.then("carry(1,0) carry(1,1) label(1,-1) step()").tells("parcel(1,4)", UNREAD);
        // One that comes behind another one that is OUT has nothing of that.
        House next = new House(Edge.SORTER, "gear(0,1) come(3,5,5) carry(1,0) tag(1,0,0) step()*2").tells("left(1)", 2);
        next.does("come(3,6,7)", 2);
        int[] want = {3, 0, 6, 7, NONE, 1, NONE, 0};
        for (int what = 0; what <= 7; what++) {
            next.tells("parcel(2," + what + ")", want[what]);
        }
        next.tells("way(2,0)", 3).tells("way(2,1)", NONE).tells("byteOf(2,0)", NONE);
    }

    private static void ways() {
        Edge.part(2, "a WAY: the numbers of the GEAR into which it came, in order (the first 16 are kept, all are counted).");
        House h = new House("gear(0,1)*20 come(0,1,1)");
        for (int n = 1; n <= 18; n++) {
            h.is("parcel(1,5)", n).is("way(1," + (n - 1) + ")", n <= 16 ? n - 1 : NONE).is("way(1," + n + ")", NONE);
            h.then("carry(1," + n + ")");
        }
        for (int i = 0; i < 16; i++) {
            h.is("way(1," + i + ")", i);
        }
        h.tells("parcel(1,5)", 19).tells("way(1,16)", NONE).tells("way(1,18)", NONE);
    }

    private static void inside() {
        Edge.part(2, "A WORKS has at most 30 INSIDE.");
        House h = new House("gear(0,8)*4");
        for (int p = 1; p <= 30; p++) {
            h.then("come(" + (p - 1) / 8 + ",1,1) step()").is("count(1)", p);
        }
        h.tells("slot(3,0)", 0).refuses("come(3,1,1)", FULL).refuses("come(0,1,1)", STATE).then("works(1) gear(0,8)");
        h.does("come(0,1,1)", 31).tells("count(1)", 1).does("night(1,20)", 7).tells("count(1)", 8);
    }

    /**
     * READ of a LABEL (null: NOTHING) by a SCANNER: 0 it was read, -1 BAD, or the FAULT; rules tell TARGET 7 for what is
     * wanted.
     */
    private static void reads(int want, String rules, int... bytes) {
        House h = new House("gear(3,1) row:0> load:" + rules, "come(0,123,4)");
        h.then("label(1," + (bytes == null ? -1 : bytes.length) + ")");
        for (int i = 0; bytes != null && i < bytes.length; i++) {
            h.then("put(1," + i + "," + bytes[i] + ")");
        }
        h.then("step()").is("parcel(1,4)", want == 0 ? 7 : UNREAD).is("parcel(1,7)", 1);
        // If it can't be read it is not GIVEN, else the LINK lacks.
        h.isRow("finding", 0, 1, 0, want > 0 ? 2 : 1, want > 0 ? want : INDEX_FOUND, 1).is("count(6)", 1);
    }

    private static void labelLacks() {
        Edge.part(2, "TO READ a LABEL, its bytes are asked for from the first one on, one by one, each as it is needed: NULL: "
                + "there is NOTHING; INDEX: it has not so many.");
        reads(NULL_FOUND, ":7;", (int[]) null);
        reads(INDEX_FOUND, ":7;");
        int[] a = {'A', '1', '2', '1', '2', '3', '4', '7'};
        for (int n = 1; n < 8; n++) {
            reads(INDEX_FOUND, ":7;", java.util.Arrays.copyOf(a, n));
        }
        reads(0, "D=12,W=123,S=4:7;", a);
        int[] b = {66, 200, 2, 1, 3, 58};
        for (int n = 1; n < 6; n++) {
            reads(INDEX_FOUND, ":7;", java.util.Arrays.copyOf(b, n));
        }
        reads(0, "D=200,W=513,S=3:7;", b);
        Edge.part(2, "What is behind is not looked at.");
        reads(0, "D=12,W=123,S=4:7;", 'A', '1', '2', '1', '2', '3', '4', '7', 0, 255, 47, 58);
        reads(0, "D=200,W=513,S=3:7;", 66, 200, 2, 1, 3, 58, 255, 0, 1, 2, 3, 4);
    }

    private static void labelFormA() {
        Edge.part(2, "The first byte is 65: FORM A: two digits tell the PLACE, three the WEIGHT, one the SIZE, one is the "
                + "CHECK (bytes 48 .. 57; the first other byte is BAD at once)");
        // 12 + 2 + 3 + 2 + 9 + 5 = 33
        reads(0, "D=42,W=123,S=5:7;", 'A', '4', '2', '1', '2', '3', '5', '7');
        for (int i = 1; i <= 7; i++) {
            for (int other : new int[] {0, 47, 58, 65, 176, 185, 255}) {
                int[] label = {'A', '0', '0', '0', '0', '0', '0', '0'};
                label[i] = other;
                reads(-1, ":7;", label);
                // Nothing is asked for behind it.
                reads(-1, ":7;", java.util.Arrays.copyOf(label, i + 1));
            }
        }
        reads(0, "D=0,W=0,S=0:7;", 'A', '0', '0', '0', '0', '0', '0', '0');
        // 27 + 9 + 27 + 9 + 27 + 9 = 108
        reads(0, "D=99,W=999,S=9:7;", 'A', '9', '9', '9', '9', '9', '9', '2');
        Edge.part(2, "it is BAD, if 3 a + b + 3 c + d + 3 e + f and the CHECK are together no multiple of 10, a to f "
                + "being the six digits before.");
        int[] weights = {3, 1, 3, 1, 3, 1};
        for (int i = 0; i < 6; i++) {
            for (int check = 0; check <= 9; check++) {
                int[] label = {'A', '0', '0', '0', '0', '0', '0', '0' + check};
                label[1 + i] = '8';
                reads((8 * weights[i] + check) % 10 == 0 ? 0 : -1, ":7;", label);
            }
        }
    }

    private static void labelFormB() {
        Edge.part(2, "It is 66: FORM B (bytes as 0 .. 255): one tells the PLACE, two the WEIGHT (the first 256 times), one the "
                + "SIZE, one is the CHECK: it is BAD, if that is not 7 p + 5 h + 3 l + s modulo 97, these being the four "
                + "before.");
        // 7 + 10 + 9 + 4 = 30
        reads(0, "D=1,W=515,S=4:7;", 66, 1, 2, 3, 4, 30);
        int[][] rows = {
            // p, h, l, s, the CHECK by hand
            {0, 0, 0, 0, 0}, {0, 0, 0, 96, 96}, {0, 0, 0, 97, 0}, {0, 0, 32, 0, 96}, {0, 0, 32, 1, 0}, {0, 19, 0, 1, 96},
            {0, 19, 0, 2, 0}, {13, 0, 0, 5, 96}, {13, 0, 0, 6, 0}, {255, 255, 255, 255, 4080 % 97},
        };
        for (int[] r : rows) {
            for (int check : new int[] {r[4], r[4] + 1, r[4] + 97, r[4] == 0 ? 255 : r[4] - 1}) {
                reads(check == r[4] ? 0 : -1, "D=" + r[0] + ",S=" + r[3] + ":7;", 66, r[0], r[1], r[2], r[3], check);
            }
        }
        Edge.part(2, "two the WEIGHT (the first 256 times)");
        reads(0, "W=256:7;", 66, 0, 1, 0, 0, 5);
        reads(0, "W=255:7;", 66, 0, 0, 255, 0, 3 * 255 % 97);
        reads(0, "W>9999:7;", 66, 0, 255, 255, 0, 8 * 255 % 97);
        reads(0, "W=9999:7;", 66, 0, 39, 15, 0, (5 * 39 + 3 * 15) % 97);
    }

    private static void labelOthers() {
        Edge.part(2, "Another first byte is BAD.");
        for (int first : new int[] {0, 64, 67, 97, 98, 193, 194, 255}) {
            reads(-1, ":7;", first);
            reads(-1, ":7;", first, '1', '2', '1', '2', '3', '4', '7');
            reads(-1, ":7;", first, 200, 2, 1, 3, 58);
        }
    }

    // ---- part 5

    private static void waysAhead() {
        Edge.part(5, "WAYS AHEAD go by LINKS that lead to TAKERS: of DIVERTS LINK k of each SIDE k, of KIND 7 none, of other "
                + "TAKERS LINK 0.");
        int[] ahead = {1, 1, 1, 1, 1, 2, 3, 0, 1, 0, 0};
        for (int kind = 0; kind <= 10; kind++) {
            House h = new House("gear(" + kind + ",8) gear(8,1) gear(7,1) gear(0,1) row:0>1,2,3");
            for (int k = 0; k < 3; k++) {
                h.tells("far(0," + (k + 1) + ")", k < ahead[kind] ? 8 : NONE);
            }
            h.tells("reach(0)", (1 << ahead[kind] + 1) - 2);
        }
        House none = new House("gear(6,1) gear(9,0) gear(10,0) row:0>1,2,39").tells("reach(0)", 0).tells("far(0,1)", NONE);
        none.then("links(0,0)").tells("reach(0)", 0).then("links(0,-1)").tells("reach(0)", 0).tells("count(7)", 0);
        Edge.part(5, "A way's SLOTS are the LENGTHS of all GEAR on it but the last one.");
        House h = new House("gear(0,1) gear(0,2) gear(0,8) gear(7,8) row:0>1 row:1>2 row:2>3");
        h.tells("far(0,1)", 1).tells("far(0,2)", 3).tells("far(0,3)", 11).tells("far(1,3)", 10).tells("far(3,3)", 0);
    }

    // ---- part 6

    private static boolean isKept(String question) {
        return !question.equals("count(8)") && !question.equals("count(9)") && !question.equals("count(13)")
                && !question.startsWith("trace") && !question.startsWith("left") && !question.startsWith("back");
    }

    private static void keptGoesBack() {
        Edge.part(6, "GO BACK: what is KEPT is TIME, PARCELS with all that is theirs, SLOTS, SIDES, OPEN, WAITS, LAMPS, "
                + "counts, RELEASES, LASTS, DIALS, how often RULES were USED, FINDINGS, OUTS; as it was ahead of a STEP");
        String[] byHand = {"", "come(2,1,1)", "label(1,0) label(3,3)", "put(1,0,7) put(1,11,255)", "tag(1,1,99) tag(4,0,1)",
            "door(9,false)", "door(9,true)", "turn(5,1) turn(6,0)", "release(8,19)", "release(8,0)",
            "carry(1,2) carry(3,4) carry(4,0)", "step()", "night(5,3)"};
        for (int steps = 0; steps <= 8; steps++) {
            House before = new House(RICH).then(steps == 0 ? "count(0)" : "step()*" + steps);
            for (String script : byHand) {
                long more = script.equals("step()") ? 2 : script.equals("night(5,3)") ? 4 : 1;
                Twins.same(before.changes(), "step() " + script + " back(" + more + ")", EdgeTermsTest::isKept);
            }
        }
        House last = new House("gear(0,1) gear(0,1) gear(2,1) gear(0,8) row:0>2 row:1>2 row:2>3 come(0,1,1) come(1,1,1) "
                + "step()*2");
        Twins.same(last.tells("told(2,13)", 1).changes(), "step() back(1)", EdgeTermsTest::isKept);
        // Where one was that is OUT another one comes, by another GEAR.
        House place = new House(Edge.SORTER, "gear(0,1) come(0,5,5) tag(1,0,0) step()");
        Twins.same(place.changes(), "step() come(3,6,6) label(2,3) back(1)", EdgeTermsTest::isKept);
        Twins.same(place.changes(), "step() come(3,6,6) step() carry(2,0) back(2)", EdgeTermsTest::isKept);
        thirtyGoBack();
        Edge.part(6, "The latest 30 OUTS are kept (all are counted).");
        House sorter = new House(Edge.SORTER + " gear(10,0)");
        for (int p = 1; p <= 31; p++) {
            sorter.then("come(0,1,1) tag(" + p + ",0,0) step()*2");
        }
        // OUTS and FINDINGS that newer ones pushed out are there again.
        sorter.then("come(0,1,1) tag(32,0,0) step()");
        Twins.same(sorter.changes(), "step()*2 come(0,1,1) tag(33,0,0) step()*2 back(4)", EdgeTermsTest::isKept);
    }

    /** 30 PARCELS, of which the last goes OUT in the second STEP. */
    private static void thirtyGoBack() {
        StringBuilder come = new StringBuilder();
        for (int g = 3; g < 32; g++) {
            come.append("come(").append(g).append(",").append(g).append(",1) ");
        }
        House h = new House(Edge.SORTER + " gear(0,2)*29", come.toString());
        h.then("come(0,999,9) tag(30,0,50)").tells("count(1)", 30);
        Twins.same(h.changes(), "step() label(30,5) label(29,5) label(1,5) back(1)", EdgeTermsTest::isKept);
        Twins.same(h.changes(), "step()*2 label(29,5) label(1,5) back(2)", EdgeTermsTest::isKept);
        h.then("step()*2").tells("left(30)", 2).tells("count(1)", 29).does("back(1)", 1).tells("left(30)", -10).slots(1, 30);
        h.tells("left(29)", -10).tells("left(1)", -10).does("back(1)", 0).tells("left(30)", -10).slots(0, 30);
        // 15 + 0 + 27 + 9 + 27 + 9 = 87
        h.tells("parcel(30,2)", 999).tells("byteOf(30,7)", '3');
    }

    private static void keptCounts() {
        Edge.part(6, "(how many came, FINDINGS, OUTS go back, too; count(7) and count(13) do not)");
        House h = new House(Edge.SORTER + " gear(10,0) step()");
        h.then("come(0,1,1) tag(1,0,0) step()*2 come(0,1,1) tag(2,0,0) step()*2");
        int[] now = {4, 0, 2, 2, 1, 5, 5, 5, 5, 5, 0, 0, 0, 2};
        int[] back2 = {4, 1, 2, 1, 1, 3, 3, 5, 3, 0, 0, 0, 0, 2};
        int[] back5 = {4, 0, 0, 0, 1, 0, 0, 5, 0, 0, 0, 0, 0, 2};
        for (int what = 0; what <= 13; what++) {
            h.is("count(" + what + ")", now[what]);
        }
        h.does("back(2)", 3);
        for (int what = 0; what <= 13; what++) {
            h.is("count(" + what + ")", back2[what]);
        }
        h.tells("left(2)", -10).tells("left(1)", 2).tells("out(0,0)", 1).tells("out(1,0)", NONE).does("back(3)", 0);
        for (int what = 0; what <= 13; what++) {
            h.is("count(" + what + ")", back5[what]);
        }
        h.tells("left(1)", NONE).tells("left(2)", NONE).tells("out(0,0)", NONE).tells("finding(0,0)", NONE);
    }

    private static void outsKept() {
        Edge.part(6, "The latest 30 OUTS are kept (all are counted).");
        House h = new House(Edge.SORTER);
        for (int p = 1; p <= 31; p++) {
            h.then("come(0,1,1) tag(" + p + ",0,0) step()*2").is("count(3)", p).is("out(0,0)", p);
            h.is("out(" + Math.min(p - 1, 29) + ",0)", p <= 30 ? 1 : 2).is("out(" + Math.min(p, 30) + ",0)", NONE);
        }
        h.isRow("out", 29, 2, 2, 4, 1).tells("left(1)", 2);
    }
}
