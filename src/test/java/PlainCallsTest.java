import java.lang.reflect.Field;

/** What promises 3 to 47 say beside their edges: ordinary inputs, each under the words of the document. */
final class PlainCallsTest {
    private static final int UNKNOWN = Edge.UNKNOWN, UNREAD = Edge.UNREAD, NONE = Edge.NONE, NULL = Edge.NULL,
            INDEX = Edge.INDEX;
    private static final String SORTER = Edge.SORTER;

    public static void main(String[] args) throws ReflectiveOperationException {
        gear();
        links();
        link();
        aim();
        refit();
        copy();
        letter();
        come();
        label();
        put();
        tag();
        doorTurnRelease();
        clear();
        carry();
        enter();
        stepAndNight();
        told();
        parcel();
        leftAndOut();
        rules();
        findingAndTrace();
        ways();
        audit();
        Check.end();
    }

    // ---- what builds

    private static void gear() {
        Edge.promise(3, "A GEAR more: its number.");
        House h = new House();
        for (int kind = 0; kind <= 10; kind++) {
            h.does("gear(" + kind + ",3)", kind).tells("count(0)", kind + 1).isTold(kind, 0, kind, kind <= 8 ? 3 : 0);
        }
        h.isTold(0, 0, 0, 3).then("works(1)").does("gear(10,0)", 0).then("works(0)").does("gear(0,8)", 11);
    }

    private static void links() {
        Edge.promise(4, "The ROW of LINKS of a GEAR is a new one of n LINKS");
        House h = new House("gear(0,1) gear(0,1) row:0>1,1 row:1>0").does("links(0,3)", 3).isTold(0, 15, 3);
        h.tells("linkOf(0,0)", 0).tells("linkOf(0,1)", 0).tells("linkOf(0,2)", 0).tells("linkOf(1,0)", 1).isTold(1, 15, 1);
    }

    private static void link() {
        Edge.promise(5, "LINK k of a GEAR is to another number: 1.");
        House h = new House("gear(0,1) gear(0,1) gear(0,1) links(0,3)").does("link(0,1,2)", 1);
        h.tells("linkOf(0,0)", 0).tells("linkOf(0,1)", 3).tells("linkOf(0,2)", 0).does("link(0,1,1)", 1).does("link(0,0,2)", 1);
        h.tells("linkOf(0,0)", 3).tells("linkOf(0,1)", 2).tells("linkOf(0,2)", 0);
        h.then("come(0,1,1) step()").slots(2, 1).then("carry(1,0)").does("link(0,0,1)", 1).then("step()").slots(1, 1);
    }

    private static void aim() {
        Edge.promise(6, "A number is in a SET of a DIVERT from now on, or not:");
        String built = "gear(3,1) gear(5,1) gear(0,1) gear(0,1) row:0>1 row:1>2,3 load::7; come(0,1,1) tag(1,0,0)";
        new House(built, "step()").slots(1, 1).then("step()").slots(2, 1);
        House aimed = new House(built).does("aim(1,1,7,true)", 1).then("step()").slots(0, 1).isTold(1, 2, 1).then("step()");
        aimed.slots(1, 1).then("step()").slots(3, 1);
        House not = new House(built).does("aim(1,1,7,true)", 1).does("aim(1,1,7,false)", 1).then("step()").slots(1, 1);
        not.then("step()").slots(2, 1);
    }

    private static void refit() {
        Edge.promise(8, "A GEAR becomes of another KIND (or the same one), as if it came now, with its LENGTH and LINKS (LASTS "
                + "of others, PLANS name its number as they did): the KIND before.");
        House h = new House("gear(0,2) gear(0,1) row:0>1").does("refit(0,1)", 0).isTold(0, 0, 1, 2).isTold(0, 11, 2, 2);
        h.then("come(0,1,1) step()").slots(0, 1, 0).then("step()").slots(0, 0, 1).then("step()").slots(0, 0, 1).then("step()");
        h.slots(1, 1).does("refit(0,0)", 1).tells("linkOf(0,0)", 2);
        h.isTold(0, 0, 0, 2, 0, 0, 0, 0, 0, 0, 0, 0, 0, 1, 1, 0, 0, 1);
    }

    private static void copy() {
        Edge.promise(9, "The WORKS AT HAND, which has no GEAR, gets GEAR as another one has (or itself): KINDS, LENGTHS, LINKS "
                + "(ROWS of its own), SETS, RANKS, OPEN, and its RULES (not USED) and PLANS in place of its own; all else of "
                + "GEAR as if it came now (TIME and all else of the WORKS stay): how many GEAR.");
        House h = new House("gear(6,3) gear(9,0) gear(3,1) row:0>1,2,-1 aim(0,2,39,true) rank(0,9) rank(2,0) door(1,true)");
        h.then("load:D<5:2;:1; plan(4,3,0,1,0) come(2,1,1) tag(1,0,0) turn(0,1) step()").tells("rule(0,2)", 1);
        h.tells("count(6)", 1).then("works(1) step()*2 load::9; plan(1,1,0,0,0)*2").does("copy(0)", 3);
        h.isTold(0, 0, 6, 3, 0, 0, 0, 0, 0, 0, 0, 0, 0, 9, 1, 0, 0, 3);
        h.isTold(1, 0, 9, 0, 1, 0, 0, 0, 0, 0, 0, 0, 0, 0, 1, 0, 0, NONE);
        h.isTold(2, 0, 3, 1, 0, 0, 0, 0, 0, 0, 0, 0, 0, 0, 1, 0, 0, NONE);
        h.tells("linkOf(0,0)", 2).tells("linkOf(0,1)", 3).tells("linkOf(0,2)", 0).tells("rule(0,2)", 0).tells("count(4)", 2);
        h.tells("said(0)", 'D').tells("count(11)", 1).tells("count(5)", 2).tells("count(1)", 0).tells("count(2)", 0);
        // The PLAN that came with it: the DOOR is not OPEN any more.
        h.does("step()", 3).isTold(1, 2, 0).tells("count(6)", 0).does("aim(0,2,39,false)", 1).does("link(0,0,39)", 1);
        h.then("works(0)").tells("linkOf(0,0)", 2).isTold(1, 2, 1).does("aim(0,2,39,false)", 1);
        // A PLAN whose TIME is gone where it was made, but not where it is copied to.
        House past = new House("gear(9,0) step()*5 plan(4,3,0,0,1) works(1) copy(0) step()*2").isTold(0, 2, 0).then("step()");
        past.isTold(0, 2, 1).then("works(0)").isTold(0, 2, 0);
    }

    private static void letter() {
        Edge.promise(10, "A letter behind those that are typed (the house has one row of them): how many.");
        House h = new House().does("letter(58)", 1).does("letter(49)", 2).then("works(2)").does("letter(59)", 3);
        h.tells("count(10)", 3).does("load()", 1).tells("said(0)", ':').tells("said(1)", '1').tells("said(2)", ';');
        h.tells("count(10)", 0).then("works(0)").tells("count(4)", 0).does("letter(68)", 1);
    }

    // ---- what is done by hand

    private static void come() {
        Edge.promise(13, "A PARCEL comes into SLOT 0 of a GEAR: its NUMBER.");
        House h = new House("gear(0,3) gear(5,2)").does("come(1,77,3)", 1).slots(1, 1, 0).does("come(0,5,0)", 2);
        h.slots(0, 2, 0, 0).tells("way(1,0)", 1).tells("count(1)", 2).tells("count(2)", 2).isTold(1, 5, 1, 0).isTold(0, 9, 1);
        long[] first = {1, 0, 77, 3, NONE, 1, NONE, 0};
        for (int what = 0; what <= 7; what++) {
            h.tells("parcel(1," + what + ")", first[what]);
        }
    }

    private static void label() {
        Edge.promise(14, "The LABEL of a PARCEL is a new ROW of n bytes 0 (n = -1: NOTHING): n. UNKNOWN (it is not INSIDE this "
                + "WORKS);");
        House h = new House("gear(0,1) come(0,1,1) tag(1,0,12)").does("label(1,4)", 4).tells("parcel(1,6)", 4);
        for (int i = 0; i <= 4; i++) {
            h.tells("byteOf(1," + i + ")", i < 4 ? 0 : NONE);
        }
        h.does("label(1,-1)", -1).tells("parcel(1,6)", NONE).tells("byteOf(1,0)", NONE).refuses("label(2,4)", UNKNOWN);
        h.then("works(1)").refuses("label(1,4)", UNKNOWN);
    }

    private static void put() {
        Edge.promise(15, "Byte i of a LABEL becomes b (its lowest 8 bits): 1. UNKNOWN; NULL, INDEX.");
        House h = new House("gear(0,1) come(0,1,1)").refuses("put(2,0,0)", UNKNOWN).refuses("put(1,0,0)", NULL);
        h.then("label(1,2)").refuses("put(1,2,0)", INDEX).does("put(1,1,65)", 1).tells("byteOf(1,0)", 0);
        h.tells("byteOf(1,1)", 65).does("put(1,1,-1)", 1).tells("byteOf(1,1)", 255).does("put(1,0,263)", 1);
        h.tells("byteOf(1,0)", 7);
    }

    private static void isLabel(House h, int parcel, int... bytes) {
        for (int i = 0; i < bytes.length; i++) {
            h.tells("byteOf(" + parcel + "," + i + ")", bytes[i]);
        }
        h.tells("parcel(" + parcel + ",6)", bytes.length).tells("byteOf(" + parcel + "," + bytes.length + ")", NONE);
    }

    private static void tag() {
        Edge.promise(16, "The LABEL of a PARCEL is a new ROW of FORM A (form 0; 8 bytes) or B (1; 6 bytes) that is not BAD, "
                + "with PLACE to, its own WEIGHT and SIZE: how many bytes. UNKNOWN;");
        House h = new House("gear(0,1) gear(0,1) come(0,120,3) come(1,999,3)").does("tag(1,0,17)", 8);
        // 3 + 7 + 3 + 2 + 0 + 3 = 18
        isLabel(h, 1, 'A', '1', '7', '1', '2', '0', '3', '2');
        // 119 + 0 + 360 + 3 = 482 = 4 * 97 + 94; 119 + 15 + 693 + 3 = 830 = 8 * 97 + 54
        h.does("tag(1,1,17)", 6).does("tag(2,1,17)", 6);
        isLabel(h, 1, 66, 17, 0, 120, 3, 94);
        isLabel(h, 2, 66, 17, 3, 231, 3, 54);
        h.refuses("tag(3,0,17)", UNKNOWN).refuses("tag(0,0,17)", UNKNOWN).then("works(1)").refuses("tag(1,0,17)", UNKNOWN);
    }

    private static void doorTurnRelease() {
        Edge.promise(17, "A DOOR is OPEN from now on, or not: what it was (1, 0).");
        House door = new House("gear(9,0) gear(9,0)").does("door(0,true)", 0).isTold(0, 2, 1).isTold(1, 2, 0);
        door.does("door(0,true)", 1).does("door(0,false)", 1).isTold(0, 2, 0).does("door(0,false)", 0);
        Edge.promise(18, "The SIDE of a DIVERT: the one before.");
        House turn = new House("gear(6,1) gear(0,1)*3 row:0>1,2,3").does("turn(0,2)", 0).isTold(0, 2, 2).does("turn(0,1)", 2);
        turn.then("come(0,1,1) step()").slots(2, 1).does("turn(0,0)", 1).isTold(0, 2, 0);
        Edge.promise(19, "RELEASES of a HOLD are n from now on: how many they were.");
        House hold = new House("gear(8,1) gear(8,1)").does("release(0,5)", 0).isTold(0, 10, 5).does("release(0,2)", 5);
        hold.isTold(0, 10, 2).isTold(1, 10, 0);
    }

    private static void clear() {
        Edge.promise(20, "A JAM is cleared: the PARCEL in the last SLOT of a GEAR goes to SLOT 0 of the first HOLD (not "
                + "itself) whose SLOT 0 is empty; its TARGET is UNREAD; the GEAR's WAIT is 0: the HOLD.");
        House h = new House("gear(0,1) gear(8,1) gear(8,1) come(0,7,7) step()*8").isTold(0, 3, 8).does("clear(0)", 1);
        h.slots(0, 0).slots(1, 1).tells("parcel(1,4)", UNREAD).isTold(0, 3, 0).then("come(0,1,1) step()*8").does("clear(0)", 2);
        h.slots(2, 2).slots(1, 1).isTold(0, 5, 2, 2).tells("jam(0)", 1).tells("jam(1)", NONE).tells("way(2,1)", 2);
    }

    private static void carry() {
        Edge.promise(21, "A PARCEL is carried to SLOT 0 of a GEAR (from another SLOT of the same one, too: it WENT, CAME, is "
                + "on its WAY once more): the GEAR in which it was.");
        House h = new House("gear(0,2) gear(0,2) come(0,1,1)").does("carry(1,1)", 0).slots(0, 0, 0).slots(1, 1, 0);
        h.isTold(0, 5, 1, 1).isTold(1, 5, 1, 0).then("step()").slots(1, 0, 1).does("carry(1,1)", 1).slots(1, 1, 0);
        h.isTold(1, 5, 2, 1).tells("parcel(1,5)", 3).tells("way(1,0)", 0).tells("way(1,1)", 1).tells("way(1,2)", 1);
    }

    private static void enter() {
        Edge.promise(23, "A GEAR stands at place k of a GROUP: 1.");
        House h = new House("gear(0,1) gear(0,1) come(0,1,1) group(1,1,2)").does("enter(1,1,0)", 1).refuses("tally(1,0)", NULL);
        h.does("enter(1,0,0)", 1).does("tally(1,0)", 2).does("enter(1,0,1)", 1).does("tally(1,0)", 1);
    }

    private static void stepAndNight() {
        Edge.promise(25, "A STEP: TIME.");
        House step = new House("gear(0,3) come(0,1,1)").does("step()", 1).slots(0, 0, 1, 0).does("step()", 2).slots(0, 0, 0, 1);
        step.tells("count(5)", 2).then("works(1)").does("step()", 1).tells("count(5)", 1);
        Edge.promise(26, "n times:");
        House night = new House("gear(0,8)").does("night(3,4)", 4).tells("count(5)", 4).tells("count(8)", 4);
        night.slots(0, 0, 4, 3, 2, 1).tells("count(2)", 4);
    }

    // ---- what is told

    private static void told() {
        Edge.promise(29, "Of a GEAR: what = 0 KIND, 1 LENGTH, 2 SIDE (of a DOOR 1, if it is OPEN; 0 of others), 3 WAIT, 4 "
                + "LAMP, 5 how many PARCELS CAME into it, 6 WENT from it");
        Edge.promise(29, "7 its FINDINGS, 8 ACTS, 9 LOAD, 10 RELEASES, 11 RANK (0 of DOORS, PANELS), 12 PACE, 13 LAST and 1 "
                + "(0: none), 14 DIAL, 15 how many LINKS (NONE: NOTHING).");
        House h = new House("gear(6,3) gear(2,2) gear(0,1) gear(8,1) gear(10,0) gear(4,1) gear(9,0) row:0>1 row:2>1");
        h.then("row:4>0,1,0 turn(0,2) release(3,7) door(6,true) come(0,1,1) come(2,1,1) step()*4");
        h.isTold(0, 0, 6, 3, 2, 2, 3, 1, 0, 2, 4, 1, 0, 3, 1, 0, 0, 1);
        h.isTold(1, 0, 2, 2, 0, 2, 3, 1, 0, 2, 4, 1, 0, 1, 1, 3, 0, NONE);
        h.isTold(2, 0, 0, 1, 0, 0, 1, 1, 1, 0, 4, 0, 0, 1, 1, 0, 0, 1);
        h.isTold(3, 0, 8, 1, 0, 0, 1, 0, 0, 0, 4, 0, 7, 1, 1, 0, 0, NONE);
        h.isTold(4, 0, 10, 0, 0, 0, 1, 0, 0, 0, 4, 0, 0, 0, 1, 0, 3, 3);
        h.isTold(5, 0, 4, 1, 0, 0, 1, 0, 0, 0, 2, 0, 0, 4, 2, 0, 0, NONE);
        h.isTold(6, 0, 9, 0, 1, 0, 1, 0, 0, 0, 4, 0, 0, 0, 1, 0, 0, NONE);
    }

    private static void parcel() {
        Edge.promise(32, "Of a PARCEL INSIDE: what = 0 its GEAR, 1 its SLOT, 2 WEIGHT, 3 SIZE, 4 TARGET, 5 how long its WAY "
                + "is, 6 how many bytes its LABEL has (NONE: NOTHING), 7 whether it was SCANNED since it came into its GEAR "
                + "(1, 0).");
        House h = new House("gear(0,1) gear(3,2) row:0>1 load:D=12:9; come(0,321,7) tag(1,1,12) step()*3");
        long[] want = {1, 1, 321, 7, 9, 2, 6, 1};
        for (int what = 0; what <= 7; what++) {
            h.tells("parcel(1," + what + ")", want[what]);
        }
    }

    private static void leftAndOut() {
        Edge.promise(35, "Of a NUMBER, whatever WORKS it is of:");
        House left = new House("works(2)", SORTER, "come(0,1,1) tag(1,0,0) step()*2 works(1) gear(0,1) come(0,1,1) works(0)");
        left.tells("left(1)", 2002).tells("left(2)", -11).tells("left(3)", UNKNOWN);
        Edge.promise(36, "The i-th of the latest OUTS (0 the latest): what = 0 the PARCEL, 1 the DOOR, 2 the TIME, 3 the "
                + "CHUTE;");
        House out = new House(SORTER, "come(0,1,1) tag(1,0,0) step()*2 come(0,1,1) tag(2,0,0) step()*2");
        out.isRow("out", 0, 2, 2, 4, 1).isRow("out", 1, 1, 2, 2, 1).tells("out(2,0)", NONE);
    }

    private static void rules() {
        Edge.promise(37, "Of a RULE: what = 0 the number that it tells, 1 how many tests it has,");
        House h = new House("load:D=1,W>2:17;:5;Q7<3:0;");
        int[][] want = {{17, 2, 0}, {5, 0, 0}, {0, 1, 0}};
        for (int k = 0; k < 3; k++) {
            for (int what = 0; what <= 2; what++) {
                h.tells("rule(" + k + "," + what + ")", want[k][what]);
            }
        }
        Edge.promise(38, "Letter i of the RULES as they are told:");
        String said = "D=1,W>2:17;:5;Q7<3:0;";
        for (int i = 0; i < said.length(); i++) {
            h.tells("said(" + i + ")", said.charAt(i));
        }
        h.tells("said(" + said.length() + ")", NONE);
    }

    private static void findingAndTrace() {
        Edge.promise(40, "The i-th of the latest FINDINGS (0 the latest): what = 0 TIME, 1 GEAR, 2 ACT, 3 FAULT, 4 what is "
                + "told there;");
        House found = new House("gear(9,0) gear(0,1) row:1> come(1,1,1) step() row:1>0 step()");
        found.isRow("finding", 0, 2, 1, 1, 2, 1).isRow("finding", 1, 1, 1, 1, 3, 1).tells("finding(2,0)", NONE);
        Edge.promise(41, "TRACE i of the latest STEP;");
        new House("gear(0,1) gear(1,1) row:0>1 come(0,1,1) step()").traces(1, 20).then("step()").traces(1, 2, 1);
    }

    private static void ways() {
        Edge.promise(44, "GEAR to which WAYS AHEAD (of one LINK at least) lead from a GEAR, as bits;");
        House reach = new House("gear(5,1) gear(0,1) gear(7,1) gear(0,1) row:0>1,2 row:1>3");
        reach.tells("reach(0)", 0b1110).tells("reach(1)", 0b1000).tells("reach(2)", 0).tells("reach(3)", 0);
        Edge.promise(45, "The fewest SLOTS of a WAY AHEAD (of one LINK at least) from a GEAR back to itself; NONE: there is "
                + "none.");
        House ring = new House("gear(5,2) gear(0,3) gear(0,1) gear(0,1) row:0>1,2 row:1>0 row:2>0 row:3>0");
        ring.tells("ring(0)", 3).tells("ring(1)", 5).tells("ring(2)", 3).tells("ring(3)", NONE);
    }

    // ---- promise 46

    private static Object valueOf(Object owner, String field) throws ReflectiveOperationException {
        Field f = owner.getClass().getDeclaredField(field);
        f.setAccessible(true);
        return f.get(owner);
    }

    private static void change(Object gear, String field, int by) throws ReflectiveOperationException {
        Field f = gear.getClass().getDeclaredField(field);
        f.setAccessible(true);
        f.setInt(gear, f.getInt(gear) + by);
    }

    /** No calls come to a GEAR whose counts are wrong, so they are made wrong here behind the face. */
    private static void audit() throws ReflectiveOperationException {
        Edge.promise(46, "The first GEAR of which what CAME less what WENT is not its LOAD; NONE.");
        SortWorks x = new SortWorks();
        Check.buildSorter(x);
        x.come(0, 1, 1);
        x.tag(1, 0, 0);
        Check.steps(x, 2);
        x.come(0, 1, 1);
        Object[] gear = (Object[]) valueOf(valueOf(valueOf(x, "hand"), "now"), "gear");
        Check.due("audit()", x.audit(), NONE);
        for (int k = 2; k >= 0; k--) {
            for (String count : new String[] {"came", "went"}) {
                for (int by : new int[] {1, -1}) {
                    change(gear[k], count, by);
                    Check.due("audit(), if " + count + " of GEAR " + k + " is " + by + " off", x.audit(), k);
                    change(gear[k], count, -by);
                }
            }
        }
        change(gear[1], "came", 1);
        change(gear[2], "went", 1);
        Check.due("audit(), if GEAR 1 and 2 are wrong", x.audit(), 1);
        change(gear[1], "went", 1);
        Check.due("audit(), if both counts of GEAR 1 are 1 more", x.audit(), 2);
        change(gear[2], "came", 1);
        Check.due("audit(), if both counts of GEAR 2 are, too", x.audit(), NONE);
        change(gear[3], "came", 1);
        Check.due("audit(), behind the last GEAR", x.audit(), NONE);
    }
}
