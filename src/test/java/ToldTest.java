/** Promises 28 to 38 and 46 to 48 where no other test asks for them: what is told, its edges and refusals. */
final class ToldTest {
    private static final int UNKNOWN = -1, OUTSIDE = -2, NONE = -9;

    public static void main(String[] args) {
        constants();
        status();
        toldRefused();
        toldOfDoors();
        slot();
        linkOf();
        parcel();
        wayAndBytes();
        left();
        nothingOfTheOneBefore();
        outs();
        audit();
        count();
        digest();
        digestOfParcels();
        fullHouse();
        Check.end();
    }

    private static void constants() {
        Check.about("the constants");
        Check.due("UNKNOWN", SortWorks.UNKNOWN, -1);
        Check.due("OUTSIDE", SortWorks.OUTSIDE, -2);
        Check.due("STATE", SortWorks.STATE, -3);
        Check.due("FULL", SortWorks.FULL, -4);
        Check.due("UNREAD", SortWorks.UNREAD, -8);
        Check.due("NONE", SortWorks.NONE, -9);
    }

    private static void status() {
        Check.about("promise 28");
        SortWorks x = new SortWorks();
        x.gear(0, 1);
        x.gear(99, 1);
        Check.due("status()", x.status(), OUTSIDE);
        x.told(99, 0);
        x.told(0, 99);
        x.slot(0, 1);
        x.parcel(1, 1);
        x.far(0, 9);
        x.reach(9);
        x.digest();
        x.count(5);
        Check.due("status(), what is told does not change it", x.status(), OUTSIDE);
        x.come(0, 1, 1);
        Check.due("status()", x.status(), 0);
        x.told(99, 0);
        Check.due("status()", x.status(), 0);
        x.door(0, true);
        Check.due("status()", x.status(), -12);
        x.works(0);
        Check.due("status()", x.status(), 0);
        x.works(9);
        Check.due("status()", x.status(), UNKNOWN);
        Check.load(x, ":1;:");
        Check.due("status()", x.status(), -104);
        x.night(1, 1);
        Check.due("status()", x.status(), 0);
        x.back(2);
        Check.due("status()", x.status(), -3);
        x.step();
        Check.due("status()", x.status(), 0);
        x.tally(0, 0);
        Check.due("status()", x.status(), -11);
        x.letter('D');
        Check.due("status()", x.status(), 0);
    }

    private static void toldRefused() {
        Check.about("promise 29, refused");
        SortWorks x = new SortWorks();
        x.gear(0, 1);
        Check.due("told(1, 99)", x.told(1, 99), UNKNOWN);
        Check.due("told(-1, 0)", x.told(-1, 0), UNKNOWN);
        Check.due("told(40, 0)", x.told(40, 0), UNKNOWN);
        Check.due("told(0, 16)", x.told(0, 16), OUTSIDE);
        Check.due("told(0, -1)", x.told(0, -1), OUTSIDE);
        Check.due("count(7), that is no FAULT", x.count(7), 0);
    }

    private static void toldOfDoors() {
        Check.about("promise 29, DOORS");
        SortWorks x = new SortWorks();
        Check.buildSorter(x);
        for (int p = 1; p <= 3; p++) {
            x.come(0, 1, 1);
            x.tag(p, 1, 1);
            Check.steps(x, 2);
            Check.due("told(2, 5)", x.told(2, 5), p);
            Check.due("told(2, 6)", x.told(2, 6), p);
        }
        Check.due("told(2, 9)", x.told(2, 9), 0);
        Check.due("told(1, 5)", x.told(1, 5), 3);
        Check.due("told(1, 6)", x.told(1, 6), 3);
        x.refit(2, 9);
        Check.due("told(2, 5), since it was refitted", x.told(2, 5), 0);
        Check.due("count(3)", x.count(3), 3);
        Check.due("left(3)", x.left(3), 2);
        Check.due("told(2, 2)", x.told(2, 2), 0);
    }

    private static void slot() {
        Check.about("promise 30");
        SortWorks x = new SortWorks();
        x.gear(0, 2);
        x.gear(9, 0);
        x.come(0, 1, 1);
        Check.due("slot(2, 0)", x.slot(2, 0), UNKNOWN);
        Check.due("slot(-1, 0)", x.slot(-1, 0), UNKNOWN);
        Check.due("slot(0, 0)", x.slot(0, 0), 1);
        Check.due("slot(0, 1)", x.slot(0, 1), 0);
        Check.due("slot(0, 2)", x.slot(0, 2), OUTSIDE);
        Check.due("slot(0, -1)", x.slot(0, -1), OUTSIDE);
        Check.due("slot(1, 0)", x.slot(1, 0), OUTSIDE);
    }

    private static void linkOf() {
        Check.about("promise 31");
        SortWorks x = new SortWorks();
        x.gear(9, 0);
        Check.due("linkOf(1, 0)", x.linkOf(1, 0), UNKNOWN);
        Check.due("linkOf(0, 0), NOTHING", x.linkOf(0, 0), NONE);
        Check.links(x, 0, -1, 0, 39);
        Check.due("linkOf(0, 0)", x.linkOf(0, 0), 0);
        Check.due("linkOf(0, 1)", x.linkOf(0, 1), 1);
        Check.due("linkOf(0, 2)", x.linkOf(0, 2), 40);
        Check.due("linkOf(0, 3)", x.linkOf(0, 3), NONE);
        Check.due("linkOf(0, -1)", x.linkOf(0, -1), NONE);
    }

    private static void parcel() {
        Check.about("promise 32");
        SortWorks x = new SortWorks();
        x.gear(3, 2);
        Check.load(x, ":9;");
        x.come(0, 321, 7);
        x.tag(1, 1, 1);
        Check.due("parcel(2, 99)", x.parcel(2, 99), UNKNOWN);
        Check.due("parcel(0, 0)", x.parcel(0, 0), UNKNOWN);
        Check.due("parcel(-1, 0)", x.parcel(-1, 0), UNKNOWN);
        Check.due("parcel(1, 8)", x.parcel(1, 8), OUTSIDE);
        Check.due("parcel(1, -1)", x.parcel(1, -1), OUTSIDE);
        Check.steps(x, 2);
        int[] want = {0, 1, 321, 7, 9, 1, 6, 1};
        for (int what = 0; what < want.length; what++) {
            Check.due("parcel(1, " + what + ")", x.parcel(1, what), want[what]);
        }
        x.works(1);
        Check.due("parcel(1, 0), INSIDE another WORKS", x.parcel(1, 0), UNKNOWN);
    }

    private static void wayAndBytes() {
        Check.about("promises 33 and 34");
        SortWorks x = new SortWorks();
        x.gear(0, 1);
        x.gear(0, 1);
        x.come(1, 1, 1);
        for (int i = 0; i < 17; i++) {
            x.carry(1, i % 2);
        }
        Check.due("parcel(1, 5), all are counted", x.parcel(1, 5), 18);
        for (int i = 0; i < 16; i++) {
            Check.due("way(1, " + i + ")", x.way(1, i), 1 - i % 2);
        }
        Check.due("way(1, 16)", x.way(1, 16), NONE);
        Check.due("way(1, 17)", x.way(1, 17), NONE);
        Check.due("way(1, -1)", x.way(1, -1), NONE);
        Check.due("way(2, 0)", x.way(2, 0), UNKNOWN);
        Check.due("byteOf(2, 0)", x.byteOf(2, 0), UNKNOWN);
        Check.due("byteOf(1, 0)", x.byteOf(1, 0), NONE);
        x.label(1, 1);
        x.put(1, 0, 255);
        Check.due("byteOf(1, 0)", x.byteOf(1, 0), 255);
        Check.due("byteOf(1, 1)", x.byteOf(1, 1), NONE);
        Check.due("byteOf(1, -1)", x.byteOf(1, -1), NONE);
        x.works(2);
        Check.due("way(1, 0), INSIDE another WORKS", x.way(1, 0), UNKNOWN);
        Check.due("byteOf(1, 0)", x.byteOf(1, 0), UNKNOWN);
        x.works(0);
        x.come(x.parcel(1, 0) == 0 ? 1 : 0, 1, 1);
        Check.due("parcel(2, 5), a WAY of its own", x.parcel(2, 5), 1);
        Check.due("way(2, 1)", x.way(2, 1), NONE);
    }

    private static void left() {
        Check.about("promise 35");
        SortWorks x = new SortWorks();
        for (int w = 0; w < 3; w++) {
            x.works(w);
            x.gear(0, 1);
            x.come(0, 1, 1);
        }
        for (int p = 1; p <= 3; p++) {
            Check.due("left(" + p + "), whatever WORKS is AT HAND", x.left(p), -9 - p);
        }
        Check.due("left(4)", x.left(4), UNKNOWN);
        Check.due("left(0)", x.left(0), UNKNOWN);
        Check.due("left(-1)", x.left(-1), UNKNOWN);
        Check.due("left(MAX)", x.left(Integer.MAX_VALUE), UNKNOWN);
    }

    /** What comes where another one was OUT has nothing of that one. */
    private static void nothingOfTheOneBefore() {
        Check.about("promises 13 and 32 to 34, a PARCEL behind one that is OUT");
        SortWorks x = new SortWorks();
        Check.buildSorter(x);
        x.come(0, 5, 5);
        x.tag(1, 0, 1);
        Check.steps(x, 2);
        Check.due("left(1)", x.left(1), 2);
        Check.due("come(0, 6, 6)", x.come(0, 6, 6), 2);
        int[] want = {0, 0, 6, 6, NONE, 1, NONE, 0};
        for (int what = 0; what < want.length; what++) {
            Check.due("parcel(2, " + what + ")", x.parcel(2, what), want[what]);
        }
        Check.due("way(2, 0)", x.way(2, 0), 0);
        Check.due("way(2, 1)", x.way(2, 1), NONE);
        Check.due("byteOf(2, 0)", x.byteOf(2, 0), NONE);
        x.label(2, 12);
        for (int i = 0; i < 12; i++) {
            Check.due("byteOf(2, " + i + ")", x.byteOf(2, i), 0);
        }
    }

    /** 32 PARCELS go by DOORS 39 and 0 in turn, each in the second STEP behind its coming. */
    private static void outs() {
        Check.about("promise 36");
        SortWorks x = new SortWorks();
        x.works(1);
        x.gear(9, 0);
        x.gear(7, 1);
        x.gear(3, 1);
        for (int g = 3; g < 40; g++) {
            x.gear(9, 0);
        }
        Check.links(x, 2, 1);
        Check.links(x, 1, 0, 39);
        Check.load(x, ":1;");
        x.door(39, true);
        for (int p = 1; p <= 32; p++) {
            x.door(0, p % 2 == 0);
            x.come(2, 1, 1);
            x.tag(p, 0, 1);
            Check.steps(x, 2);
        }
        Check.due("count(3)", x.count(3), 32);
        for (int i = 0; i < 30; i++) {
            int p = 32 - i;
            Check.due("out(" + i + ", 0)", x.out(i, 0), p);
            Check.due("out(" + i + ", 1)", x.out(i, 1), p % 2 == 0 ? 0 : 39);
            Check.due("out(" + i + ", 2)", x.out(i, 2), 2 * p);
            Check.due("out(" + i + ", 3)", x.out(i, 3), 1);
            Check.due("left(" + p + ")", x.left(p), 1000 + (p % 2 == 0 ? 0 : 39));
        }
        Check.due("out(30, 0)", x.out(30, 0), NONE);
        Check.due("out(-1, 0)", x.out(-1, 0), NONE);
        Check.due("out(0, 4)", x.out(0, 4), NONE);
        Check.due("out(0, -1)", x.out(0, -1), NONE);
        x.works(0);
        Check.due("out(0, 0) of another WORKS", x.out(0, 0), NONE);
    }

    private static void audit() {
        Check.about("promise 46");
        SortWorks x = new SortWorks();
        Check.due("audit() without GEAR", x.audit(), NONE);
        x.gear(0, 2);
        x.gear(8, 1);
        x.come(0, 1, 1);
        Check.due("audit()", x.audit(), NONE);
        Check.steps(x, 9);
        x.clear(0);
        Check.due("audit()", x.audit(), NONE);
        x.carry(1, 0);
        x.come(0, 1, 1);
        Check.due("audit()", x.audit(), NONE);
        x.back(9);
        Check.due("audit()", x.audit(), NONE);
        x.refit(1, 7);
        Check.due("audit()", x.audit(), NONE);
    }

    private static void count() {
        Check.about("promise 47");
        SortWorks x = new SortWorks();
        Check.due("count(-1)", x.count(-1), NONE);
        Check.due("count(14)", x.count(14), NONE);
        x.works(1);
        x.gear(3, 1);
        x.gear(7, 1);
        x.gear(9, 0);
        Check.links(x, 0, 1);
        Check.links(x, 1, 2);
        Check.load(x, ":1;D=1:2;");
        x.plan(2, 5, 0, 0, 0);
        x.door(2, true);
        x.come(0, 1, 1);
        x.tag(1, 0, 1);
        Check.steps(x, 2);
        x.come(0, 1, 1);
        x.step();
        x.door(0, true);
        x.letter('x');
        x.works(0);
        x.gear(0, 1);
        x.come(0, 1, 1);
        x.works(1);
        int[] want = {3, 1, 2, 1, 2, 3, 1, 2, 3, 4, 1, 1, 1, 3};
        for (int what = 0; what < want.length; what++) {
            Check.due("count(" + what + ")", x.count(what), want[what]);
        }
    }

    /** All that goes through GEAR or PLANS, where there are as many as there may be. */
    private static void fullHouse() {
        Check.about("40 GEAR and 16 PLANS");
        SortWorks x = new SortWorks();
        for (int g = 0; g < 40; g++) {
            x.gear(0, 1);
        }
        for (int k = 0; k < 16; k++) {
            x.plan(4, 1, 9, 0, 0);
        }
        x.come(39, 1, 1);
        Check.steps(x, 8);
        Check.due("count(6)", x.count(6), 24);
        Check.due("finding(8, 4)", x.finding(8, 4), 15);
        Check.due("jam(0)", x.jam(0), 39);
        Check.due("jam(1)", x.jam(1), NONE);
        Check.due("audit()", x.audit(), NONE);
        Check.due("clear(39)", x.clear(39), -4);
        Check.due("reach(39)", x.reach(39), 0);
        Check.due("back(8)", x.back(8), 0);
        Check.due("told(39, 3)", x.told(39, 3), 0);
        x.works(1);
        Check.due("copy(0)", x.copy(0), 40);
        Check.due("step()", x.step(), 1);
        Check.due("count(6)", x.count(6), 16);
    }

    private static long mix(long d, long... all) {
        long mixed = d;
        for (long x : all) {
            mixed = 31 * mixed + x;
        }
        return mixed;
    }

    private static void digest() {
        Check.about("promise 48");
        SortWorks x = new SortWorks();
        Check.due("digest()", x.digest(), mix(17, 0, 0, 0, 0, 0, 0));
        x.gear(1, 1);
        x.gear(10, 0);
        // KIND; SIDE, WAIT, LAMP, CAME, WENT, FINDINGS, ACTS, LOAD, RELEASES, RANK, PACE, LAST, DIAL; SLOTS
        Check.due("digest()", x.digest(), mix(17, 0, 2, 1, 0, 0, 0, 0, 0, 0, 0, 0, 0, 2, 2, 0, 0, 0,
                10, 0, 0, 0, 0, 0, 0, 0, 0, 0, 0, 1, 0, 0, 0, 0, 0, 0));
        x.step();
        Check.due("digest()", x.digest(), mix(17, 1, 2, 1, 0, 0, 0, 0, 0, 0, 0, 0, 0, 2, 2, 0, 0, 0,
                10, 0, 0, 3, 0, 0, 1, 1, 0, 0, 0, 1, 0, 0, 0, 0, 0, 1));
    }

    private static void digestOfParcels() {
        Check.about("promise 48, PARCELS");
        SortWorks x = new SortWorks();
        x.gear(3, 2);
        x.gear(8, 1);
        x.come(0, 999, 9);
        x.release(1, 4);
        Check.steps(x, 2);
        x.come(0, 1, 0);
        // Of SCANNER 0: WAIT 1, LAMP 3, CAME 2, FINDINGS 1, ACTS 2, LOAD 2, RANK 1, PACE 1; TARGETS NONE and UNREAD.
        Check.due("digest()", x.digest(), mix(17, 2, 2,
                3, 0, 1, 3, 2, 0, 1, 2, 2, 0, 1, 1, 0, 0, 16, -9, 16 * 999 + 9, -8,
                8, 0, 0, 1, 0, 0, 0, 2, 0, 4, 1, 1, 0, 0, 0,
                2, 2, 0, 1));
    }
}
