/** Promises 1 to 12: a new object, and what builds. */
final class BuildTest {
    private static final int UNKNOWN = -1, OUTSIDE = -2, STATE = -3, FULL = -4, NONE = -9;
    private static final int NULL = -11, CAST = -12, INDEX = -13, SIZE = -15;

    public static void main(String[] args) {
        newObject();
        works();
        gear();
        firstsOfKinds();
        links();
        link();
        aim();
        rank();
        refit();
        refitKeepsWhatNamesIt();
        copy();
        copyPlans();
        copyOfItself();
        letter();
        load();
        plan();
        buildingForgets();
        Check.end();
    }

    private static void newObject() {
        Check.about("promise 1");
        SortWorks x = new SortWorks();
        for (int w = 0; w < 3; w++) {
            Check.due("works(" + w + ")", x.works(w), w == 0 ? 0 : w - 1);
            for (int what = 0; what <= 13; what++) {
                Check.due("count(" + what + ") of WORKS " + w, x.count(what), what == 12 ? w : 0);
            }
            Check.due("told(0, 0)", x.told(0, 0), UNKNOWN);
            Check.due("tally(0, 0)", x.tally(3, 0), NULL);
            Check.due("back(1)", x.back(1), STATE);
            Check.due("digest()", x.digest(), ((((((17L * 31) * 31) * 31) * 31) * 31) * 31));
            x = w == 2 ? x : again(w);
        }
        Check.due("status()", new SortWorks().status(), 0);
        Check.due("left(1)", new SortWorks().left(1), UNKNOWN);
        Check.due("left(0)", new SortWorks().left(0), UNKNOWN);
    }

    private static SortWorks again(int w) {
        SortWorks x = new SortWorks();
        x.works(w);
        return x;
    }

    private static void works() {
        Check.about("promise 2");
        SortWorks x = new SortWorks();
        Check.due("works(2)", x.works(2), 0);
        Check.due("gear(9, 0)", x.gear(9, 0), 0);
        Check.due("works(2)", x.works(2), 2);
        Check.refused(x, "works(3)", x.works(3), UNKNOWN);
        Check.refused(x, "works(-1)", x.works(-1), UNKNOWN);
        Check.due("count(12)", x.count(12), 2);
        Check.due("works(1)", x.works(1), 2);
        Check.due("status()", x.status(), 0);
        Check.due("count(0)", x.count(0), 0);
        Check.due("step()", x.step(), 1);
        Check.due("works(0)", x.works(0), 1);
        Check.due("count(5)", x.count(5), 0);
    }

    private static void gear() {
        Check.about("promise 3");
        SortWorks x = new SortWorks();
        Check.refused(x, "gear(-1, 1)", x.gear(-1, 1), OUTSIDE);
        Check.refused(x, "gear(11, 1)", x.gear(11, 1), OUTSIDE);
        Check.refused(x, "gear(0, 0)", x.gear(0, 0), OUTSIDE);
        Check.refused(x, "gear(8, 9)", x.gear(8, 9), OUTSIDE);
        Check.refused(x, "gear(0, -1)", x.gear(0, -1), OUTSIDE);
        Check.due("count(0)", x.count(0), 0);
        Check.due("gear(8, 8)", x.gear(8, 8), 0);
        Check.due("status()", x.status(), 0);
        Check.due("gear(9, -77)", x.gear(9, -77), 1);
        Check.due("gear(10, 99)", x.gear(10, 99), 2);
        Check.due("told(0, 1)", x.told(0, 1), 8);
        Check.due("told(1, 1)", x.told(1, 1), 0);
        Check.due("told(2, 1)", x.told(2, 1), 0);
        for (int k = 3; k < 40; k++) {
            Check.due("gear(0, 1)", x.gear(0, 1), k);
        }
        Check.refused(x, "gear(0, 9), OUTSIDE ahead of FULL", x.gear(0, 9), OUTSIDE);
        Check.refused(x, "gear(0, 1)", x.gear(0, 1), FULL);
        Check.due("count(0)", x.count(0), 40);
        x.works(1);
        Check.due("gear(0, 1) of another WORKS", x.gear(0, 1), 0);
    }

    private static void firstsOfKinds() {
        Check.about("promise 3, what KINDS lend");
        SortWorks x = new SortWorks();
        int[] ranks = {1, 2, 1, 1, 4, 3, 3, 1, 1, 0, 0};
        int[] paces = {1, 2, 1, 1, 2, 1, 1, 1, 1, 1, 1};
        for (int kind = 0; kind <= 10; kind++) {
            x.gear(kind, 2);
            for (int what = 0; what <= 15; what++) {
                int want = what == 0 ? kind : what == 1 ? kind <= 8 ? 2 : 0 : what == 11 ? ranks[kind]
                        : what == 12 ? paces[kind] : what == 15 ? NONE : 0;
                Check.due("told(" + kind + ", " + what + ")", x.told(kind, what), want);
            }
        }
    }

    private static void links() {
        Check.about("promise 4");
        SortWorks x = new SortWorks();
        x.gear(0, 1);
        Check.refused(x, "links(1, 9), UNKNOWN ahead of OUTSIDE", x.links(1, 9), UNKNOWN);
        Check.refused(x, "links(-1, 1)", x.links(-1, 1), UNKNOWN);
        Check.refused(x, "links(0, 4)", x.links(0, 4), OUTSIDE);
        Check.due("count(7)", x.count(7), 0);
        Check.refused(x, "links(0, -2)", x.links(0, -2), SIZE);
        Check.refused(x, "links(0, MIN)", x.links(0, Integer.MIN_VALUE), SIZE);
        Check.due("count(7)", x.count(7), 2);
        Check.due("told(0, 15)", x.told(0, 15), NONE);
        Check.due("links(0, 3)", x.links(0, 3), 3);
        Check.due("status()", x.status(), 0);
        for (int k = 0; k < 3; k++) {
            Check.due("linkOf(0, " + k + ")", x.linkOf(0, k), 0);
        }
        x.link(0, 1, 7);
        Check.due("links(0, 3) again", x.links(0, 3), 3);
        Check.due("linkOf(0, 1)", x.linkOf(0, 1), 0);
        Check.due("links(0, 0)", x.links(0, 0), 0);
        Check.due("told(0, 15)", x.told(0, 15), 0);
        Check.due("links(0, -1)", x.links(0, -1), -1);
        Check.due("status() behind an answer of -1 that is no refusal", x.status(), 0);
        Check.due("told(0, 15)", x.told(0, 15), NONE);
    }

    private static void link() {
        Check.about("promise 5");
        SortWorks x = new SortWorks();
        x.gear(0, 1);
        Check.refused(x, "link(1, 0, 40)", x.link(1, 0, 40), UNKNOWN);
        Check.refused(x, "link(0, 0, 40), OUTSIDE ahead of NULL", x.link(0, 0, 40), OUTSIDE);
        Check.refused(x, "link(0, 0, -2)", x.link(0, 0, -2), OUTSIDE);
        Check.refused(x, "link(0, 0, 0)", x.link(0, 0, 0), NULL);
        Check.refused(x, "link(0, -5, 0), NULL ahead of INDEX", x.link(0, -5, 0), NULL);
        x.links(0, 2);
        Check.refused(x, "link(0, 2, 0)", x.link(0, 2, 0), INDEX);
        Check.refused(x, "link(0, -1, 0)", x.link(0, -1, 0), INDEX);
        Check.due("count(7)", x.count(7), 4);
        Check.due("link(0, 1, 39)", x.link(0, 1, 39), 1);
        Check.due("status()", x.status(), 0);
        Check.due("linkOf(0, 1)", x.linkOf(0, 1), 40);
        Check.due("linkOf(0, 0)", x.linkOf(0, 0), 0);
        Check.due("link(0, 1, -1)", x.link(0, 1, -1), 1);
        Check.due("linkOf(0, 1)", x.linkOf(0, 1), 0);
    }

    private static void aim() {
        Check.about("promise 6");
        SortWorks x = new SortWorks();
        x.gear(5, 1);
        x.gear(6, 1);
        x.gear(0, 1);
        Check.refused(x, "aim(3, 0, 0, true)", x.aim(3, 0, 0, true), UNKNOWN);
        Check.refused(x, "aim(2, 0, 0, true), OUTSIDE ahead of CAST", x.aim(2, 0, 0, true), OUTSIDE);
        Check.refused(x, "aim(2, 3, 0, true)", x.aim(2, 3, 0, true), OUTSIDE);
        Check.refused(x, "aim(0, 1, -1, true)", x.aim(0, 1, -1, true), OUTSIDE);
        Check.refused(x, "aim(0, 2, 40, true), OUTSIDE ahead of INDEX", x.aim(0, 2, 40, true), OUTSIDE);
        Check.refused(x, "aim(2, 1, 0, true)", x.aim(2, 1, 0, true), CAST);
        Check.refused(x, "aim(0, 2, 0, true)", x.aim(0, 2, 0, true), INDEX);
        Check.due("count(7)", x.count(7), 2);
        Check.due("aim(0, 1, 39, true)", x.aim(0, 1, 39, true), 1);
        Check.due("aim(0, 1, 39, true)", x.aim(0, 1, 39, true), 0);
        Check.due("aim(0, 1, 38, false)", x.aim(0, 1, 38, false), 0);
        Check.due("aim(0, 1, 39, false)", x.aim(0, 1, 39, false), 1);
        Check.due("aim(0, 1, 39, false)", x.aim(0, 1, 39, false), 0);
        Check.due("aim(1, 2, 0, true)", x.aim(1, 2, 0, true), 1);
        Check.due("aim(1, 1, 0, true), of another SET", x.aim(1, 1, 0, true), 1);
        Check.due("aim(1, 1, 33, true)", x.aim(1, 1, 33, true), 1);
        Check.due("aim(1, 1, 1, false), 33 is not 1", x.aim(1, 1, 1, false), 0);
        Check.due("status()", x.status(), 0);
    }

    private static void rank() {
        Check.about("promise 7");
        SortWorks x = new SortWorks();
        x.gear(4, 1);
        x.gear(9, 0);
        x.gear(10, 0);
        x.gear(8, 1);
        Check.refused(x, "rank(4, 10)", x.rank(4, 10), UNKNOWN);
        Check.refused(x, "rank(1, 10), OUTSIDE ahead of CAST", x.rank(1, 10), OUTSIDE);
        Check.refused(x, "rank(0, -1)", x.rank(0, -1), OUTSIDE);
        Check.refused(x, "rank(1, 5)", x.rank(1, 5), CAST);
        Check.refused(x, "rank(2, 5)", x.rank(2, 5), CAST);
        Check.due("rank(0, 9)", x.rank(0, 9), 4);
        Check.due("status()", x.status(), 0);
        Check.due("rank(0, 0)", x.rank(0, 0), 9);
        Check.due("told(0, 11)", x.told(0, 11), 0);
        Check.due("rank(3, 2)", x.rank(3, 2), 1);
        Check.due("told(1, 11)", x.told(1, 11), 0);
    }

    private static void refit() {
        Check.about("promise 8");
        SortWorks x = new SortWorks();
        x.gear(0, 3);
        x.gear(9, 0);
        x.gear(5, 2);
        Check.refused(x, "refit(3, 11)", x.refit(3, 11), UNKNOWN);
        Check.refused(x, "refit(0, 11)", x.refit(0, 11), OUTSIDE);
        Check.refused(x, "refit(0, -1)", x.refit(0, -1), OUTSIDE);
        x.come(0, 5, 5);
        Check.refused(x, "refit(0, 9), CAST ahead of STATE", x.refit(0, 9), CAST);
        Check.refused(x, "refit(1, 8)", x.refit(1, 8), CAST);
        Check.refused(x, "refit(0, 0)", x.refit(0, 0), STATE);
        Check.due("told(0, 0)", x.told(0, 0), 0);
        Check.due("refit(1, 10)", x.refit(1, 10), 9);
        Check.due("refit(1, 9)", x.refit(1, 9), 10);

        Check.about("promise 8, as if it came now");
        x.door(1, true);
        Check.links(x, 1, 0, 2);
        x.step();
        Check.due("refit(1, 9)", x.refit(1, 9), 9);
        Check.due("told(1, 2)", x.told(1, 2), 0);
        Check.due("told(1, 4)", x.told(1, 4), 0);
        Check.due("told(1, 8)", x.told(1, 8), 0);
        Check.due("linkOf(1, 1)", x.linkOf(1, 1), 3);
        x.refit(2, 6);
        x.aim(2, 1, 4, true);
        x.aim(2, 2, 5, true);
        Check.due("refit(2, 5)", x.refit(2, 5), 6);
        Check.due("aim(2, 1, 4, false)", x.aim(2, 1, 4, false), 0);
        x.rank(2, 9);
        x.aim(2, 1, 4, true);
        x.turn(2, 1);
        Check.due("refit(2, 6)", x.refit(2, 6), 5);
        Check.due("status()", x.status(), 0);
        Check.due("told(2, 0)", x.told(2, 0), 6);
        Check.due("told(2, 1)", x.told(2, 1), 2);
        Check.due("told(2, 2)", x.told(2, 2), 0);
        Check.due("told(2, 11)", x.told(2, 11), 3);
        Check.due("aim(2, 1, 4, true)", x.aim(2, 1, 4, true), 1);
        Check.due("aim(2, 2, 5, false)", x.aim(2, 2, 5, false), 0);
    }

    /** A MERGE has taken from GEAR 0; a HOLD has RELEASES; a PANEL has a DIAL: all of that is gone by refit(). */
    private static void refitKeepsWhatNamesIt() {
        Check.about("promise 8, LASTS");
        SortWorks x = new SortWorks();
        x.gear(0, 1);
        x.gear(2, 1);
        x.gear(8, 1);
        x.gear(10, 0);
        x.gear(0, 2);
        Check.links(x, 0, 1);
        Check.links(x, 1, 4);
        Check.links(x, 3, 1);
        x.release(2, 7);
        x.come(0, 1, 1);
        x.step();
        Check.due("told(1, 13)", x.told(1, 13), 1);
        Check.due("told(3, 14)", x.told(3, 14), 1);
        Check.due("refit(0, 3)", x.refit(0, 3), 0);
        Check.due("told(0, 6), WENT", x.told(0, 6), 0);
        Check.due("told(1, 13) stays", x.told(1, 13), 1);
        Check.links(x, 3, 4);
        x.step();
        Check.due("refit(1, 2)", x.refit(1, 2), 2);
        Check.due("told(1, 13) of its own", x.told(1, 13), 0);
        Check.due("told(1, 5)", x.told(1, 5), 0);
        Check.due("refit(2, 8)", x.refit(2, 8), 8);
        Check.due("told(2, 10)", x.told(2, 10), 0);
        x.links(3, -1);
        x.step();
        Check.due("told(3, 7)", x.told(3, 7), 1);
        Check.due("told(3, 4)", x.told(3, 4), 3);
        Check.due("told(3, 14), of the STEP before", x.told(3, 14), 1);
        Check.due("refit(3, 10)", x.refit(3, 10), 10);
        Check.due("told(3, 14), its DIAL", x.told(3, 14), 0);
        Check.due("told(3, 7)", x.told(3, 7), 0);
        Check.due("told(3, 4)", x.told(3, 4), 0);
        Check.steps(x, 9);
        Check.due("told(4, 3)", x.told(4, 3), 9);
        x.carry(1, 0);
        Check.due("refit(4, 0)", x.refit(4, 0), 0);
        Check.due("told(4, 3), WAIT", x.told(4, 3), 0);
        Check.due("jam(0)", x.jam(0), NONE);
    }

    private static void copy() {
        Check.about("promise 9");
        SortWorks x = new SortWorks();
        x.gear(6, 2);
        x.gear(9, 0);
        x.gear(0, 4);
        x.gear(8, 1);
        Check.links(x, 0, 2, -1, 30);
        x.links(2, 0);
        x.rank(0, 8);
        x.aim(0, 1, 5, true);
        x.aim(0, 2, 6, true);
        x.turn(0, 2);
        x.door(1, true);
        x.release(3, 5);
        x.come(2, 9, 9);
        Check.load(x, ":07;D=1:8;");
        x.plan(4, 1, 0, 1, 0);
        x.plan(2, 1, 1, 2, 3);
        Check.refused(x, "copy(3)", x.copy(3), UNKNOWN);
        Check.refused(x, "copy(-1)", x.copy(-1), UNKNOWN);
        Check.refused(x, "copy(1)", x.copy(1), STATE);
        x.works(1);
        x.gear(0, 1);
        Check.refused(x, "copy(0) into one GEAR", x.copy(0), STATE);
        x.works(2);
        x.plan(1, 5, 0, 0, 0);
        x.plan(1, 6, 0, 0, 0);
        x.plan(1, 7, 0, 0, 0);
        Check.load(x, ":1;:2;:3;");
        x.step();
        Check.due("copy(0)", x.copy(0), 4);
        Check.due("status()", x.status(), 0);
        int[] want = {6, 2, 0, 0, 0, 0, 0, 0, 0, 0, 0, 8, 1, 0, 0, 3};
        for (int what = 0; what < want.length; what++) {
            Check.due("told(0, " + what + ")", x.told(0, what), want[what]);
        }
        Check.due("told(1, 2), OPEN", x.told(1, 2), 1);
        Check.due("told(2, 15)", x.told(2, 15), 0);
        Check.due("told(2, 9), LOAD", x.told(2, 9), 0);
        Check.due("told(2, 5), CAME", x.told(2, 5), 0);
        Check.due("told(3, 10), RELEASES", x.told(3, 10), 0);
        Check.due("told(3, 15), NOTHING", x.told(3, 15), NONE);
        Check.due("linkOf(0, 2)", x.linkOf(0, 2), 31);
        Check.due("aim(0, 1, 5, true)", x.aim(0, 1, 5, true), 0);
        Check.due("aim(0, 2, 6, true)", x.aim(0, 2, 6, true), 0);
        Check.due("aim(0, 2, 5, false)", x.aim(0, 2, 5, false), 0);
        Check.due("said", Check.said(x).equals(":7;D=1:8;") ? 1 : 0, 1);
        Check.due("count(4)", x.count(4), 2);
        Check.due("count(11)", x.count(11), 2);
        Check.due("count(5), TIME stays", x.count(5), 1);
        Check.due("count(1)", x.count(1), 0);
        Check.due("count(8)", x.count(8), 0);
        x.link(0, 0, 3);
        x.works(0);
        Check.due("linkOf(0, 0) of the first, whose ROWS are its own", x.linkOf(0, 0), 3);
        Check.due("step(), in which both PLANS are done", x.step(), 1);
        Check.due("told(1, 2)", x.told(1, 2), 0);
    }

    /** PLANS that were copied are done as they are, each of its own length, and are not those of the other WORKS. */
    private static void copyPlans() {
        Check.about("promise 9, PLANS");
        SortWorks x = new SortWorks();
        x.gear(9, 0);
        x.gear(8, 1);
        x.plan(4, 1, 0, 0, 7);
        x.plan(3, 1, 2, 1, 5);
        x.plan(4, 2, 2, 1, 6);
        x.works(1);
        x.plan(1, 1, 0, 0, 0);
        x.plan(4, 1, 2, 1, 4);
        x.copy(0);
        Check.due("step()", x.step(), 1);
        Check.due("told(0, 2)", x.told(0, 2), 1);
        Check.due("told(1, 10)", x.told(1, 10), 0);
        Check.due("count(6)", x.count(6), 1);
        Check.due("finding(0, 4)", x.finding(0, 4), 1);
        Check.due("plan()", x.plan(4, 2, 0, 0, 0), 3);
        x.step();
        Check.due("told(1, 10)", x.told(1, 10), 6);
        Check.due("told(0, 2)", x.told(0, 2), 0);
        x.works(0);
        Check.due("count(11)", x.count(11), 3);
    }

    private static void copyOfItself() {
        Check.about("promise 9, of itself");
        SortWorks x = new SortWorks();
        Check.load(x, ":1;");
        x.plan(1, 5, 0, 0, 0);
        x.step();
        Check.due("copy(0)", x.copy(0), 0);
        Check.due("count(4)", x.count(4), 1);
        Check.due("count(11)", x.count(11), 1);
        Check.due("count(8), nothing is KEPT any more", x.count(8), 0);
        x.works(1);
        Check.due("copy(0)", x.copy(0), 0);
        Check.due("count(11)", x.count(11), 1);
        Check.due("copy(2), of one with nothing", x.copy(2), 0);
        Check.due("count(4)", x.count(4), 0);
        Check.due("count(11)", x.count(11), 0);
        Check.due("said(0)", x.said(0), NONE);
    }

    private static void letter() {
        Check.about("promise 10");
        SortWorks x = new SortWorks();
        Check.refused(x, "letter(32)", x.letter(32), OUTSIDE);
        Check.refused(x, "letter(127)", x.letter(127), OUTSIDE);
        Check.due("letter(33)", x.letter(33), 1);
        Check.due("letter(126)", x.letter(126), 2);
        Check.due("count(10)", x.count(10), 2);
        x.works(1);
        for (int i = 3; i <= 200; i++) {
            Check.due("letter(58)", x.letter(58), i);
        }
        Check.due("status()", x.status(), 0);
        Check.refused(x, "letter(32), OUTSIDE ahead of FULL", x.letter(32), OUTSIDE);
        Check.refused(x, "letter(58)", x.letter(58), FULL);
        Check.due("count(10)", x.count(10), 200);
        Check.refused(x, "load()", x.load(), -100);
        Check.due("count(10)", x.count(10), 0);
        Check.due("letter(58)", x.letter(58), 1);
    }

    private static void load() {
        Check.about("promise 11");
        SortWorks x = new SortWorks();
        Check.refused(x, "load() of no letters", x.load(), -100);
        Check.due("count(7), that is no FAULT", x.count(7), 0);
        Check.type(x, ":1;:2;");
        x.works(1);
        Check.due("load()", x.load(), 2);
        Check.due("status()", x.status(), 0);
        Check.due("count(4)", x.count(4), 2);
        Check.due("count(10)", x.count(10), 0);
        x.step();
        Check.refused(x, "load() of :1;:", Check.load(x, ":1;:"), -104);
        Check.due("count(4), the RULES stay", x.count(4), 2);
        Check.due("count(8), what is KEPT too", x.count(8), 1);
        Check.due("count(10)", x.count(10), 0);
        Check.due("load() of one", Check.load(x, ":39;"), 1);
        Check.due("count(4)", x.count(4), 1);
        Check.due("count(8)", x.count(8), 0);
        x.works(0);
        Check.due("count(4)", x.count(4), 0);
    }

    private static void plan() {
        Check.about("promise 12");
        SortWorks x = new SortWorks();
        Check.refused(x, "plan(0, ..)", x.plan(0, 1, 0, 0, 0), OUTSIDE);
        Check.refused(x, "plan(5, ..)", x.plan(5, 1, 0, 0, 0), OUTSIDE);
        Check.refused(x, "plan(4, -1, ..)", x.plan(4, -1, 0, 0, 0), OUTSIDE);
        Check.refused(x, "plan(4, 10000, ..)", x.plan(4, 10000, 0, 0, 0), OUTSIDE);
        Check.due("plan(1, 0, ..)", x.plan(1, 0, 0, 0, 0), 0);
        Check.due("plan(4, 9999, wild)", x.plan(4, 9999, Integer.MIN_VALUE, Integer.MAX_VALUE, -1), 1);
        for (int k = 2; k < 16; k++) {
            Check.due("plan(4, 1, 0, 0, 0)", x.plan(4, 1, 0, 0, 0), k);
        }
        Check.due("status()", x.status(), 0);
        Check.refused(x, "plan(0, ..), OUTSIDE ahead of FULL", x.plan(0, 1, 0, 0, 0), OUTSIDE);
        Check.refused(x, "plan(4, 1, 0, 0, 0)", x.plan(4, 1, 0, 0, 0), FULL);
        Check.due("count(11)", x.count(11), 16);
    }

    /** Each call that builds makes an end of what is KEPT, in the WORKS AT HAND alone; a refused one does not. */
    private static void buildingForgets() {
        Check.about("what builds");
        SortWorks x = new SortWorks();
        x.gear(5, 1);
        x.works(1);
        x.step();
        x.works(0);
        for (int call = 0; call < 9; call++) {
            x.step();
            x.step();
            Check.due("count(8)", x.count(8), 2);
            int refused = builds(x, call, true);
            Check.due("refused call " + call + " is below 0", refused < 0 ? 1 : 0, 1);
            x.letter(58);
            x.come(0, 0, 0);
            Check.due("count(8) behind refused call " + call, x.count(8), 2);
            int answer = builds(x, call, false);
            Check.due("call " + call + " is not refused", answer >= 0 ? 1 : 0, 1);
            Check.due("count(8) behind call " + call, x.count(8), 0);
            Check.due("back(1)", x.back(1), STATE);
        }
        x.works(1);
        Check.due("count(8) of another WORKS", x.count(8), 1);
    }

    private static int builds(SortWorks x, int call, boolean wrong) {
        switch (call) {
            case 0:
                return wrong ? x.gear(11, 1) : x.gear(0, 1);
            case 1:
                return wrong ? x.links(0, -2) : x.links(0, 1);
            case 2:
                return wrong ? x.link(0, 1, 0) : x.link(0, 0, -1);
            case 3:
                return wrong ? x.aim(0, 2, 0, true) : x.aim(0, 1, 0, false);
            case 4:
                return wrong ? x.rank(0, 10) : x.rank(0, 3);
            case 5:
                return wrong ? x.refit(0, 9) : x.refit(0, 5);
            case 6:
                return wrong ? x.plan(0, 0, 0, 0, 0) : x.plan(1, 0, 0, 0, 0);
            case 7:
                return wrong ? x.load() : Check.load(x, "1;");
            default:
                return wrong ? x.copy(3) : copyAnew(x);
        }
    }

    /** copy() wants a WORKS without GEAR, so it is tried on a third one, which is then changed for the first again. */
    private static int copyAnew(SortWorks x) {
        x.works(2);
        x.step();
        int answer = x.copy(0);
        Check.due("count(8) behind copy()", x.count(8), 0);
        x.works(0);
        x.rank(0, 3);
        return answer;
    }
}
