/** Promise 25, with all that part 4 of the terms says of a STEP, and promises 40 to 42 where a STEP makes what they tell. */
final class StepTest {
    private static final int FULL = -4, UNREAD = -8, NONE = -9;
    private static final int NULL = 1, CAST = 2, INDEX = 3;

    public static void main(String[] args) {
        time();
        faultsAreFull();
        faultsAreJustFull();
        belt();
        curve();
        orderOfGear();
        ring();
        mergeByRank();
        mergeByLast();
        mergeAndHold();
        mergeOfNumberZero();
        mergeIsFull();
        scanner();
        scannerFault();
        scale();
        divert();
        cross();
        divertTurnsWhenEmpty();
        chute();
        chuteFaults();
        hold();
        giveFaults();
        panel();
        plans();
        planTurns();
        planFaults();
        findingsAreKept();
        traceOfKinds();
        traceOfAsked();
        traceIsKept();
        jams();
        Check.end();
    }

    private static void told(SortWorks x, int gear, int what, int want) {
        Check.due("told(" + gear + ", " + what + ")", x.told(gear, what), want);
    }

    private static void slots(SortWorks x, int gear, int... want) {
        for (int k = 0; k < want.length; k++) {
            Check.due("slot(" + gear + ", " + k + ")", x.slot(gear, k), want[k]);
        }
    }

    private static void trace(SortWorks x, int... want) {
        Check.due("count(9)", x.count(9), want.length);
        for (int i = 0; i < want.length; i++) {
            Check.due("trace(" + i + ")", x.trace(i), want[i]);
        }
        Check.due("trace(" + want.length + ")", x.trace(want.length), NONE);
    }

    private static void finding(SortWorks x, int i, int... want) {
        for (int what = 0; what < want.length; what++) {
            Check.due("finding(" + i + ", " + what + ")", x.finding(i, what), want[what]);
        }
    }

    private static void time() {
        Check.about("promise 25");
        SortWorks x = new SortWorks();
        x.works(4);
        Check.due("step() without GEAR", x.step(), 1);
        Check.due("status()", x.status(), 0);
        for (int t = 2; t <= 33; t++) {
            Check.due("step()", x.step(), t);
            Check.due("count(8)", x.count(8), Math.min(t, 30));
        }
        x.works(2);
        Check.due("step() of another WORKS", x.step(), 1);
        Check.due("count(5)", x.count(5), 1);
    }

    private static void faultsAreFull() {
        Check.about("promise 25, FULL");
        SortWorks x = new SortWorks();
        for (int g = 0; g < 40; g++) {
            x.gear(10, 0);
        }
        for (int i = 0; i < 6; i++) {
            x.night(0, 20);
        }
        Check.steps(x, 4);
        Check.due("count(7)", x.count(7), 4960);
        for (int i = 0; i < 39; i++) {
            x.links(0, -2);
        }
        Check.due("count(7)", x.count(7), 4999);
        Check.due("step() with 4,999", x.step(), 125);
        Check.due("count(7)", x.count(7), 5039);
        Check.due("count(6)", x.count(6), 5000);
        Check.refused(x, "step()", x.step(), FULL);
        Check.due("count(5)", x.count(5), 125);
        Check.due("count(8)", x.count(8), 30);
        Check.due("count(9), the TRACE stays", x.count(9), 40);
        x.works(1);
        Check.refused(x, "step() of another WORKS", x.step(), FULL);
        x.gear(0, 1);
        Check.due("night(1, 5) brings one, ahead of the STEP that is FULL", x.night(1, 5), 1);
        Check.due("status(), that is no refusal", x.status(), 0);
        Check.due("slot(0, 0)", x.slot(0, 0), 1);
        Check.due("count(5)", x.count(5), 0);
        Check.due("links(0, -2), FAULTS are counted on", x.links(0, -2), -15);
        Check.due("count(7)", x.count(7), 5040);
    }

    /** 125 STEPS of 40 FAULTS are 5,000 to the one. */
    private static void faultsAreJustFull() {
        Check.about("promise 25, 5,000 FAULTS");
        SortWorks x = new SortWorks();
        x.gear(0, 1);
        for (int g = 1; g < 40; g++) {
            x.gear(10, 0);
        }
        x.come(0, 1, 1);
        for (int i = 0; i < 6; i++) {
            x.night(0, 20);
        }
        Check.due("night(0, 20)", x.night(0, 20), 0);
        Check.due("count(7)", x.count(7), 5000);
        Check.due("count(5)", x.count(5), 125);
        Check.refused(x, "step()", x.step(), FULL);
        x.carry(1, 0);
        Check.due("night(0, 1)", x.night(0, 1), 0);
        Check.due("count(5)", x.count(5), 125);
    }

    private static void belt() {
        Check.about("BELT");
        SortWorks x = new SortWorks();
        x.gear(0, 3);
        x.gear(0, 1);
        Check.links(x, 0, 1);
        x.links(1, 1);
        x.come(0, 1, 1);
        x.step();
        slots(x, 0, 0, 1, 0);
        Check.due("parcel(1, 1)", x.parcel(1, 1), 1);
        told(x, 0, 3, 0);
        told(x, 0, 4, 1);
        told(x, 0, 8, 1);
        x.come(0, 2, 2);
        x.step();
        slots(x, 0, 0, 2, 1);
        x.step();
        slots(x, 0, 0, 0, 2);
        slots(x, 1, 1);
        told(x, 0, 3, 0);
        told(x, 0, 6, 1);
        told(x, 1, 5, 1);
        Check.due("told(1, 3), its PARCEL has MOVED", x.told(1, 3), 0);
        Check.due("told(1, 4)", x.told(1, 4), 1);
        x.step();
        Check.due("told(0, 3), SLOT 0 ahead is not empty", x.told(0, 3), 1);
        told(x, 0, 4, 2);
        told(x, 0, 7, 0);
        Check.due("told(1, 3)", x.told(1, 3), 1);
        told(x, 1, 4, 3);
        told(x, 1, 7, 1);
        x.step();
        told(x, 0, 3, 2);
        Check.due("parcel(1, 5)", x.parcel(1, 5), 2);
        Check.due("way(1, 1)", x.way(1, 1), 1);
        x.carry(1, 0);
        x.step();
        Check.due("told(1, 3), none is there that has not MOVED", x.told(1, 3), 0);
        slots(x, 1, 2);
        slots(x, 0, 0, 1, 0);
        Check.due("audit()", x.audit(), NONE);
    }

    private static void curve() {
        Check.about("CURVE, PACE 2");
        SortWorks x = new SortWorks();
        x.gear(1, 2);
        x.come(0, 1, 1);
        x.step();
        slots(x, 0, 1, 0);
        told(x, 0, 8, 0);
        told(x, 0, 4, 0);
        Check.due("count(9)", x.count(9), 0);
        x.step();
        slots(x, 0, 0, 1);
        told(x, 0, 8, 1);
        told(x, 0, 4, 1);
        x.step();
        told(x, 0, 3, 0);
        x.step();
        told(x, 0, 3, 1);
        told(x, 0, 4, 3);
        x.step();
        told(x, 0, 4, 3);
        told(x, 0, 8, 2);
    }

    /** A PARCEL moves once in a STEP, whether the GEAR that takes it acts ahead of the giver or behind it. */
    private static void orderOfGear() {
        Check.about("MOVED");
        SortWorks x = new SortWorks();
        for (int g = 0; g < 4; g++) {
            x.gear(0, 1);
        }
        Check.links(x, 0, 1);
        Check.links(x, 1, 2);
        Check.links(x, 3, 2);
        x.come(0, 1, 1);
        x.step();
        slots(x, 1, 1);
        x.come(0, 1, 1);
        x.come(3, 1, 1);
        x.step();
        slots(x, 0, 2);
        slots(x, 2, 1);
        slots(x, 3, 3);
        told(x, 0, 3, 1);
        told(x, 3, 3, 1);
    }

    private static void ring() {
        Check.about("a GEAR that leads to itself");
        SortWorks x = new SortWorks();
        x.gear(0, 2);
        x.gear(0, 1);
        Check.links(x, 0, 0);
        Check.links(x, 1, 1);
        x.come(0, 1, 1);
        x.come(1, 1, 1);
        x.step();
        x.step();
        slots(x, 0, 1, 0);
        told(x, 0, 5, 2);
        told(x, 0, 6, 1);
        told(x, 0, 3, 0);
        Check.due("parcel(1, 5)", x.parcel(1, 5), 2);
        Check.due("told(1, 3), its SLOT 0 is not empty", x.told(1, 3), 2);
        told(x, 1, 5, 1);
        for (int i = 0; i < 34; i++) {
            x.step();
        }
        Check.due("parcel(1, 5)", x.parcel(1, 5), 19);
        Check.due("way(1, 15)", x.way(1, 15), 0);
        Check.due("way(1, 16)", x.way(1, 16), NONE);
        Check.due("way(1, -1)", x.way(1, -1), NONE);
    }

    /** GEAR 0 to 3 give to MERGE 4. */
    private static SortWorks four(int... kinds) {
        SortWorks x = new SortWorks();
        for (int kind : kinds) {
            x.gear(kind, 1);
        }
        x.gear(2, 1);
        x.gear(0, 8);
        for (int g = 0; g < kinds.length; g++) {
            Check.links(x, g, 4);
        }
        Check.links(x, 4, 5);
        for (int g = 0; g < kinds.length; g++) {
            x.come(g, 1, g);
        }
        return x;
    }

    private static void mergeByRank() {
        Check.about("MERGE, by RANK");
        SortWorks x = four(0, 1, 5, 4);
        x.step();
        Check.due("told(4, 13), CURVE and SCALE do not act at TIME 1", x.told(4, 13), 3);
        x.step();
        Check.due("slot(3, 0), the SCALE is CHOSEN, but the MERGE is not empty", x.slot(3, 0), 4);
        told(x, 4, 13, 3);
        told(x, 0, 3, 2);
        x.step();
        Check.due("told(4, 13), at TIME 3 just the BELT acts", x.told(4, 13), 1);
        x.carry(1, 0);
        x.step();
        Check.due("told(4, 13), the SCALE has RANK 4", x.told(4, 13), 4);
        x.step();
        x.rank(0, 3);
        x.step();
        Check.due("told(4, 13)", x.told(4, 13), 1);

        SortWorks y = four(0, 0, 0, 0);
        y.rank(2, 9);
        y.rank(1, 8);
        y.step();
        told(y, 4, 13, 3);
        Check.steps(y, 2);
        told(y, 4, 13, 2);
    }

    private static void mergeByLast() {
        Check.about("MERGE, of like RANKS");
        SortWorks x = four(0, 0, 0, 0);
        int[] lasts = {1, 2, 3, 4};
        for (int last : lasts) {
            Check.due("told(4, 13)", x.told(4, 13), last - 1);
            x.step();
            told(x, 4, 13, last);
            x.come(last - 1, 2, 2);
            x.step();
        }
        x.step();
        Check.due("told(4, 13), none above LAST: the least", x.told(4, 13), 1);
        x.step();
        x.carry(x.slot(1, 0), 0);
        x.step();
        Check.due("told(4, 13), the least number above LAST", x.told(4, 13), 3);
        Check.due("audit()", x.audit(), NONE);
    }

    private static void mergeAndHold() {
        Check.about("MERGE, HOLD and CHUTE");
        SortWorks x = new SortWorks();
        x.gear(3, 1);
        x.gear(8, 1);
        x.gear(7, 1);
        x.gear(0, 1);
        x.gear(2, 1);
        Check.links(x, 0, 1);
        Check.links(x, 1, 4);
        Check.links(x, 2, 4);
        Check.links(x, 3, 4);
        Check.load(x, ":2;");
        x.rank(1, 9);
        x.rank(2, 9);
        x.come(0, 1, 1);
        x.step();
        x.step();
        slots(x, 1, 1);
        x.step();
        told(x, 1, 3, 1);
        x.come(3, 2, 2);
        x.step();
        Check.due("told(4, 13), a HOLD without RELEASES is not CHOSEN", x.told(4, 13), 4);
        x.carry(2, 3);
        x.release(1, 1);
        x.step();
        told(x, 4, 13, 2);
        Check.due("told(1, 10)", x.told(1, 10), 0);
        slots(x, 3, 2);
        x.come(0, 3, 3);
        x.tag(3, 0, 0);
        x.step();
        Check.due("carry(3, 2)", x.carry(3, 2), 0);
        x.carry(1, 0);
        x.step();
        Check.due("told(4, 13), a CHUTE is never CHOSEN", x.told(4, 13), 4);
    }

    /** MERGE 0 is led to by itself and by BELT 1; GEAR 0 may be what is followed, and what is CHOSEN. */
    private static void mergeOfNumberZero() {
        Check.about("MERGE 0");
        SortWorks x = new SortWorks();
        x.gear(2, 2);
        x.gear(0, 1);
        Check.links(x, 0, 0);
        Check.links(x, 1, 0);
        x.come(1, 1, 1);
        x.step();
        Check.due("told(0, 13)", x.told(0, 13), 2);
        x.step();
        x.step();
        Check.due("told(0, 13), it gives to itself", x.told(0, 13), 1);
        Check.due("slot(0, 0)", x.slot(0, 0), 1);
        x.come(1, 1, 1);
        x.step();
        x.step();
        Check.due("told(0, 13), BELT 1 is above LAST", x.told(0, 13), 2);
        Check.due("slot(1, 0)", x.slot(1, 0), 0);
        Check.due("told(0, 3)", x.told(0, 3), 1);
    }

    private static void mergeIsFull() {
        Check.about("MERGE, not empty");
        SortWorks x = four(0, 0, 0, 0);
        x.links(4, 0);
        x.step();
        told(x, 4, 13, 1);
        x.step();
        Check.due("told(4, 13), just what is taken is LAST", x.told(4, 13), 1);
        Check.due("told(1, 3)", x.told(1, 3), 2);
        x.carry(1, 0);
        x.step();
        told(x, 4, 13, 2);
    }

    private static void scanner() {
        Check.about("SCANNER");
        SortWorks x = new SortWorks();
        x.gear(3, 2);
        x.gear(0, 1);
        x.gear(3, 1);
        Check.links(x, 0, 1);
        Check.links(x, 1, 2);
        Check.load(x, "D=7:30;W>100:31;");
        x.come(0, 5, 5);
        x.tag(1, 0, 7);
        x.step();
        Check.due("parcel(1, 4), it has MOVED to the last SLOT", x.parcel(1, 4), NONE);
        Check.due("parcel(1, 7)", x.parcel(1, 7), 0);
        x.step();
        Check.due("parcel(1, 4), SCANNED and GIVEN in one ACT", x.parcel(1, 4), 30);
        slots(x, 1, 1);
        Check.due("parcel(1, 7), not since it came here", x.parcel(1, 7), 0);
        x.tag(1, 1, 8);
        x.step();
        Check.due("parcel(1, 4)", x.parcel(1, 4), 30);
        x.step();
        Check.due("parcel(1, 4), no RULE HOLDS", x.parcel(1, 4), NONE);
        Check.due("parcel(1, 7)", x.parcel(1, 7), 1);
        x.tag(1, 1, 7);
        x.step();
        Check.due("parcel(1, 4), just once there", x.parcel(1, 4), NONE);
        x.come(0, 6, 6);
        x.label(2, 1);
        Check.steps(x, 2);
        Check.due("parcel(2, 4), BAD", x.parcel(2, 4), UNREAD);
        Check.due("slot(1, 0), what is BAD is GIVEN at once", x.slot(1, 0), 2);
        told(x, 0, 7, 0);
        told(x, 0, 4, 1);
    }

    private static void scannerFault() {
        Check.about("SCANNER, a FAULT of a LABEL");
        SortWorks x = new SortWorks();
        x.gear(3, 1);
        x.gear(0, 1);
        Check.links(x, 0, 1);
        Check.load(x, ":1;");
        x.come(0, 1, 1);
        x.step();
        finding(x, 0, 1, 0, 2, NULL, 1);
        slots(x, 0, 1);
        told(x, 0, 3, 1);
        told(x, 0, 4, 3);
        told(x, 0, 7, 1);
        told(x, 0, 8, 1);
        Check.due("parcel(1, 4)", x.parcel(1, 4), UNREAD);
        Check.due("parcel(1, 7)", x.parcel(1, 7), 1);
        x.tag(1, 0, 1);
        x.step();
        Check.due("slot(1, 0), GIVEN by a later ACT", x.slot(1, 0), 1);
        Check.due("parcel(1, 4), SCANNED just once", x.parcel(1, 4), UNREAD);
        told(x, 0, 3, 0);
        told(x, 0, 4, 1);
        Check.due("count(6)", x.count(6), 1);
        x.come(0, 2, 2);
        x.label(2, 0);
        x.step();
        finding(x, 1, 3, 0, 2, INDEX, 2);
        finding(x, 0, 3, 1, 1, NULL, 1);
        told(x, 1, 4, 3);
        Check.due("count(6)", x.count(6), 3);
        Check.due("count(7)", x.count(7), 3);
        Check.due("rule(0, 2)", x.rule(0, 2), 0);
    }

    private static void scale() {
        Check.about("SCALE");
        for (int kind = 3; kind <= 4; kind++) {
            SortWorks x = new SortWorks();
            x.gear(kind, 1);
            x.gear(0, 2);
            Check.links(x, 0, 1);
            Check.load(x, "W=51:9;W=50:8;");
            x.come(0, 50, 1);
            x.tag(1, 0, 0);
            x.put(1, 5, '1');
            x.put(1, 7, '1');
            Check.steps(x, 2);
            Check.due("parcel(1, 4), a WEIGHT of 51 was read", x.parcel(1, 4), kind == 3 ? 9 : UNREAD);
            Check.due("parcel(1, 0)", x.parcel(1, 0), 1);
            told(x, 0, 7, 0);
            x.come(0, 50, 1);
            x.tag(2, 1, 0);
            Check.steps(x, 2);
            Check.due("parcel(2, 4), its own WEIGHT", x.parcel(2, 4), 8);
            told(x, 0, 8, kind == 3 ? 4 : 2);
        }
    }

    /** A SCANNER 0 gives to DIVERT 1 of that KIND and LENGTH, from which SIDES lead to BELTS 2, 3, 4. */
    private static SortWorks diverting(int kind, int length) {
        SortWorks x = new SortWorks();
        x.gear(3, 1);
        x.gear(kind, length);
        for (int g = 2; g <= 4; g++) {
            x.gear(0, 4);
        }
        Check.links(x, 0, 1);
        Check.links(x, 1, 2, 3, 4);
        Check.load(x, "D<10:5;D<20:6;D<30:7;");
        return x;
    }

    private static void send(SortWorks x, int place) {
        int parcel = x.come(0, 1, 1);
        Check.due("tag", x.tag(parcel, 0, place), 8);
    }

    private static void divert() {
        Check.about("DIVERT");
        SortWorks x = diverting(5, 1);
        x.aim(1, 1, 5, true);
        send(x, 1);
        x.step();
        Check.due("told(1, 2), it turns and does not take", x.told(1, 2), 1);
        slots(x, 0, 1);
        told(x, 0, 3, 1);
        told(x, 0, 4, 2);
        x.step();
        slots(x, 1, 1);
        told(x, 0, 3, 0);
        send(x, 11);
        x.step();
        Check.due("told(1, 2), it is not empty", x.told(1, 2), 1);
        slots(x, 3, 1);
        slots(x, 0, 2);
        x.step();
        told(x, 1, 2, 0);
        slots(x, 0, 2);
        x.step();
        slots(x, 1, 2);
        x.step();
        Check.due("parcel(2, 0), by LINK 0", x.parcel(2, 0), 2);
        told(x, 1, 5, 2);
        told(x, 1, 6, 2);
    }

    private static void cross() {
        Check.about("CROSS");
        SortWorks x = diverting(6, 1);
        x.aim(1, 1, 5, true);
        x.aim(1, 2, 5, true);
        x.aim(1, 2, 6, true);
        send(x, 1);
        x.step();
        Check.due("told(1, 2), the least SIDE", x.told(1, 2), 1);
        Check.steps(x, 2);
        Check.due("parcel(1, 0)", x.parcel(1, 0), 3);
        send(x, 11);
        x.step();
        told(x, 1, 2, 2);
        Check.steps(x, 2);
        Check.due("parcel(2, 0)", x.parcel(2, 0), 4);
        send(x, 99);
        x.step();
        Check.due("told(1, 2), TARGET NONE", x.told(1, 2), 0);
        Check.steps(x, 2);
        Check.due("parcel(3, 0)", x.parcel(3, 0), 2);
        x.turn(1, 2);
        x.come(0, 1, 1);
        x.step();
        told(x, 1, 2, 2);
        x.step();
        Check.due("told(1, 2), TARGET UNREAD", x.told(1, 2), 0);

        Check.about("CROSS, TARGETS 0 and 39");
        SortWorks y = diverting(6, 1);
        Check.load(y, "D=0:0;D=1:39;");
        y.aim(1, 2, 0, true);
        y.aim(1, 1, 39, true);
        send(y, 0);
        y.step();
        told(y, 1, 2, 2);
        y.carry(1, 2);
        send(y, 1);
        y.step();
        told(y, 1, 2, 1);
    }

    private static void divertTurnsWhenEmpty() {
        Check.about("DIVERT of LENGTH 2");
        SortWorks x = diverting(5, 2);
        x.aim(1, 1, 5, true);
        x.links(1, 0);
        send(x, 11);
        Check.steps(x, 2);
        slots(x, 1, 0, 1);
        send(x, 1);
        x.step();
        Check.due("told(1, 2), a SLOT is not empty", x.told(1, 2), 0);
        slots(x, 0, 2);
        told(x, 1, 7, 1);
        x.carry(2, 2);
        send(x, 12);
        x.step();
        Check.due("slot(1, 0), it takes by its SIDE", x.slot(1, 0), 3);
        slots(x, 1, 3, 1);
        send(x, 13);
        x.step();
        Check.due("slot(0, 0), SLOT 0 is not empty", x.slot(0, 0), 4);
    }

    /** SCANNER 0 gives to CHUTE 1 of that LENGTH by the one RULE; DOORS are 2 and 3, 4 is a BELT. */
    private static SortWorks chuting(int length) {
        SortWorks x = new SortWorks();
        x.gear(3, 1);
        x.gear(7, length);
        x.gear(9, 0);
        x.gear(9, 0);
        x.gear(0, 1);
        Check.links(x, 0, 1);
        Check.links(x, 1, 2, 3);
        Check.load(x, "D<50:1;:9;");
        return x;
    }

    private static void chute() {
        Check.about("CHUTE");
        SortWorks x = chuting(2);
        send(x, 1);
        x.step();
        slots(x, 1, 1, 0);
        x.step();
        slots(x, 1, 0, 1);
        x.step();
        told(x, 1, 3, 1);
        told(x, 1, 4, 2);
        Check.due("count(6), closed DOORS are no FAULT", x.count(6), 0);
        x.door(3, true);
        send(x, 2);
        x.step();
        slots(x, 1, 2, 0);
        told(x, 1, 3, 0);
        told(x, 1, 4, 1);
        told(x, 1, 6, 1);
        told(x, 3, 5, 1);
        told(x, 3, 6, 1);
        told(x, 3, 9, 0);
        told(x, 2, 5, 0);
        told(x, 2, 4, 0);
        told(x, 3, 4, 1);
        Check.due("count(1)", x.count(1), 1);
        Check.due("count(3)", x.count(3), 1);
        Check.due("left(1)", x.left(1), 3);
        Check.due("left(2)", x.left(2), -10);
        int[] want = {1, 3, 4, 1};
        for (int what = 0; what < 4; what++) {
            Check.due("out(0, " + what + ")", x.out(0, what), want[what]);
        }
        Check.due("parcel(1, 0), it is not INSIDE", x.parcel(1, 0), -1);
        x.door(2, true);
        Check.steps(x, 2);
        Check.due("left(2), the first one that is OPEN", x.left(2), 2);
        send(x, 77);
        x.step();
        Check.due("slot(0, 0), its TARGET is another GEAR", x.slot(0, 0), 3);
        told(x, 0, 3, 1);
        Check.due("count(6)", x.count(6), 0);
        x.links(1, 0);
        x.carry(3, 4);
        send(x, 3);
        Check.steps(x, 4);
        Check.due("slot(1, 1), a ROW without LINKS", x.slot(1, 1), 4);
        told(x, 1, 3, 2);
        told(x, 1, 7, 0);
        Check.due("audit()", x.audit(), NONE);
    }

    private static void chuteFaults() {
        Check.about("CHUTE, FAULTS");
        SortWorks x = chuting(1);
        send(x, 1);
        x.step();
        x.links(1, -1);
        x.step();
        finding(x, 0, 2, 1, 1, NULL, 1);
        told(x, 1, 3, 1);
        told(x, 1, 4, 3);
        x.door(3, true);
        Check.links(x, 1, -1, 3);
        x.step();
        finding(x, 0, 3, 1, 1, INDEX, 1);
        Check.links(x, 1, 30, 3);
        x.step();
        finding(x, 0, 4, 1, 1, NULL, 1);
        Check.links(x, 1, 4, 3);
        x.step();
        finding(x, 0, 5, 1, 1, CAST, 1);
        Check.links(x, 1, 2, 0, 3);
        x.step();
        Check.due("finding(0, 3), behind a closed DOOR", x.finding(0, 3), CAST);
        Check.due("count(6)", x.count(6), 5);
        told(x, 1, 3, 5);
        Check.links(x, 1, 2, 3, 0);
        x.step();
        Check.due("left(1), what is behind an OPEN DOOR is not followed", x.left(1), 3);
        Check.due("count(6)", x.count(6), 5);
        told(x, 1, 7, 5);
        told(x, 1, 4, 1);
    }

    private static void hold() {
        Check.about("HOLD");
        SortWorks x = new SortWorks();
        x.gear(3, 1);
        x.gear(8, 2);
        x.gear(0, 1);
        Check.links(x, 0, 1);
        Check.links(x, 1, 2);
        Check.links(x, 2, 0);
        x.come(0, 1, 1);
        x.tag(1, 0, 1);
        x.step();
        Check.due("slot(0, 0), its TARGET is NONE", x.slot(0, 0), 1);
        x.carry(1, 2);
        x.come(0, 2, 2);
        x.step();
        x.step();
        slots(x, 1, 2, 0);
        x.step();
        x.step();
        slots(x, 1, 0, 2);
        Check.due("told(1, 3), without RELEASES it waits", x.told(1, 3), 1);
        told(x, 1, 4, 2);
        told(x, 1, 7, 0);
        x.release(1, 2);
        x.carry(1, 2);
        x.step();
        Check.due("told(1, 10), it was not taken", x.told(1, 10), 2);
        told(x, 1, 3, 2);
        x.links(1, 0);
        x.step();
        finding(x, 0, 7, 1, 1, INDEX, 2);
        told(x, 1, 10, 2);
        told(x, 1, 4, 3);
        Check.links(x, 1, 0);
        x.carry(1, 2);
        x.links(2, -1);
        x.step();
        slots(x, 0, 2);
        told(x, 1, 10, 1);
        told(x, 1, 3, 0);
        told(x, 1, 4, 1);
    }

    private static void giveFaults() {
        Check.about("GIVEN, FAULTS");
        SortWorks x = new SortWorks();
        x.gear(0, 1);
        x.gear(9, 0);
        x.gear(10, 0);
        x.links(2, 0);
        x.come(0, 1, 1);
        x.step();
        finding(x, 0, 1, 0, 1, NULL, 1);
        x.links(0, 0);
        x.step();
        finding(x, 0, 2, 0, 1, INDEX, 1);
        x.links(0, 1);
        x.step();
        finding(x, 0, 3, 0, 1, INDEX, 1);
        x.link(0, 0, 3);
        x.step();
        finding(x, 0, 4, 0, 1, NULL, 1);
        x.link(0, 0, 1);
        x.step();
        finding(x, 0, 5, 0, 1, CAST, 1);
        x.link(0, 0, 2);
        x.step();
        finding(x, 0, 6, 0, 1, CAST, 1);
        told(x, 0, 3, 6);
        told(x, 0, 7, 6);
        told(x, 0, 4, 3);
        x.gear(6, 2);
        Check.links(x, 3, 0, 0);
        x.turn(3, 2);
        x.link(0, 0, 3);
        x.carry(1, 3);
        Check.steps(x, 2);
        finding(x, 0, 8, 3, 1, INDEX, 1);
        Check.due("told(0, 4)", x.told(0, 4), 1);

        Check.about("a FAULT does not keep others from moving up");
        SortWorks y = new SortWorks();
        y.gear(0, 3);
        y.come(0, 1, 1);
        y.step();
        y.step();
        y.come(0, 1, 1);
        y.step();
        slots(y, 0, 0, 2, 1);
        told(y, 0, 4, 3);
    }

    private static void panel() {
        Check.about("PANEL");
        SortWorks x = new SortWorks();
        x.gear(10, 0);
        x.gear(0, 2);
        x.gear(0, 1);
        x.gear(9, 0);
        x.links(1, 0);
        x.links(2, 0);
        x.come(1, 1, 1);
        x.come(2, 1, 1);
        Check.links(x, 0, 1, 2, 1);
        x.step();
        told(x, 0, 14, 3);
        told(x, 0, 4, 1);
        told(x, 0, 8, 1);
        Check.links(x, 0, 2, 3, 0);
        x.step();
        Check.due("told(0, 14), DOORS and PANELS have none", x.told(0, 14), 1);
        Check.links(x, 0, 1, -1, 1);
        x.step();
        told(x, 0, 14, 1);
        told(x, 0, 4, 3);
        Check.due("finding, of the LINK", x.finding(2, 4), 1);
        finding(x, 2, 3, 0, 4, INDEX, 1);
        Check.links(x, 0, 1, 1, 39);
        x.step();
        finding(x, 2, 4, 0, 4, NULL, 2);
        told(x, 0, 14, 1);
        x.links(0, -1);
        x.step();
        finding(x, 2, 5, 0, 4, NULL, 0);
        told(x, 0, 14, 1);
        told(x, 0, 7, 3);
        x.links(0, 0);
        x.step();
        told(x, 0, 14, 0);
        told(x, 0, 4, 1);
    }

    private static void plans() {
        Check.about("PLANS");
        SortWorks x = new SortWorks();
        x.gear(9, 0);
        x.gear(8, 1);
        Check.due("plan", x.plan(4, 2, 0, 0, -5), 0);
        Check.due("plan", x.plan(4, 3, 0, 0, 0), 1);
        Check.due("plan", x.plan(4, 3, 2, 1, 20), 2);
        Check.due("plan", x.plan(4, 4, 2, 1, 3), 3);
        Check.due("plan", x.plan(4, 4, 2, 1, 0), 4);
        Check.due("plan", x.plan(4, 0, 2, 1, 9), 5);
        x.step();
        told(x, 0, 2, 0);
        told(x, 1, 10, 0);
        x.step();
        told(x, 0, 2, 1);
        Check.due("told(0, 4), PLANS are ahead of ACTS", x.told(0, 4), 1);
        x.step();
        told(x, 0, 2, 0);
        told(x, 0, 4, 0);
        told(x, 1, 10, 20);
        x.step();
        Check.due("told(1, 10), in order", x.told(1, 10), 0);
        Check.due("count(6)", x.count(6), 0);
        x.back(3);
        x.step();
        Check.due("told(0, 2), TIME 2 comes again", x.told(0, 2), 1);
    }

    private static void planTurns() {
        Check.about("PLANS, OP 1");
        SortWorks x = new SortWorks();
        x.gear(6, 1);
        x.links(0, 3);
        x.plan(4, 1, 1, 0, 2);
        x.plan(4, 2, 1, 0, 3);
        x.plan(4, 3, 1, 0, 1);
        x.plan(4, 4, 1, 0, 3);
        x.plan(4, 5, 1, 0, -1);
        x.step();
        told(x, 0, 2, 2);
        x.step();
        finding(x, 0, 2, NONE, 5, INDEX, 1);
        told(x, 0, 2, 2);
        told(x, 0, 7, 0);
        told(x, 0, 4, 1);
        x.come(0, 1, 1);
        Check.steps(x, 2);
        Check.due("told(0, 2), a PARCEL is in it", x.told(0, 2), 2);
        Check.due("finding(0, 2), b does not matter then", x.finding(0, 2), 1);
        Check.due("finding(1, 2)", x.finding(1, 2), 1);
        Check.due("finding(2, 2)", x.finding(2, 2), 5);
    }

    private static void planFaults() {
        Check.about("PLANS, FAULTS");
        int[][] rows = {
            // n, op, a, b, the FAULT
            {1, 0, 0, 0, INDEX}, {2, 0, 39, 0, INDEX}, {2, 1, 0, 0, INDEX}, {1, 0, 39, 0, INDEX},
            {4, 3, 77, 0, INDEX}, {4, 3, 2, 5, INDEX}, {4, 3, 0, 1, INDEX},
            {4, -1, 0, 0, INDEX}, {2, 0, 0, 0, INDEX}, {2, 9, 0, 0, INDEX},
            {3, 0, 40, 0, INDEX}, {4, 0, -1, 0, INDEX}, {4, 0, 39, 0, NULL}, {3, 1, 4, 0, NULL}, {3, 0, 1, 0, CAST},
            {3, 0, 0, 0, INDEX}, {4, 0, 2, 0, CAST}, {4, 1, 0, 9, CAST}, {3, 1, 2, 0, CAST}, {3, 1, 1, 0, INDEX},
            {4, 1, 1, 2, INDEX}, {4, 2, 3, 21, CAST}, {4, 2, 2, 21, INDEX}, {4, 2, 2, -1, INDEX}, {3, 2, 2, 0, INDEX},
        };
        for (int[] row : rows) {
            SortWorks x = new SortWorks();
            x.gear(9, 0);
            x.gear(5, 1);
            x.gear(8, 1);
            x.gear(7, 1);
            x.plan(4, 1, 0, 0, 1);
            x.plan(row[0], 1, row[1], row[2], row[3]);
            x.plan(4, 1, 2, 2, 4);
            x.step();
            Check.about("PLANS, " + java.util.Arrays.toString(row));
            finding(x, 0, 1, NONE, 5, row[4], 1);
            Check.due("count(6)", x.count(6), 1);
            Check.due("count(7)", x.count(7), 1);
            Check.due("told(0, 2), what is ahead is done", x.told(0, 2), 1);
            Check.due("told(2, 10), what is behind too", x.told(2, 10), 4);
            told(x, 0, 4, 1);
            told(x, 1, 4, 1);
            told(x, 1, 2, 0);
        }
    }

    private static void findingsAreKept() {
        Check.about("promise 40");
        SortWorks x = new SortWorks();
        x.gear(10, 0);
        Check.due("finding(0, 0)", x.finding(0, 0), NONE);
        Check.steps(x, 45);
        finding(x, 0, 45, 0, 4, NULL, 0);
        finding(x, 39, 6, 0, 4, NULL, 0);
        Check.due("finding(40, 0)", x.finding(40, 0), NONE);
        Check.due("finding(-1, 0)", x.finding(-1, 0), NONE);
        Check.due("finding(0, 5)", x.finding(0, 5), NONE);
        Check.due("finding(0, -1)", x.finding(0, -1), NONE);
        Check.due("count(6)", x.count(6), 45);
        Check.due("told(0, 7)", x.told(0, 7), 45);
        x.works(1);
        Check.due("finding(0, 0) of another WORKS", x.finding(0, 0), NONE);
    }

    private static void traceOfKinds() {
        Check.about("promise 41, by KINDS");
        SortWorks x = new SortWorks();
        for (int kind = 0; kind <= 10; kind++) {
            x.gear(kind, 1);
        }
        trace(x);
        x.step();
        trace(x, 1, 3, 1, 4, 1, 6, 7, 6, 8, 9, 10, 11);
        x.step();
        trace(x, 1, 2, 1, 3, 1, 4, 1, 5, 4, 1, 6, 7, 6, 8, 9, 10, 11);
        Check.due("trace(-1)", x.trace(-1), NONE);
        for (int g = 0; g <= 10; g++) {
            told(x, g, 8, g == 1 || g == 4 ? 1 : 2);
        }
        x.back(1);
        trace(x);
        x.works(1);
        trace(x);
    }

    private static void traceOfAsked() {
        Check.about("promise 41, of what is ASKED");
        SortWorks x = new SortWorks();
        int[] kinds = {0, 2, 0, 0, 5, 1, 6, 0, 7, 0, 8, 4, 3};
        for (int kind : kinds) {
            x.gear(kind, 1);
        }
        int[][] leads = {{0, 1}, {2, 1}, {3, 4}, {5, 6}, {7, 8}, {9, 10}, {11, 12}};
        for (int[] lead : leads) {
            Check.links(x, lead[0], lead[1]);
            x.come(lead[0], 1, 1);
        }
        x.step();
        trace(x, 1, 21, 20, 3, 1, 1, 21, 1, 22, 6, 7, 6, 1, 23, 8, 1, 24, 9, 4, 1);
        x.step();
        trace(x, 1, 3, 1, 1, 21, 20, 1, 6, 2, 1, 22, 7, 6, 1, 23, 8, 1, 24, 9, 5, 4, 1, 4, 1);
        x.step();
        x.step();
        trace(x, 1, 3, 1, 1, 21, 20, 1, 6, 2, 1, 7, 6, 1, 23, 8, 1, 24, 9, 5, 4, 1, 20, 4, 1);
    }

    private static void traceIsKept() {
        Check.about("promise 41, the first 60");
        SortWorks x = new SortWorks();
        for (int g = 0; g < 30; g++) {
            x.gear(1, 1);
        }
        x.gear(9, 0);
        Check.steps(x, 2);
        Check.due("count(9)", x.count(9), 61);
        Check.due("trace(58)", x.trace(58), 2);
        Check.due("trace(59)", x.trace(59), 1);
        Check.due("trace(60)", x.trace(60), NONE);
    }

    private static void jams() {
        Check.about("promise 42");
        SortWorks x = new SortWorks();
        x.gear(10, 0);
        x.gear(0, 1);
        x.gear(1, 1);
        x.gear(0, 1);
        x.come(1, 1, 1);
        x.come(2, 1, 1);
        x.come(3, 1, 1);
        Check.steps(x, 7);
        Check.due("jam(0)", x.jam(0), NONE);
        x.step();
        Check.due("jam(0)", x.jam(0), 1);
        Check.due("jam(1)", x.jam(1), 3);
        Check.due("jam(2)", x.jam(2), NONE);
        Check.due("jam(-1)", x.jam(-1), NONE);
        Check.steps(x, 8);
        Check.due("jam(1)", x.jam(1), 2);
        Check.due("jam(2)", x.jam(2), 3);
    }
}
