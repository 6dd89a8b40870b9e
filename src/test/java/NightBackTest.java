/** Promises 26 and 27, and promise 35 where NUMBERS are UNDONE. */
final class NightBackTest {
    private static final int UNKNOWN = -1, OUTSIDE = -2, STATE = -3, NONE = -9;

    public static void main(String[] args) {
        nightRefused();
        nightDraws();
        nightSpoils();
        nightComesOrNot();
        backRefused();
        backRestores();
        backOfEachStep();
        undone();
        undoneByWorks();
        outIsInsideAgain();
        outSinceIsUndone();
        thirtyInside();
        thirtiethGoesOut();
        handsGoBack();
        labelsGoBack();
        logsGoBack();
        keptThirty();
        groupsStay();
        Check.end();
    }

    private static void nightRefused() {
        Check.about("promise 26, refused");
        SortWorks x = new SortWorks();
        Check.refused(x, "night(1, 0)", x.night(1, 0), OUTSIDE);
        Check.refused(x, "night(1, 21)", x.night(1, 21), OUTSIDE);
        Check.refused(x, "night(1, -1)", x.night(1, -1), OUTSIDE);
        Check.due("count(5)", x.count(5), 0);
        Check.due("night(1, 20) without GEAR", x.night(1, 20), 0);
        Check.due("status()", x.status(), 0);
        Check.due("count(5)", x.count(5), 20);
        Check.due("count(8)", x.count(8), 20);
    }

    private static int next(int x) {
        return (int) ((x * 1103515245L + 12345L) & 0xffffffffL);
    }

    /** What comes in the first turn of a night by that seed; the PARCEL stays in GEAR 0, which leads nowhere. */
    private static void nightDraws() {
        int[] seeds = {0, 1, -1, 12345, Integer.MIN_VALUE, Integer.MAX_VALUE, 777777777};
        for (int seed : seeds) {
            Check.about("promise 26, seed " + seed);
            SortWorks x = new SortWorks();
            x.gear(0, 1);
            int a = next(seed);
            int b = next(a);
            int r = a >>> 16;
            int s = b >>> 16;
            Check.due("night", x.night(seed, 1), 1);
            Check.due("parcel(1, 2)", x.parcel(1, 2), 1 + r % 200);
            Check.due("parcel(1, 3)", x.parcel(1, 3), r / 200 % 10);
            if (x.parcel(1, 6) > 5) {
                Check.due("byteOf(1, 0)", x.byteOf(1, 0), s / 100 % 2 == 0 ? 65 : 66);
                int place = s / 100 % 2 == 0 ? 10 * (x.byteOf(1, 1) - 48) + x.byteOf(1, 2) - 48 : x.byteOf(1, 1);
                Check.due("its PLACE", place, s % 100);
            }
            Check.due("count(5)", x.count(5), 1);
        }
    }

    /** LABELS of a second turn, by t: the draws go on from the first turn's. */
    private static void nightSpoils() {
        int[] seen = new int[8];
        for (int seed = 0; seed < 400; seed++) {
            SortWorks x = new SortWorks();
            x.gear(0, 2);
            int d = seed;
            for (int k = 0; k < 4; k++) {
                d = next(d);
            }
            int r = d >>> 16;
            d = next(d);
            int s = d >>> 16;
            d = next(d);
            int t = d >>> 16;
            Check.about("promise 26, seed " + seed + ", t " + t % 8);
            Check.due("night", x.night(seed, 2), 2);
            seen[t % 8]++;
            Check.due("parcel(2, 2)", x.parcel(2, 2), 1 + r % 200);
            SortWorks y = new SortWorks();
            y.gear(0, 1);
            y.come(0, 1 + r % 200, r / 200 % 10);
            int n = y.tag(1, s / 100 % 2, s % 100);
            int length = t % 8 == 0 ? NONE : t % 8 == 1 ? t / 8 % 6 : n;
            Check.due("parcel(2, 6)", x.parcel(2, 6), length);
            for (int i = 0; i < length; i++) {
                Check.due("byteOf(2, " + i + ")", x.byteOf(2, i), y.byteOf(1, i) + (t % 8 == 2 && i == n - 1 ? 1 : 0));
            }
        }
        Check.about("promise 26");
        for (int t = 0; t < 8; t++) {
            Check.due("each t was drawn", seen[t] > 10 ? 1 : 0, 1);
        }
    }

    private static void nightComesOrNot() {
        Check.about("promise 26, by KINDS");
        for (int kind = 0; kind <= 10; kind++) {
            SortWorks x = new SortWorks();
            x.gear(kind, 1);
            Check.due("night(5, 3) with GEAR 0 of KIND " + kind, x.night(5, 3), kind <= 6 ? 1 : 0);
            Check.due("count(5)", x.count(5), 3);
            Check.due("count(2)", x.count(2), kind <= 6 ? 1 : 0);
            Check.due("count(13)", x.count(13), kind <= 6 ? 1 : 0);
        }
        SortWorks x = new SortWorks();
        x.gear(0, 1);
        x.gear(0, 8);
        Check.links(x, 0, 1);
        Check.due("night(5, 5)", x.night(5, 5), 3);
        // BELT 1 makes room in every second STEP: a STEP is behind each that comes.
        Check.due("slot(1, 4)", x.slot(1, 4), 1);
        Check.due("slot(1, 2)", x.slot(1, 2), 2);
        Check.due("slot(1, 0)", x.slot(1, 0), 3);
    }

    private static void backRefused() {
        Check.about("promise 27, refused");
        SortWorks x = new SortWorks();
        Check.refused(x, "back(0)", x.back(0), OUTSIDE);
        Check.refused(x, "back(31)", x.back(31), OUTSIDE);
        Check.refused(x, "back(-1)", x.back(-1), OUTSIDE);
        Check.refused(x, "back(1)", x.back(1), STATE);
        Check.steps(x, 3);
        Check.refused(x, "back(4)", x.back(4), STATE);
        Check.due("count(5)", x.count(5), 3);
        Check.due("back(3)", x.back(3), 0);
        Check.due("status()", x.status(), 0);
        Check.due("count(8)", x.count(8), 0);
        Check.refused(x, "back(1)", x.back(1), STATE);
    }

    /** A house in which nearly everything that is KEPT changes in each STEP. */
    private static SortWorks busy() {
        SortWorks x = new SortWorks();
        int[] kinds = {3, 6, 7, 8, 2, 9, 10, 0};
        for (int kind : kinds) {
            x.gear(kind, kind == 7 ? 2 : 1);
        }
        Check.links(x, 0, 1);
        Check.links(x, 1, 3, 2, 4);
        Check.links(x, 2, 5);
        Check.links(x, 3, 4);
        Check.links(x, 4, 7);
        Check.links(x, 6, 0, 2, 3);
        Check.links(x, 7, 0);
        x.aim(1, 1, 2, true);
        x.aim(1, 2, 9, true);
        Check.load(x, "D<40:2;D<70:9;Q2=1:2;:2;");
        x.plan(4, 4, 2, 3, 5);
        x.plan(4, 7, 0, 5, 1);
        x.plan(4, 9, 3, 0, 0);
        x.plan(4, 18, 0, 5, 0);
        x.plan(4, 30, 0, 5, 1);
        return x;
    }

    /** All that is told of the WORKS AT HAND but how many STEPS are KEPT, TRACE, count(7), count(13). */
    private static String all(SortWorks x) {
        StringBuilder s = new StringBuilder();
        for (int g = 0; g < x.count(0); g++) {
            for (int what = 0; what <= 15; what++) {
                s.append(x.told(g, what)).append(' ');
            }
            for (int k = 0; k < x.told(g, 1); k++) {
                s.append(x.slot(g, k)).append(' ');
            }
            s.append("| ");
        }
        for (int p = 1; p <= x.count(13); p++) {
            if (x.parcel(p, 0) == UNKNOWN) {
                continue;
            }
            s.append(p).append(": ").append(x.left(p)).append(' ');
            for (int what = 0; what <= 16; what++) {
                s.append(x.parcel(p, what)).append(' ').append(x.way(p, what)).append(' ');
                s.append(x.byteOf(p, what)).append(' ');
            }
        }
        for (int i = 0; i < 40; i++) {
            for (int what = 0; what < 5; what++) {
                s.append(x.finding(i, what)).append(' ').append(x.out(i, what)).append(' ');
            }
            s.append(x.rule(i, 2)).append(' ').append(x.unused(i)).append(' ').append(x.jam(i)).append(' ');
        }
        for (int what = 0; what <= 6; what++) {
            s.append(x.count(what)).append(' ');
        }
        return s.append(x.digest()).toString();
    }

    private static void same(String call, String got, String want) {
        Check.due(call + " is as it was", got.equals(want) ? 1 : 0, 1);
        if (!got.equals(want)) {
            System.out.println("  got  " + got);
            System.out.println("  want " + want);
        }
    }

    private static void backRestores() {
        Check.about("promise 27");
        SortWorks x = busy();
        x.night(3, 6);
        x.night(4, 5);
        int faults = x.count(7);
        x.come(7, 3, 3);
        x.carry(x.count(13), 3);
        x.door(5, true);
        x.release(3, 20);
        Check.due("back(1)", x.back(1), 10);
        Check.due("count(8)", x.count(8), 10);
        Check.due("back(4)", x.back(4), 6);
        Check.due("count(8)", x.count(8), 6);
        Check.due("count(9)", x.count(9), 0);
        Check.due("trace(0)", x.trace(0), NONE);
        Check.due("count(7) does not go back", x.count(7), faults);
        Check.due("count(6) does", x.count(6) < faults ? 1 : 0, 1);
        Check.due("count(13) does not go back", x.count(13) > x.count(2) ? 1 : 0, 1);
        Check.due("back(6)", x.back(6), 0);
        Check.due("count(2), the first of the night came ahead of its STEP", x.count(2), 1);
        Check.due("count(6)", x.count(6), 0);
    }

    /** By step() alone nothing comes between, so what is told ahead of a STEP is what back() must bring. */
    private static void backOfEachStep() {
        Check.about("promise 27, each STEP");
        SortWorks x = busy();
        String[] ahead = new String[45];
        for (int t = 0; t < 45; t++) {
            if (t % 2 == 0) {
                int p = x.come(0, 10 + t, t % 10);
                if (p > 0 && t % 8 != 0) {
                    x.tag(p, t / 2 % 2, t * 7 % 100);
                }
            }
            if (t % 9 == 5) {
                x.release(3, 3);
            }
            ahead[t] = all(x);
            x.step();
        }
        Check.due("count(3)", x.count(3) > 2 ? 1 : 0, 1);
        Check.due("count(6)", x.count(6) > 2 ? 1 : 0, 1);
        int[] backs = {1, 1, 3, 7, 2, 16};
        int time = 45;
        for (int n : backs) {
            time -= n;
            Check.due("back(" + n + ")", x.back(n), time);
            same("back(" + n + ")", all(x), ahead[time]);
        }
        Check.due("count(8)", x.count(8), 0);
        Check.due("audit()", x.audit(), NONE);
        String now = all(x);
        x.step();
        x.step();
        String later = all(x);
        x.back(2);
        same("back(2)", all(x), now);
        x.step();
        x.step();
        same("the same STEPS again", all(x), later);
    }

    private static void undone() {
        Check.about("promise 27, UNDONE");
        SortWorks x = new SortWorks();
        x.gear(0, 1);
        x.gear(0, 1);
        x.gear(0, 1);
        x.come(0, 1, 1);
        x.step();
        x.come(1, 1, 1);
        x.step();
        x.come(2, 1, 1);
        Check.due("left(3)", x.left(3), -10);
        Check.due("back(1)", x.back(1), 1);
        Check.due("left(3)", x.left(3), NONE);
        Check.due("left(2), given ahead of that STEP", x.left(2), -10);
        Check.due("parcel(3, 0)", x.parcel(3, 0), UNKNOWN);
        Check.due("slot(2, 0)", x.slot(2, 0), 0);
        Check.due("count(2)", x.count(2), 2);
        Check.due("count(1)", x.count(1), 2);
        Check.due("count(13)", x.count(13), 3);
        Check.due("come(2, 1, 1), each NUMBER once", x.come(2, 1, 1), 4);
        Check.due("left(3)", x.left(3), NONE);
        Check.due("back(1)", x.back(1), 0);
        Check.due("left(1)", x.left(1), -10);
        Check.due("left(2)", x.left(2), NONE);
        Check.due("left(3)", x.left(3), NONE);
        Check.due("left(4)", x.left(4), NONE);
        Check.due("left(5)", x.left(5), UNKNOWN);
    }

    private static void undoneByWorks() {
        Check.about("promise 27, NUMBERS of other WORKS");
        SortWorks x = new SortWorks();
        x.gear(0, 1);
        x.gear(0, 1);
        x.step();
        x.works(1);
        x.gear(0, 1);
        x.step();
        Check.due("come", x.come(0, 1, 1), 1);
        x.works(0);
        Check.due("come", x.come(0, 1, 1), 2);
        x.works(2);
        x.gear(0, 1);
        Check.due("come", x.come(0, 1, 1), 3);
        x.works(0);
        Check.due("back(1)", x.back(1), 0);
        Check.due("left(1)", x.left(1), -11);
        Check.due("left(2)", x.left(2), NONE);
        Check.due("left(3)", x.left(3), -12);
        x.works(1);
        Check.due("count(8)", x.count(8), 1);
        Check.due("back(1)", x.back(1), 0);
        Check.due("left(1)", x.left(1), NONE);
        Check.due("left(3)", x.left(3), -12);
    }

    private static void outIsInsideAgain() {
        Check.about("promises 27 and 35, what was OUT");
        SortWorks x = new SortWorks();
        x.works(2);
        Check.buildSorter(x);
        x.come(0, 1, 1);
        x.tag(1, 0, 1);
        Check.steps(x, 2);
        Check.due("left(1)", x.left(1), 2002);
        x.come(0, 2, 2);
        x.tag(2, 0, 1);
        Check.steps(x, 2);
        Check.due("left(2)", x.left(2), 2002);
        Check.due("count(3)", x.count(3), 2);
        Check.due("out(1, 0)", x.out(1, 0), 1);
        Check.due("back(1)", x.back(1), 3);
        Check.due("left(2)", x.left(2), -12);
        Check.due("left(1)", x.left(1), 2002);
        Check.due("count(3)", x.count(3), 1);
        Check.due("out(0, 0)", x.out(0, 0), 1);
        Check.due("out(1, 0)", x.out(1, 0), NONE);
        Check.due("told(2, 5)", x.told(2, 5), 1);
        x.step();
        Check.due("left(2)", x.left(2), 2002);
        Check.due("back(2)", x.back(2), 2);
        Check.due("left(2), it came ahead of that STEP", x.left(2), -12);
        Check.due("back(1)", x.back(1), 1);
        Check.due("left(2)", x.left(2), NONE);
        Check.due("left(1)", x.left(1), -12);
        Check.due("count(1)", x.count(1), 1);
    }

    /** SCANNER 1 to CHUTE 2 and DOOR 0, in each WORKS: left() of DOOR 0 is 0, 1000, 2000. */
    private static void outSinceIsUndone() {
        Check.about("promise 27, what came and went since");
        SortWorks x = new SortWorks();
        for (int w = 0; w < 3; w++) {
            x.works(w);
            x.gear(9, 0);
            x.gear(3, 1);
            x.gear(7, 1);
            Check.links(x, 1, 2);
            Check.links(x, 2, 0);
            Check.load(x, ":2;");
            x.door(0, true);
            x.step();
        }
        for (int w = 0; w < 3; w++) {
            x.works(w);
            x.come(1, 1, 1);
            x.tag(w + 1, 0, 1);
            Check.steps(x, 2);
        }
        for (int w = 0; w < 3; w++) {
            Check.due("left(" + (w + 1) + ")", x.left(w + 1), 1000 * w);
        }
        for (int w = 0; w < 3; w++) {
            x.works(w);
            Check.due("back(3)", x.back(3), 0);
            for (int p = 1; p <= 3; p++) {
                Check.due("left(" + p + ")", x.left(p), p <= w + 1 ? NONE : 1000 * (p - 1));
            }
            Check.due("count(3)", x.count(3), 0);
        }
    }

    private static void thirtyInside() {
        Check.about("promise 27, 30 PARCELS");
        SortWorks x = new SortWorks();
        for (int g = 0; g < 30; g++) {
            x.gear(0, 2);
            x.come(g, g + 1, g % 10);
        }
        String ahead = all(x);
        x.step();
        String later = all(x);
        for (int p = 1; p <= 30; p++) {
            Check.due("parcel(" + p + ", 1)", x.parcel(p, 1), 1);
            x.label(p, p % 13);
        }
        x.back(1);
        same("back(1)", all(x), ahead);
        for (int p = 1; p <= 30; p++) {
            Check.due("left(" + p + ")", x.left(p), -10);
        }
        x.step();
        same("step()", all(x), later);
        x.back(1);
        x.carry(30, 28);
        same("carry() that is refused", all(x), ahead);
        x.step();
        x.step();
        Check.due("told(29, 3), the last PARCEL moves and waits as others do", x.told(29, 3), 1);
        Check.due("told(0, 3)", x.told(0, 3), 1);
    }

    private static void thirtiethGoesOut() {
        Check.about("promise 27, the thirtieth INSIDE");
        SortWorks x = new SortWorks();
        Check.buildSorter(x);
        for (int g = 3; g < 32; g++) {
            x.gear(0, 1);
        }
        for (int g = 3; g < 32; g++) {
            x.come(g, 1, 1);
        }
        Check.due("come(0, 1, 1)", x.come(0, 1, 1), 30);
        x.tag(30, 0, 1);
        Check.steps(x, 2);
        Check.due("left(30)", x.left(30), 2);
        x.back(1);
        Check.due("left(30)", x.left(30), -10);
        Check.due("slot(1, 0)", x.slot(1, 0), 30);
        Check.due("count(1)", x.count(1), 30);
    }

    private static void handsGoBack() {
        Check.about("promise 27, what was done by hand");
        SortWorks x = new SortWorks();
        x.gear(9, 0);
        x.gear(6, 1);
        x.gear(8, 1);
        x.step();
        x.door(0, true);
        x.turn(1, 2);
        x.release(2, 9);
        x.step();
        x.door(0, false);
        x.turn(1, 1);
        x.release(2, 3);
        Check.due("back(1)", x.back(1), 1);
        Check.due("told(0, 2)", x.told(0, 2), 1);
        Check.due("told(1, 2)", x.told(1, 2), 2);
        Check.due("told(2, 10)", x.told(2, 10), 9);
        Check.due("told(0, 4), its LAMP", x.told(0, 4), 0);
        Check.due("back(1)", x.back(1), 0);
        Check.due("told(0, 2)", x.told(0, 2), 0);
        Check.due("told(1, 2)", x.told(1, 2), 0);
        Check.due("told(2, 10)", x.told(2, 10), 0);
        Check.due("told(0, 8), ACTS", x.told(0, 8), 0);
    }

    private static void labelsGoBack() {
        Check.about("promise 27, LABELS");
        SortWorks x = new SortWorks();
        x.gear(0, 1);
        x.come(0, 5, 5);
        x.step();
        x.label(1, 3);
        x.put(1, 2, 9);
        x.step();
        x.put(1, 2, 8);
        x.step();
        x.tag(1, 0, 1);
        x.back(1);
        Check.due("parcel(1, 6)", x.parcel(1, 6), 3);
        Check.due("byteOf(1, 2)", x.byteOf(1, 2), 8);
        x.back(1);
        Check.due("byteOf(1, 2)", x.byteOf(1, 2), 9);
        x.label(1, 12);
        x.back(1);
        Check.due("parcel(1, 6)", x.parcel(1, 6), NONE);
    }

    /** FINDINGS and OUTS that newer ones pushed out are kept again when those are gone back behind. */
    private static void logsGoBack() {
        Check.about("promise 27, FINDINGS and OUTS");
        SortWorks x = new SortWorks();
        Check.buildSorter(x);
        x.gear(10, 0);
        for (int p = 1; p <= 45; p++) {
            x.come(0, 1, 1);
            x.tag(p, p % 2, 1);
            Check.steps(x, 2);
        }
        Check.due("out(29, 0)", x.out(29, 0), 16);
        Check.due("finding(39, 0)", x.finding(39, 0), 51);
        Check.due("back(30)", x.back(30), 60);
        Check.due("out(0, 0)", x.out(0, 0), 30);
        Check.due("out(29, 0)", x.out(29, 0), 1);
        Check.due("out(29, 2)", x.out(29, 2), 2);
        Check.due("finding(0, 0)", x.finding(0, 0), 60);
        Check.due("finding(39, 0)", x.finding(39, 0), 21);
        Check.due("count(6)", x.count(6), 60);
        Check.due("told(3, 7)", x.told(3, 7), 60);
    }

    private static void keptThirty() {
        Check.about("promise 27, 30 at most");
        SortWorks x = new SortWorks();
        Check.steps(x, 33);
        Check.due("count(8)", x.count(8), 30);
        Check.due("back(30)", x.back(30), 3);
        Check.due("count(8)", x.count(8), 0);
        Check.refused(x, "back(1), the eldest went", x.back(1), STATE);
        Check.steps(x, 31);
        Check.due("back(29)", x.back(29), 5);
        Check.due("back(1)", x.back(1), 4);
        Check.due("back(1)", x.back(1), STATE);
    }

    private static void groupsStay() {
        Check.about("promise 27, what does not go back");
        SortWorks x = new SortWorks();
        x.gear(0, 1);
        x.step();
        x.group(0, 1, 1);
        x.enter(0, 0, 0);
        x.letter('D');
        x.back(1);
        Check.due("tally(0, 0)", x.tally(0, 0), 0);
        Check.due("count(10)", x.count(10), 1);
    }
}
