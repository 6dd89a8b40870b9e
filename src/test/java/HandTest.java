/** Promises 13 to 24: what is done by hand. */
final class HandTest {
    private static final int UNKNOWN = -1, OUTSIDE = -2, STATE = -3, FULL = -4, UNREAD = -8, NONE = -9;
    private static final int NULL = -11, CAST = -12, INDEX = -13, STORE = -14, SIZE = -15;

    public static void main(String[] args) {
        come();
        comeIsFull();
        numbersAreFull();
        label();
        put();
        tagFormA();
        tagFormB();
        tagRefused();
        door();
        turn();
        release();
        clear();
        clearRefused();
        carry();
        carryToChutes();
        group();
        enter();
        tally();
        Check.end();
    }

    private static void come() {
        Check.about("promise 13");
        SortWorks x = new SortWorks();
        for (int kind = 0; kind <= 10; kind++) {
            x.gear(kind, 2);
        }
        Check.refused(x, "come(11, 0, 0), UNKNOWN ahead of OUTSIDE", x.come(11, 0, 0), UNKNOWN);
        Check.refused(x, "come(-1, 1, 1)", x.come(-1, 1, 1), UNKNOWN);
        Check.refused(x, "come(9, 0, 1), OUTSIDE ahead of CAST", x.come(9, 0, 1), OUTSIDE);
        Check.refused(x, "come(0, 1000, 1)", x.come(0, 1000, 1), OUTSIDE);
        Check.refused(x, "come(0, 1, -1)", x.come(0, 1, -1), OUTSIDE);
        Check.refused(x, "come(0, 1, 10)", x.come(0, 1, 10), OUTSIDE);
        Check.refused(x, "come(9, 1, 1)", x.come(9, 1, 1), CAST);
        Check.refused(x, "come(10, 1, 1)", x.come(10, 1, 1), CAST);
        Check.refused(x, "come(7, 1, 1)", x.come(7, 1, 1), STATE);
        Check.refused(x, "come(8, 1, 1)", x.come(8, 1, 1), STATE);
        Check.due("count(7)", x.count(7), 2);
        Check.due("count(13)", x.count(13), 0);
        for (int g = 0; g <= 6; g++) {
            Check.due("come(" + g + ", 999, 0)", x.come(g, 999, 0), g + 1);
        }
        Check.due("status()", x.status(), 0);
        Check.refused(x, "come(0, 1, 1)", x.come(0, 1, 1), STATE);
        int[] want = {3, 0, 999, 0, NONE, 1, NONE, 0};
        for (int what = 0; what < want.length; what++) {
            Check.due("parcel(4, " + what + ")", x.parcel(4, what), want[what]);
        }
        Check.due("way(4, 0)", x.way(4, 0), 3);
        Check.due("told(3, 5)", x.told(3, 5), 1);
        Check.due("told(3, 9)", x.told(3, 9), 1);
        Check.due("slot(3, 0)", x.slot(3, 0), 4);
        Check.due("count(1)", x.count(1), 7);
        Check.due("count(2)", x.count(2), 7);
        x.works(1);
        x.gear(0, 1);
        Check.due("come(0, 1, 9) of another WORKS", x.come(0, 1, 9), 8);
        Check.due("count(2)", x.count(2), 1);
        Check.due("count(13)", x.count(13), 8);
    }

    private static void comeIsFull() {
        Check.about("promise 13, 30 INSIDE");
        SortWorks x = new SortWorks();
        for (int g = 0; g < 31; g++) {
            x.gear(0, 1);
        }
        for (int g = 0; g < 30; g++) {
            x.come(g, 1, 1);
        }
        Check.refused(x, "come(29, 1, 1), STATE ahead of FULL", x.come(29, 1, 1), STATE);
        Check.refused(x, "come(30, 1, 1)", x.come(30, 1, 1), FULL);
        Check.due("count(13)", x.count(13), 30);
        Check.due("carry(30, 30)", x.carry(30, 30), 29);
        Check.due("night(1, 1), in which none comes", x.night(1, 1), 0);
        x.works(2);
        x.gear(0, 1);
        Check.due("come(0, 1, 1) of another WORKS", x.come(0, 1, 1), 31);
    }

    /**
     * BELT 0 has room in each STEP until its 8 SLOTS are full, then in every second one, since BELT 1 acts behind it.
     * Going back makes room again, but NUMBERS stay given.
     */
    private static void numbersAreFull() {
        Check.about("promise 13, 2,000 NUMBERS");
        SortWorks x = new SortWorks();
        for (int g = 0; g < 4; g++) {
            x.gear(0, 8);
        }
        Check.links(x, 0, 1);
        Check.links(x, 1, 2);
        Check.due("night(0, 20)", x.night(0, 20), 14);
        x.back(20);
        for (int i = 1; i <= 152; i++) {
            Check.due("night(" + i + ", 20), SLOT 0 is not empty at first", x.night(i, 20), 13);
            x.back(20);
        }
        Check.due("count(13)", x.count(13), 1990);
        Check.due("night(153, 20)", x.night(153, 20), 10);
        Check.due("count(13)", x.count(13), 2000);
        Check.due("count(1)", x.count(1), 11);
        Check.due("left(2000)", x.left(2000), -10);
        Check.due("left(2001)", x.left(2001), UNKNOWN);
        Check.refused(x, "come(3, 1, 1)", x.come(3, 1, 1), FULL);
        x.works(1);
        x.gear(0, 1);
        Check.refused(x, "come(0, 1, 1) of another WORKS", x.come(0, 1, 1), FULL);
    }

    private static void label() {
        Check.about("promise 14");
        SortWorks x = new SortWorks();
        x.gear(0, 1);
        x.come(0, 1, 1);
        Check.refused(x, "label(2, 13)", x.label(2, 13), UNKNOWN);
        Check.refused(x, "label(0, 1)", x.label(0, 1), UNKNOWN);
        Check.refused(x, "label(1, 13)", x.label(1, 13), OUTSIDE);
        Check.refused(x, "label(1, -2)", x.label(1, -2), SIZE);
        Check.due("count(7)", x.count(7), 1);
        Check.due("parcel(1, 6)", x.parcel(1, 6), NONE);
        Check.due("label(1, 12)", x.label(1, 12), 12);
        Check.due("parcel(1, 6)", x.parcel(1, 6), 12);
        x.put(1, 11, 200);
        Check.due("byteOf(1, 11)", x.byteOf(1, 11), 200);
        Check.due("label(1, 12)", x.label(1, 12), 12);
        Check.due("byteOf(1, 11), a new ROW", x.byteOf(1, 11), 0);
        Check.due("byteOf(1, 12)", x.byteOf(1, 12), NONE);
        Check.due("label(1, 0)", x.label(1, 0), 0);
        Check.due("parcel(1, 6)", x.parcel(1, 6), 0);
        Check.due("byteOf(1, 0)", x.byteOf(1, 0), NONE);
        Check.due("label(1, -1)", x.label(1, -1), -1);
        Check.due("status()", x.status(), 0);
        Check.due("parcel(1, 6)", x.parcel(1, 6), NONE);
        x.works(1);
        Check.refused(x, "label(1, 1), INSIDE another WORKS", x.label(1, 1), UNKNOWN);
    }

    private static void put() {
        Check.about("promise 15");
        SortWorks x = new SortWorks();
        x.gear(0, 1);
        x.come(0, 1, 1);
        Check.refused(x, "put(2, 0, 0)", x.put(2, 0, 0), UNKNOWN);
        Check.refused(x, "put(1, -1, 0), NULL ahead of INDEX", x.put(1, -1, 0), NULL);
        x.label(1, 2);
        Check.refused(x, "put(1, 2, 0)", x.put(1, 2, 0), INDEX);
        Check.refused(x, "put(1, -1, 0)", x.put(1, -1, 0), INDEX);
        Check.due("count(7)", x.count(7), 3);
        Check.due("put(1, 1, -1)", x.put(1, 1, -1), 1);
        Check.due("status()", x.status(), 0);
        Check.due("byteOf(1, 1)", x.byteOf(1, 1), 255);
        Check.due("put(1, 0, 0x1234)", x.put(1, 0, 0x1234), 1);
        Check.due("byteOf(1, 0)", x.byteOf(1, 0), 0x34);
        Check.due("byteOf(1, 1)", x.byteOf(1, 1), 255);
    }

    private static void bytes(SortWorks x, int parcel, int... want) {
        for (int i = 0; i < want.length; i++) {
            Check.due("byteOf(" + parcel + ", " + i + ")", x.byteOf(parcel, i), want[i]);
        }
        Check.due("byteOf(" + parcel + ", " + want.length + ")", x.byteOf(parcel, want.length), NONE);
    }

    private static void tagFormA() {
        Check.about("promise 16, FORM A");
        SortWorks x = new SortWorks();
        x.gear(0, 1);
        x.gear(0, 1);
        x.come(0, 407, 8);
        x.come(1, 1, 0);
        Check.due("tag(1, 0, 53)", x.tag(1, 0, 53), 8);
        // 3 * 5 + 3 + 3 * 4 + 0 + 3 * 7 + 8 = 59, so 1 is the CHECK.
        bytes(x, 1, 'A', '5', '3', '4', '0', '7', '8', '1');
        Check.due("tag(2, 0, 4)", x.tag(2, 0, 4), 8);
        // 0 + 4 + 0 + 0 + 3 + 0 = 7
        bytes(x, 2, 'A', '0', '4', '0', '0', '1', '0', '3');
        Check.due("tag(2, 0, 7)", x.tag(2, 0, 7), 8);
        // 10: the CHECK is 0.
        bytes(x, 2, 'A', '0', '7', '0', '0', '1', '0', '0');
        Check.due("tag(2, 0, 99)", x.tag(2, 0, 99), 8);
        bytes(x, 2, 'A', '9', '9', '0', '0', '1', '0', '1');
        tagged(100, 0, "A001000", '7');
        tagged(99, 0, "A000990", '4');
        tagged(999, 9, "A009999", '8');
        tagged(500, 0, "A005000", '5');
        tagged(800, 3, "A008003", '3');
    }

    private static void tagged(int weight, int size, String want, int check) {
        SortWorks x = new SortWorks();
        x.gear(0, 1);
        x.come(0, weight, size);
        x.tag(1, 0, 0);
        for (int i = 0; i < 7; i++) {
            Check.due("byteOf(1, " + i + ") of WEIGHT " + weight, x.byteOf(1, i), want.charAt(i));
        }
        Check.due("byteOf(1, 7) of WEIGHT " + weight, x.byteOf(1, 7), check);
    }

    private static void tagFormB() {
        Check.about("promise 16, FORM B");
        SortWorks x = new SortWorks();
        x.gear(0, 1);
        x.come(0, 999, 9);
        x.tag(1, 0, 0);
        Check.due("tag(1, 1, 99)", x.tag(1, 1, 99), 6);
        // 999 is 3 * 256 + 231; 7 * 99 + 5 * 3 + 3 * 231 + 9 = 1410 = 14 * 97 + 52
        bytes(x, 1, 'B', 99, 3, 231, 9, 52);
        Check.due("parcel(1, 6)", x.parcel(1, 6), 6);
        Check.due("parcel(1, 4), that stays", x.parcel(1, 4), NONE);
        int[][] weights = {{255, 0, 255}, {256, 1, 0}, {511, 1, 255}, {512, 2, 0}, {767, 2, 255}, {768, 3, 0}};
        for (int[] row : weights) {
            SortWorks y = new SortWorks();
            y.gear(0, 1);
            y.come(0, row[0], 0);
            y.tag(1, 1, 0);
            bytes(y, 1, 'B', 0, row[1], row[2], 0, (5 * row[1] + 3 * row[2]) % 97);
        }
    }

    private static void tagRefused() {
        Check.about("promise 16, refused");
        SortWorks x = new SortWorks();
        x.gear(0, 1);
        x.come(0, 1, 1);
        Check.refused(x, "tag(2, 2, 100)", x.tag(2, 2, 100), UNKNOWN);
        Check.refused(x, "tag(1, 2, 0)", x.tag(1, 2, 0), OUTSIDE);
        Check.refused(x, "tag(1, -1, 0)", x.tag(1, -1, 0), OUTSIDE);
        Check.refused(x, "tag(1, 0, 100)", x.tag(1, 0, 100), OUTSIDE);
        Check.refused(x, "tag(1, 1, -1)", x.tag(1, 1, -1), OUTSIDE);
        Check.due("parcel(1, 6)", x.parcel(1, 6), NONE);
        x.tag(1, 1, 0);
        Check.due("status()", x.status(), 0);
    }

    private static void door() {
        Check.about("promise 17");
        SortWorks x = new SortWorks();
        x.gear(9, 0);
        x.gear(10, 0);
        x.gear(7, 1);
        Check.refused(x, "door(3, true)", x.door(3, true), UNKNOWN);
        Check.refused(x, "door(1, true)", x.door(1, true), CAST);
        Check.refused(x, "door(2, true)", x.door(2, true), CAST);
        Check.due("door(0, true)", x.door(0, true), 0);
        Check.due("status()", x.status(), 0);
        Check.due("told(0, 2)", x.told(0, 2), 1);
        Check.due("told(0, 4), its LAMP waits for its ACT", x.told(0, 4), 0);
        Check.due("door(0, true)", x.door(0, true), 1);
        Check.due("door(0, false)", x.door(0, false), 1);
        Check.due("told(0, 2)", x.told(0, 2), 0);
        Check.due("door(0, false)", x.door(0, false), 0);
    }

    private static void turn() {
        Check.about("promise 18");
        SortWorks x = new SortWorks();
        x.gear(5, 1);
        x.gear(6, 1);
        x.gear(0, 1);
        Check.refused(x, "turn(3, 9)", x.turn(3, 9), UNKNOWN);
        Check.refused(x, "turn(2, 9), CAST ahead of INDEX", x.turn(2, 9), CAST);
        Check.refused(x, "turn(0, 2)", x.turn(0, 2), INDEX);
        Check.refused(x, "turn(0, -1)", x.turn(0, -1), INDEX);
        Check.refused(x, "turn(1, 3)", x.turn(1, 3), INDEX);
        Check.due("turn(0, 1)", x.turn(0, 1), 0);
        Check.due("turn(1, 2)", x.turn(1, 2), 0);
        Check.due("turn(1, 1)", x.turn(1, 1), 2);
        Check.due("status()", x.status(), 0);
        Check.due("told(1, 2)", x.told(1, 2), 1);
        x.come(1, 1, 1);
        Check.refused(x, "turn(1, 3), INDEX ahead of STATE", x.turn(1, 3), INDEX);
        Check.refused(x, "turn(1, 0)", x.turn(1, 0), STATE);
        Check.due("told(1, 2)", x.told(1, 2), 1);
    }

    private static void release() {
        Check.about("promise 19");
        SortWorks x = new SortWorks();
        x.gear(8, 1);
        x.gear(7, 1);
        Check.refused(x, "release(2, 21)", x.release(2, 21), UNKNOWN);
        Check.refused(x, "release(1, 21), OUTSIDE ahead of CAST", x.release(1, 21), OUTSIDE);
        Check.refused(x, "release(0, -1)", x.release(0, -1), OUTSIDE);
        Check.refused(x, "release(1, 20)", x.release(1, 20), CAST);
        Check.due("release(0, 20)", x.release(0, 20), 0);
        Check.due("release(0, 3)", x.release(0, 3), 20);
        Check.due("status()", x.status(), 0);
        Check.due("told(0, 10)", x.told(0, 10), 3);
        Check.due("release(0, 0)", x.release(0, 0), 3);
    }

    /** A BELT that leads nowhere, with a PARCEL at its end. */
    private static SortWorks jammed(int waits) {
        SortWorks x = new SortWorks();
        x.gear(8, 2);
        x.gear(0, 2);
        x.gear(8, 2);
        x.gear(9, 0);
        x.gear(8, 2);
        x.links(1, 1);
        x.come(1, 5, 5);
        Check.steps(x, 1 + waits);
        return x;
    }

    private static void clear() {
        Check.about("promise 20");
        SortWorks x = jammed(8);
        Check.due("told(1, 3)", x.told(1, 3), 8);
        Check.due("clear(1)", x.clear(1), 0);
        Check.due("status()", x.status(), 0);
        Check.due("slot(0, 0)", x.slot(0, 0), 1);
        Check.due("slot(1, 1)", x.slot(1, 1), 0);
        Check.due("told(1, 3)", x.told(1, 3), 0);
        Check.due("told(1, 6), WENT", x.told(1, 6), 1);
        Check.due("told(0, 5), CAME", x.told(0, 5), 1);
        Check.due("parcel(1, 4)", x.parcel(1, 4), UNREAD);
        Check.due("parcel(1, 0)", x.parcel(1, 0), 0);
        Check.due("parcel(1, 1)", x.parcel(1, 1), 0);
        Check.due("parcel(1, 5), WAY", x.parcel(1, 5), 2);
        Check.due("way(1, 1)", x.way(1, 1), 0);
        Check.due("jam(0)", x.jam(0), NONE);

        Check.about("promise 20, from a HOLD to the next one, and where SLOT 0 is taken");
        Check.steps(x, 9);
        Check.due("jam(0)", x.jam(0), 0);
        Check.due("clear(0), not itself", x.clear(0), 2);
        x.come(1, 6, 6);
        x.step();
        Check.steps(x, 8);
        Check.due("slot(2, 1)", x.slot(2, 1), 1);
        x.carry(1, 0);
        Check.due("clear(1)", x.clear(1), 2);
        Check.due("audit()", x.audit(), NONE);
    }

    private static void clearRefused() {
        Check.about("promise 20, refused");
        SortWorks x = jammed(7);
        Check.refused(x, "clear(5)", x.clear(5), UNKNOWN);
        Check.refused(x, "clear(3)", x.clear(3), CAST);
        Check.refused(x, "clear(1), WAIT 7", x.clear(1), STATE);
        x.step();
        Check.due("jam(0)", x.jam(0), 1);
        x.carry(1, 1);
        Check.refused(x, "clear(1), its last SLOT is empty", x.clear(1), STATE);
        Check.due("told(1, 3), WAITS stay", x.told(1, 3), 8);

        SortWorks y = new SortWorks();
        y.gear(0, 1);
        y.gear(0, 1);
        y.gear(8, 1);
        y.come(0, 1, 1);
        y.come(1, 1, 1);
        Check.steps(y, 8);
        Check.due("clear(0)", y.clear(0), 2);
        Check.refused(y, "clear(1)", y.clear(1), FULL);
        Check.due("told(1, 3)", y.told(1, 3), 8);
        Check.due("parcel(2, 4)", y.parcel(2, 4), NONE);
        Check.steps(y, 7);
        Check.refused(y, "clear(2), to no HOLD but itself", y.clear(2), STATE);
        y.step();
        Check.refused(y, "clear(2)", y.clear(2), FULL);
    }

    private static void carry() {
        Check.about("promise 21");
        SortWorks x = new SortWorks();
        x.gear(3, 3);
        x.gear(9, 0);
        x.gear(2, 1);
        x.gear(6, 1);
        x.links(0, 1);
        Check.load(x, ":3;");
        x.come(0, 3, 3);
        x.tag(1, 0, 1);
        Check.refused(x, "carry(2, 0)", x.carry(2, 0), UNKNOWN);
        Check.refused(x, "carry(1, 4)", x.carry(1, 4), UNKNOWN);
        Check.refused(x, "carry(1, -1)", x.carry(1, -1), UNKNOWN);
        Check.refused(x, "carry(1, 1)", x.carry(1, 1), CAST);
        Check.refused(x, "carry(1, 0), where it is itself", x.carry(1, 0), STATE);
        Check.due("told(0, 6)", x.told(0, 6), 0);
        Check.steps(x, 3);
        Check.due("parcel(1, 7), SCANNED", x.parcel(1, 7), 1);
        Check.due("told(0, 3), WAIT", x.told(0, 3), 1);
        Check.due("carry(1, 0), from its own last SLOT", x.carry(1, 0), 0);
        Check.due("status()", x.status(), 0);
        Check.due("told(0, 5)", x.told(0, 5), 2);
        Check.due("told(0, 6)", x.told(0, 6), 1);
        Check.due("told(0, 3), WAITS stay", x.told(0, 3), 1);
        Check.due("parcel(1, 5)", x.parcel(1, 5), 2);
        Check.due("parcel(1, 7), not SCANNED since it came", x.parcel(1, 7), 0);
        Check.due("slot(0, 2)", x.slot(0, 2), 0);
        Check.due("slot(0, 0)", x.slot(0, 0), 1);
        Check.due("carry(1, 2), a MERGE takes it by hand", x.carry(1, 2), 0);
        Check.due("told(2, 13), LAST", x.told(2, 13), 0);
        x.aim(3, 2, 3, true);
        Check.due("carry(1, 3), a DIVERT of another SIDE too", x.carry(1, 3), 2);
        Check.due("told(3, 2)", x.told(3, 2), 0);
        Check.due("way(1, 3)", x.way(1, 3), 3);
        Check.due("audit()", x.audit(), NONE);
        x.works(1);
        x.gear(0, 1);
        Check.refused(x, "carry(1, 0), from another WORKS", x.carry(1, 0), UNKNOWN);
    }

    private static void carryToChutes() {
        Check.about("promise 21, to CHUTES");
        SortWorks x = new SortWorks();
        x.gear(3, 1);
        x.gear(7, 1);
        x.gear(8, 1);
        x.gear(7, 1);
        Check.load(x, "D=1:1;");
        x.come(0, 3, 3);
        Check.refused(x, "carry(1, 1), TARGET NONE", x.carry(1, 1), STATE);
        Check.refused(x, "carry(1, 2), TARGET NONE", x.carry(1, 2), STATE);
        x.tag(1, 0, 1);
        x.step();
        Check.due("parcel(1, 4)", x.parcel(1, 4), 1);
        Check.refused(x, "carry(1, 2), TARGET 1", x.carry(1, 2), STATE);
        Check.refused(x, "carry(1, 3), TARGET 1", x.carry(1, 3), STATE);
        Check.due("carry(1, 1)", x.carry(1, 1), 0);
        x.come(0, 4, 4);
        x.tag(2, 0, 1);
        x.step();
        Check.due("parcel(2, 4)", x.parcel(2, 4), 1);
        Check.refused(x, "carry(2, 1), SLOT 0 is not empty", x.carry(2, 1), STATE);
        x.label(2, -1);
        Check.steps(x, 8);
        Check.due("clear(0)", x.clear(0), 2);
        Check.due("parcel(2, 4)", x.parcel(2, 4), UNREAD);
        Check.due("carry(2, 0)", x.carry(2, 0), 2);
        Check.refused(x, "carry(2, 3), TARGET UNREAD", x.carry(2, 3), STATE);
        Check.due("carry(2, 2), TARGET UNREAD", x.carry(2, 2), 0);
    }

    private static void group() {
        Check.about("promise 22");
        SortWorks x = new SortWorks();
        x.gear(0, 1);
        x.step();
        Check.refused(x, "group(4, 4, 9)", x.group(4, 4, 9), UNKNOWN);
        Check.refused(x, "group(-1, 0, 0)", x.group(-1, 0, 0), UNKNOWN);
        Check.refused(x, "group(0, 4, -1), OUTSIDE ahead of SIZE", x.group(0, 4, -1), OUTSIDE);
        Check.refused(x, "group(0, -1, 0)", x.group(0, -1, 0), OUTSIDE);
        Check.refused(x, "group(0, 0, 9)", x.group(0, 0, 9), OUTSIDE);
        Check.refused(x, "group(0, 0, -1)", x.group(0, 0, -1), SIZE);
        Check.due("tally(0, 0), still NOTHING", x.tally(0, 0), NULL);
        Check.due("group(0, 0, 8)", x.group(0, 0, 8), 8);
        Check.due("group(0, 1, 1)", x.group(0, 1, 1), 1);
        Check.due("status()", x.status(), 0);
        Check.due("enter(0, 0, 0)", x.enter(0, 0, 0), 1);
        Check.due("tally(0, 0)", x.tally(0, 0), 0);
        Check.due("group(0, 1, 1), a new row", x.group(0, 1, 1), 1);
        Check.due("tally(0, 0), its place is empty", x.tally(0, 0), NULL);
        Check.due("group(0, 3, 0)", x.group(0, 3, 0), 0);
        Check.due("tally(0, 0)", x.tally(0, 0), 0);
        Check.due("count(8), what is KEPT stays", x.count(8), 1);
        x.works(1);
        Check.due("tally(0, 0) of another WORKS", x.tally(0, 0), NULL);
    }

    private static void enter() {
        Check.about("promise 23");
        SortWorks x = new SortWorks();
        for (int kind = 0; kind <= 10; kind++) {
            x.gear(kind, 1);
        }
        Check.refused(x, "enter(4, 0, 0)", x.enter(4, 0, 0), UNKNOWN);
        Check.refused(x, "enter(-1, 0, 0)", x.enter(-1, 0, 0), UNKNOWN);
        Check.refused(x, "enter(0, 0, 11), UNKNOWN ahead of NULL", x.enter(0, 0, 11), UNKNOWN);
        Check.refused(x, "enter(0, 9, 0), NULL ahead of INDEX", x.enter(0, 9, 0), NULL);
        String[] fits = {"11111111111", "11111000000", "00011000000", "00000001100"};
        for (int type = 0; type <= 3; type++) {
            x.group(type, type, 2);
            Check.refused(x, "enter(" + type + ", 2, 10), INDEX ahead of STORE", x.enter(type, 2, 10), INDEX);
            Check.refused(x, "enter(" + type + ", -1, 0)", x.enter(type, -1, 0), INDEX);
            for (int kind = 0; kind <= 10; kind++) {
                int want = fits[type].charAt(kind) == '1' ? 1 : STORE;
                Check.due("enter(" + type + ", 1, " + kind + ")", x.enter(type, 1, kind), want);
                Check.due("status()", x.status(), want == 1 ? 0 : STORE);
            }
        }
        Check.about("promise 23, behind refit()");
        x.group(2, 2, 1);
        x.enter(2, 0, 3);
        x.refit(3, 0);
        Check.due("tally(2, 0)", x.tally(2, 0), 0);
        x.come(3, 1, 1);
        Check.due("tally(2, 0)", x.tally(2, 0), 1);
        Check.due("enter(2, 0, 3)", x.enter(2, 0, 3), STORE);
        Check.due("tally(2, 0)", x.tally(2, 0), 1);
    }

    private static void tally() {
        Check.about("promise 24");
        SortWorks x = new SortWorks();
        x.gear(0, 2);
        x.gear(0, 1);
        x.gear(9, 0);
        Check.links(x, 0, 1);
        x.group(3, 0, 3);
        Check.refused(x, "tally(4, 3)", x.tally(4, 3), UNKNOWN);
        Check.refused(x, "tally(-1, 0)", x.tally(-1, 0), UNKNOWN);
        Check.refused(x, "tally(3, 3), OUTSIDE ahead of NULL", x.tally(3, 3), OUTSIDE);
        Check.refused(x, "tally(3, -1)", x.tally(3, -1), OUTSIDE);
        Check.refused(x, "tally(0, 0)", x.tally(0, 0), NULL);
        Check.refused(x, "tally(3, 0)", x.tally(3, 0), NULL);
        x.enter(3, 0, 0);
        x.enter(3, 1, 1);
        int faults = x.count(7);
        Check.refused(x, "tally(3, 0), one place is empty", x.tally(3, 0), NULL);
        Check.due("count(7)", x.count(7), faults + 1);
        x.enter(3, 2, 0);
        x.come(0, 1, 1);
        Check.due("tally(3, 0), GEAR 0 stands there twice", x.tally(3, 0), 2);
        Check.due("status()", x.status(), 0);
        Check.steps(x, 2);
        Check.due("slot(1, 0)", x.slot(1, 0), 1);
        Check.due("tally(3, 0)", x.tally(3, 0), 1);
        Check.due("tally(3, 1)", x.tally(3, 1), 3);
        Check.due("tally(3, 2)", x.tally(3, 2), 2);
    }
}
