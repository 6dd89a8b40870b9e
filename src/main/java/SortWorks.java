import java.util.Arrays;

/**
 * Works that sort parcels. The words in capitals in the comments are those of the document.
 *
 * <p>A FAULT is held everywhere as the answer that tells it (-10 less its number), so that one int carries either
 * what was come to (0 or more) or the FAULT that stood in the way.
 */
public final class SortWorks {
    public static final int UNKNOWN = -1, OUTSIDE = -2, STATE = -3, FULL = -4, UNREAD = -8, NONE = -9;

    private static final int NULL = -11, CAST = -12, INDEX = -13, STORE = -14, SIZE = -15, ZERO = -16;
    private static final int NO_FAULT = 0, FAULT_BASE = -10, MISTYPED_BASE = -100;

    private static final int BELT = 0, MERGE = 2, SCANNER = 3, SCALE = 4, DIVERT = 5, CROSS = 6, CHUTE = 7,
            HOLD = 8, DOOR = 9, PANEL = 10, KINDS = 11;
    private static final int[] PACES = {1, 2, 1, 1, 2, 1, 1, 1, 1, 1, 1};
    private static final int[] RANKS = {1, 2, 1, 1, 4, 3, 3, 1, 1, 0, 0};
    /** How many LINKS, from 0 on, a PARCEL may go by to another TAKER: of DIVERTS one for each SIDE. */
    private static final int[] LINKS_AHEAD = {1, 1, 1, 1, 1, 2, 3, 0, 1, 0, 0};
    /** Three places a KIND: the bodies of its ACT in the order in which they begin, 0 where there is no more. */
    private static final int[] BODIES = {1, 0, 0, 2, 1, 0, 3, 1, 0, 4, 1, 0, 5, 4, 1, 6, 0, 0, 7, 6, 0, 8, 0, 0, 9, 0, 0,
        10, 0, 0, 11, 0, 0};
    private static final int BODIES_MOST = 3;
    private static final int ASKED_BELT = 20, ASKED_MERGE = 21, ASKED_DIVERT = 22, ASKED_CHUTE = 23, ASKED_HOLD = 24;

    private static final int WORKS_MOST = 3, GEAR_MOST = 40, SLOTS_MOST = 8, SIDES_MOST = 3, LINKS_MOST = 3,
            GROUPS_MOST = 4, GROUP_PLACES_MOST = 8, RELEASES_MOST = 20, RANK_MOST = 9, PLANS_MOST = 16,
            PLAN_NUMBERS = 4, PLAN_TIME_MOST = 9999;
    private static final int NUMBERS_MOST = 2000, INSIDE_MOST = 30, WEIGHT_MOST = 999, SIZE_MOST = 9, LABEL_MOST = 12,
            PLACE_MOST = 99, WAY_MOST = 16;
    private static final int LETTERS_MOST = 200, RULES_MOST = 12, TESTS_MOST = 4, DIGITS_MOST = 4;
    private static final int KEPT_MOST = 30, TRACE_MOST = 60, FINDINGS_MOST = 40, OUTS_MOST = 30, FAULTS_MOST = 5000,
            NIGHT_MOST = 20, JAM_WAIT = 8;
    private static final int ACT_GIVEN = 1, ACT_READ = 2, ACT_RULE = 3, ACT_PANEL = 4, ACT_PLAN = 5;
    private static final int OP_DOOR = 0, OP_TURN = 1, OP_RELEASE = 2;
    private static final int FORM_A = 65, FORM_A_BYTES = 8, FORM_B = 66, FORM_B_BYTES = 6, DIGIT_ZERO = 48, BYTE = 255;
    private static final int NOTHING = -1, NOBODY = -1, UNREACHED = 1000000;

    private final Works[] works = {new Works(0), new Works(1), new Works(2)};
    private Works hand = works[0];
    private final Numbers numbers = new Numbers();
    private final Step stepper = new Step();
    private final Judge judge = new Judge();
    private final int[] letters = new int[LETTERS_MOST];
    private int typed;
    private int faults;
    private int status;

    public SortWorks() {
    }

    // ---- how each call ends

    private int refuse(int why) {
        if (why <= NULL && why >= ZERO) {
            faults++;
        }
        status = why;
        return why;
    }

    private int done(int answer) {
        status = 0;
        return answer;
    }

    private int built(int answer) {
        hand.forget();
        return done(answer);
    }

    // ---- what builds

    public int works(int w) {
        if (w < 0 || w >= WORKS_MOST) {
            return refuse(UNKNOWN);
        }
        int before = hand.number;
        hand = works[w];
        return done(before);
    }

    public int gear(int kind, int length) {
        if (!isKind(kind) || (isTakerKind(kind) && (length < 1 || length > SLOTS_MOST))) {
            return refuse(OUTSIDE);
        }
        if (hand.gearCount >= GEAR_MOST) {
            return refuse(FULL);
        }
        int number = hand.gearCount++;
        Gear g = hand.now.gear[number];
        g.begin(kind);
        g.length = isTakerKind(kind) ? length : 0;
        return built(number);
    }

    public int links(int gear, int n) {
        Gear g = hand.gearOf(gear);
        if (g == null) {
            return refuse(UNKNOWN);
        }
        if (n > LINKS_MOST) {
            return refuse(OUTSIDE);
        }
        if (n < NOTHING) {
            return refuse(SIZE);
        }
        Arrays.fill(g.links, NOBODY);
        g.linkCount = n;
        return built(n);
    }

    public int link(int gear, int k, int to) {
        Gear g = hand.gearOf(gear);
        if (g == null) {
            return refuse(UNKNOWN);
        }
        if (to < NOBODY || to >= GEAR_MOST) {
            return refuse(OUTSIDE);
        }
        if (g.linkCount == NOTHING) {
            return refuse(NULL);
        }
        if (k < 0 || k >= g.linkCount) {
            return refuse(INDEX);
        }
        g.links[k] = to;
        return built(1);
    }

    public int aim(int gear, int side, int target, boolean in) {
        Gear g = hand.gearOf(gear);
        if (g == null) {
            return refuse(UNKNOWN);
        }
        if (side < 1 || side > 2 || target < 0 || target >= GEAR_MOST) {
            return refuse(OUTSIDE);
        }
        if (!g.isDivert()) {
            return refuse(CAST);
        }
        if (!g.hasSide(side)) {
            return refuse(INDEX);
        }
        boolean before = g.aims(side, target);
        g.aimAt(side, target, in);
        return built(before == in ? 0 : 1);
    }

    public int rank(int gear, int rank) {
        Gear g = hand.gearOf(gear);
        if (g == null) {
            return refuse(UNKNOWN);
        }
        if (rank < 0 || rank > RANK_MOST) {
            return refuse(OUTSIDE);
        }
        if (!g.isTaker()) {
            return refuse(CAST);
        }
        int before = g.rank;
        g.rank = rank;
        return built(before);
    }

    public int refit(int gear, int kind) {
        Gear g = hand.gearOf(gear);
        if (g == null) {
            return refuse(UNKNOWN);
        }
        if (!isKind(kind)) {
            return refuse(OUTSIDE);
        }
        if (g.isTaker() != isTakerKind(kind)) {
            return refuse(CAST);
        }
        if (g.parcels() > 0) {
            return refuse(STATE);
        }
        int before = g.kind;
        g.begin(kind);
        return built(before);
    }

    public int copy(int w) {
        if (w < 0 || w >= WORKS_MOST) {
            return refuse(UNKNOWN);
        }
        if (hand.gearCount > 0) {
            return refuse(STATE);
        }
        hand.buildLike(works[w]);
        return built(hand.gearCount);
    }

    public int letter(int c) {
        if (c < 33 || c > 126) {
            return refuse(OUTSIDE);
        }
        if (typed >= LETTERS_MOST) {
            return refuse(FULL);
        }
        letters[typed] = c;
        typed++;
        return done(typed);
    }

    public int load() {
        int wrong = judge.wrongPlace(letters, typed);
        typed = 0;
        if (wrong != Judge.RIGHT) {
            return refuse(MISTYPED_BASE - wrong);
        }
        hand.ruleBy(judge.rules);
        return built(hand.rules.count);
    }

    public int plan(int n, int t, int op, int a, int b) {
        if (n < 1 || n > PLAN_NUMBERS || t < 0 || t > PLAN_TIME_MOST) {
            return refuse(OUTSIDE);
        }
        if (hand.planCount >= PLANS_MOST) {
            return refuse(FULL);
        }
        int number = hand.planCount++;
        int[] row = hand.plans[number];
        row[0] = t;
        row[1] = op;
        row[2] = a;
        row[3] = b;
        hand.planLengths[number] = n;
        return built(number);
    }

    // ---- what is done by hand

    public int come(int gear, int weight, int size) {
        Gear g = hand.gearOf(gear);
        if (g == null) {
            return refuse(UNKNOWN);
        }
        if (weight < 1 || weight > WEIGHT_MOST || size < 0 || size > SIZE_MOST) {
            return refuse(OUTSIDE);
        }
        if (!g.isTaker()) {
            return refuse(CAST);
        }
        if (g.isChute() || !g.isFreeAtStart()) {
            return refuse(STATE);
        }
        Parcel p = newParcel();
        if (p == null) {
            return refuse(FULL);
        }
        hand.now.bringIn(p, gear, weight, size);
        return done(p.number);
    }

    /** A PARCEL that has a NUMBER and is in no GEAR yet; null where come() is FULL. */
    private Parcel newParcel() {
        Parcel p = hand.now.freeParcel();
        if (p == null || numbers.given >= NUMBERS_MOST) {
            return null;
        }
        p.number = numbers.giveTo(hand.number);
        return p;
    }

    public int label(int parcel, int n) {
        Parcel p = hand.now.find(parcel);
        if (p == null) {
            return refuse(UNKNOWN);
        }
        if (n > LABEL_MOST) {
            return refuse(OUTSIDE);
        }
        if (n < NOTHING) {
            return refuse(SIZE);
        }
        Arrays.fill(p.label, 0);
        p.labelLength = n;
        return done(n);
    }

    public int put(int parcel, int i, int b) {
        Parcel p = hand.now.find(parcel);
        if (p == null) {
            return refuse(UNKNOWN);
        }
        if (p.labelLength == NOTHING) {
            return refuse(NULL);
        }
        if (i < 0 || i >= p.labelLength) {
            return refuse(INDEX);
        }
        p.label[i] = b & BYTE;
        return done(1);
    }

    public int tag(int parcel, int form, int to) {
        Parcel p = hand.now.find(parcel);
        if (p == null) {
            return refuse(UNKNOWN);
        }
        if (form < 0 || form > 1 || to < 0 || to > PLACE_MOST) {
            return refuse(OUTSIDE);
        }
        p.write(form, to);
        return done(p.labelLength);
    }

    public int door(int gear, boolean open) {
        Gear g = hand.gearOf(gear);
        if (g == null) {
            return refuse(UNKNOWN);
        }
        if (g.kind != DOOR) {
            return refuse(CAST);
        }
        boolean before = g.open;
        g.open = open;
        return done(before ? 1 : 0);
    }

    public int turn(int gear, int side) {
        Gear g = hand.gearOf(gear);
        if (g == null) {
            return refuse(UNKNOWN);
        }
        if (!g.isDivert()) {
            return refuse(CAST);
        }
        if (!g.hasSide(side)) {
            return refuse(INDEX);
        }
        if (g.parcels() > 0) {
            return refuse(STATE);
        }
        int before = g.side;
        g.side = side;
        return done(before);
    }

    public int release(int gear, int n) {
        Gear g = hand.gearOf(gear);
        if (g == null) {
            return refuse(UNKNOWN);
        }
        if (n < 0 || n > RELEASES_MOST) {
            return refuse(OUTSIDE);
        }
        if (g.kind != HOLD) {
            return refuse(CAST);
        }
        int before = g.releases;
        g.releases = n;
        return done(before);
    }

    public int clear(int gear) {
        Gear g = hand.gearOf(gear);
        if (g == null) {
            return refuse(UNKNOWN);
        }
        if (!g.isTaker()) {
            return refuse(CAST);
        }
        Parcel p = hand.now.inLastSlot(g);
        if (!g.isJammed() || p == null) {
            return refuse(STATE);
        }
        int hold = hand.freeHoldBut(gear);
        if (hold == NOBODY) {
            return refuse(FULL);
        }
        hand.now.carryOver(p, hold);
        p.target = UNREAD;
        g.wait = 0;
        return done(hold);
    }

    public int carry(int parcel, int gear) {
        Parcel p = hand.now.find(parcel);
        Gear g = hand.gearOf(gear);
        if (p == null || g == null) {
            return refuse(UNKNOWN);
        }
        if (!g.isTaker()) {
            return refuse(CAST);
        }
        if (!g.isFreeAtStart() || (g.isChute() && !g.isChuteFor(p.target, gear))) {
            return refuse(STATE);
        }
        int before = p.gear;
        hand.now.carryOver(p, gear);
        return done(before);
    }

    public int group(int i, int type, int n) {
        if (!isGroup(i)) {
            return refuse(UNKNOWN);
        }
        if (type < 0 || type > 3 || n > GROUP_PLACES_MOST) {
            return refuse(OUTSIDE);
        }
        if (n < 0) {
            return refuse(SIZE);
        }
        hand.groupTypes[i] = type;
        hand.groupSizes[i] = n;
        Arrays.fill(hand.groups[i], NOBODY);
        return done(n);
    }

    public int enter(int i, int k, int gear) {
        Gear g = hand.gearOf(gear);
        if (!isGroup(i) || g == null) {
            return refuse(UNKNOWN);
        }
        if (hand.groupSizes[i] == NOTHING) {
            return refuse(NULL);
        }
        if (k < 0 || k >= hand.groupSizes[i]) {
            return refuse(INDEX);
        }
        if (!g.isOfType(hand.groupTypes[i])) {
            return refuse(STORE);
        }
        hand.groups[i][k] = gear;
        return done(1);
    }

    public int tally(int i, int what) {
        if (!isGroup(i)) {
            return refuse(UNKNOWN);
        }
        if (what < 0 || what > 2) {
            return refuse(OUTSIDE);
        }
        if (hand.groupSizes[i] == NOTHING) {
            return refuse(NULL);
        }
        int sum = 0;
        for (int k = 0; k < hand.groupSizes[i]; k++) {
            Gear g = hand.gearOf(hand.groups[i][k]);
            if (g == null) {
                return refuse(NULL);
            }
            sum += what == 0 ? g.parcels() : what == 1 ? g.came : g.went;
        }
        return done(sum);
    }

    public int step() {
        if (faults >= FAULTS_MOST) {
            return refuse(FULL);
        }
        faults += stepper.run(hand, numbers);
        return done(hand.now.time);
    }

    public int night(int seed, int n) {
        if (n < 1 || n > NIGHT_MOST) {
            return refuse(OUTSIDE);
        }
        int x = seed;
        int came = 0;
        for (int i = 0; i < n; i++) {
            x = drawnAfter(x);
            int r = x >>> 16;
            x = drawnAfter(x);
            int s = x >>> 16;
            x = drawnAfter(x);
            int t = x >>> 16;
            came += comeByNight(r, s, t);
            if (faults >= FAULTS_MOST) {
                break;
            }
            faults += stepper.run(hand, numbers);
        }
        return done(came);
    }

    private static int drawnAfter(int x) {
        return x * 1103515245 + 12345;
    }

    /** How many PARCELS came: 1 or 0. */
    private int comeByNight(int r, int s, int t) {
        Gear g = hand.gearOf(0);
        if (g == null || !g.isTaker() || g.isChute() || !g.isFreeAtStart()) {
            return 0;
        }
        Parcel p = newParcel();
        if (p == null) {
            return 0;
        }
        hand.now.bringIn(p, 0, 1 + r % 200, r / 200 % 10);
        p.write(s / 100 % 2, s % 100);
        p.spoil(t);
        return 1;
    }

    public int back(int n) {
        if (n < 1 || n > KEPT_MOST) {
            return refuse(OUTSIDE);
        }
        if (n > hand.keptCount) {
            return refuse(STATE);
        }
        hand.goBack(n);
        numbers.undoSince(hand.number, hand.now);
        return done(hand.now.time);
    }

    // ---- what is told

    public int status() {
        return status;
    }

    public int told(int gear, int what) {
        Gear g = hand.gearOf(gear);
        if (g == null) {
            return UNKNOWN;
        }
        return g.tell(what);
    }

    public int slot(int gear, int k) {
        Gear g = hand.gearOf(gear);
        if (g == null) {
            return UNKNOWN;
        }
        if (k < 0 || k >= g.length) {
            return OUTSIDE;
        }
        Parcel p = hand.now.inSlot(g, k);
        return p == null ? 0 : p.number;
    }

    public int linkOf(int gear, int k) {
        Gear g = hand.gearOf(gear);
        if (g == null) {
            return UNKNOWN;
        }
        if (k < 0 || k >= g.linkCount) {
            return NONE;
        }
        return g.links[k] + 1;
    }

    public int parcel(int parcel, int what) {
        Parcel p = hand.now.find(parcel);
        if (p == null) {
            return UNKNOWN;
        }
        return p.tell(what);
    }

    public int way(int parcel, int i) {
        Parcel p = hand.now.find(parcel);
        if (p == null) {
            return UNKNOWN;
        }
        return i < 0 || i >= p.wayLength || i >= WAY_MOST ? NONE : p.way[i];
    }

    public int byteOf(int parcel, int i) {
        Parcel p = hand.now.find(parcel);
        if (p == null) {
            return UNKNOWN;
        }
        return i < 0 || i >= p.labelLength ? NONE : p.label[i];
    }

    public int left(int parcel) {
        return parcel < 1 || parcel > numbers.given ? UNKNOWN : numbers.where[parcel];
    }

    public int out(int i, int what) {
        return hand.now.outs.tell(i, what);
    }

    public int rule(int k, int what) {
        if (k < 0 || k >= hand.rules.count) {
            return NONE;
        }
        switch (what) {
            case 0:
                return hand.rules.tells[k];
            case 1:
                return hand.rules.testCounts[k];
            case 2:
                return hand.now.used[k];
            default:
                return NONE;
        }
    }

    public int said(int i) {
        return i < 0 || i >= hand.rules.textLength ? NONE : hand.rules.text[i];
    }

    public int unused(int i) {
        int seen = 0;
        for (int k = 0; k < hand.rules.count; k++) {
            if (hand.now.used[k] == 0) {
                if (seen == i) {
                    return k;
                }
                seen++;
            }
        }
        return NONE;
    }

    public int finding(int i, int what) {
        return hand.now.findings.tell(i, what);
    }

    public int trace(int i) {
        return i < 0 || i >= hand.traced || i >= TRACE_MOST ? NONE : hand.trace[i];
    }

    public int jam(int i) {
        int seen = 0;
        for (int k = 0; k < hand.gearCount; k++) {
            if (hand.now.gear[k].isJammed()) {
                if (seen == i) {
                    return k;
                }
                seen++;
            }
        }
        return NONE;
    }

    public int far(int gear, int to) {
        if (hand.gearOf(gear) == null || hand.gearOf(to) == null) {
            return UNKNOWN;
        }
        return gear == to ? 0 : hand.fewestSlots(gear, to);
    }

    public long reach(int gear) {
        if (hand.gearOf(gear) == null) {
            return 0;
        }
        long reached = 0;
        hand.measureWays(gear);
        for (int k = 0; k < hand.gearCount; k++) {
            if (hand.fewest[k] != UNREACHED) {
                reached |= 1L << k;
            }
        }
        return reached;
    }

    public int ring(int gear) {
        if (hand.gearOf(gear) == null) {
            return UNKNOWN;
        }
        return hand.fewestSlots(gear, gear);
    }

    public int audit() {
        for (int k = 0; k < hand.gearCount; k++) {
            Gear g = hand.now.gear[k];
            if (g.came - g.went != g.parcels()) {
                return k;
            }
        }
        return NONE;
    }

    public int count(int what) {
        switch (what) {
            case 0:
                return hand.gearCount;
            case 1:
                return hand.now.inside;
            case 2:
                return hand.now.came;
            case 3:
                return hand.now.outs.count;
            case 4:
                return hand.rules.count;
            case 5:
                return hand.now.time;
            case 6:
                return hand.now.findings.count;
            case 7:
                return faults;
            case 8:
                return hand.keptCount;
            case 9:
                return hand.traced;
            case 10:
                return typed;
            case 11:
                return hand.planCount;
            case 12:
                return hand.number;
            case 13:
                return numbers.given;
            default:
                return NONE;
        }
    }

    public long digest() {
        State now = hand.now;
        long d = mixed(mixed(17, now.time), hand.gearCount);
        for (int k = 0; k < hand.gearCount; k++) {
            d = mixedGear(d, now.gear[k]);
        }
        d = mixed(mixed(mixed(d, now.inside), now.came), now.outs.count);
        return mixed(d, now.findings.count);
    }

    private static long mixed(long d, int x) {
        return 31 * d + x;
    }

    private long mixedGear(long before, Gear g) {
        long d = mixed(before, g.kind);
        for (int what = 2; what <= 14; what++) {
            d = mixed(d, g.tell(what));
        }
        for (int k = 0; k < g.length; k++) {
            Parcel p = hand.now.inSlot(g, k);
            d = p == null ? mixed(d, 0) : mixed(mixed(d, 16 * p.weight + p.size), p.target);
        }
        return d;
    }

    private static boolean isKind(int kind) {
        return kind >= 0 && kind < KINDS;
    }

    private static boolean isTakerKind(int kind) {
        return kind >= BELT && kind <= HOLD;
    }

    private static boolean isGroup(int i) {
        return i >= 0 && i < GROUPS_MOST;
    }

    /** One GEAR: what is built of it (kind to sets), and behind that what is KEPT of it. */
    private static final class Gear {
        private static final int KEPT_NUMBERS = 11;

        int kind;
        int length;
        int rank;
        int linkCount = NOTHING;
        final int[] links = new int[LINKS_MOST];
        /** Target t is in the SET of SIDE k, if bit t of number k is 1; SIDE 0 has none. */
        final long[] sets = new long[SIDES_MOST];

        int side;
        boolean open;
        int wait;
        int lamp;
        int came;
        int went;
        int findings;
        int acts;
        int releases;
        int last = NOBODY;
        int dial;
        /** The places of PARCELS in their State; 0 is empty. */
        final int[] slots = new int[SLOTS_MOST];
        private final int[] kept = new int[KEPT_MOST * KEPT_NUMBERS];

        /** What a MERGE CHOSE; it is made anew in each STEP, so it is not KEPT. */
        int chosen = NOBODY;

        void begin(int newKind) {
            kind = newKind;
            rank = RANKS[newKind];
            Arrays.fill(sets, 0);
            side = 0;
            open = false;
            wait = 0;
            lamp = 0;
            came = 0;
            went = 0;
            findings = 0;
            acts = 0;
            releases = 0;
            last = NOBODY;
            dial = 0;
        }

        void buildAs(Gear other) {
            begin(other.kind);
            length = other.length;
            rank = other.rank;
            linkCount = other.linkCount;
            System.arraycopy(other.links, 0, links, 0, LINKS_MOST);
            System.arraycopy(other.sets, 0, sets, 0, SIDES_MOST);
            open = other.open;
        }

        void keep(int ringPlace) {
            int at = KEPT_NUMBERS * ringPlace;
            kept[at] = side;
            kept[at + 1] = open ? 1 : 0;
            kept[at + 2] = wait;
            kept[at + 3] = lamp;
            kept[at + 4] = came;
            kept[at + 5] = went;
            kept[at + 6] = findings;
            kept[at + 7] = acts;
            kept[at + 8] = releases;
            kept[at + 9] = last;
            kept[at + 10] = dial;
        }

        /** The SLOTS are empty then: the PARCELS know where they were. */
        void goBack(int ringPlace) {
            int at = KEPT_NUMBERS * ringPlace;
            side = kept[at];
            open = kept[at + 1] == 1;
            wait = kept[at + 2];
            lamp = kept[at + 3];
            came = kept[at + 4];
            went = kept[at + 5];
            findings = kept[at + 6];
            acts = kept[at + 7];
            releases = kept[at + 8];
            last = kept[at + 9];
            dial = kept[at + 10];
            Arrays.fill(slots, 0);
        }

        boolean isTaker() {
            return isTakerKind(kind);
        }

        boolean isBelt() {
            return kind >= BELT && kind <= SCALE;
        }

        boolean isScanner() {
            return kind == SCANNER || kind == SCALE;
        }

        boolean isDivert() {
            return kind == DIVERT || kind == CROSS;
        }

        boolean isChute() {
            return kind == CHUTE || kind == HOLD;
        }

        boolean isOfType(int type) {
            switch (type) {
                case 0:
                    return true;
                case 1:
                    return isBelt();
                case 2:
                    return isScanner();
                default:
                    return isChute();
            }
        }

        boolean isJammed() {
            return wait >= JAM_WAIT && isTaker();
        }

        /** Whether this is a HOLD that may not give what it has. */
        boolean isHeld() {
            return kind == HOLD && releases == 0;
        }

        boolean isFreeAtStart() {
            return slots[0] == 0;
        }

        boolean isChuteFor(int target, int ownNumber) {
            return kind == CHUTE ? target == ownNumber : target == UNREAD;
        }

        boolean hasSide(int which) {
            return which >= 0 && which < LINKS_AHEAD[kind];
        }

        boolean aims(int which, int target) {
            return target >= 0 && (sets[which] >>> target & 1) == 1;
        }

        void aimAt(int which, int target, boolean in) {
            long bit = 1L << target;
            sets[which] = in ? sets[which] | bit : sets[which] & ~bit;
        }

        int wantedSide(int target) {
            return aims(1, target) ? 1 : aims(2, target) ? 2 : 0;
        }

        /** The LINK by which a PARCEL goes on from here. */
        int linkAhead() {
            return isDivert() ? side : 0;
        }

        int parcels() {
            int sum = 0;
            for (int k = 0; k < length; k++) {
                if (slots[k] != 0) {
                    sum++;
                }
            }
            return sum;
        }

        int tell(int what) {
            switch (what) {
                case 0:
                    return kind;
                case 1:
                    return length;
                case 2:
                    return kind == DOOR && open ? 1 : side;
                case 3:
                    return wait;
                case 4:
                    return lamp;
                case 5:
                    return came;
                case 6:
                    return went;
                case 7:
                    return findings;
                case 8:
                    return acts;
                case 9:
                    return parcels();
                case 10:
                    return releases;
                case 11:
                    return rank;
                case 12:
                    return PACES[kind];
                case 13:
                    return last + 1;
                case 14:
                    return dial;
                case 15:
                    return linkCount == NOTHING ? NONE : linkCount;
                default:
                    return OUTSIDE;
            }
        }
    }

    /** One PARCEL INSIDE, or a place for one (number 0). */
    private static final class Parcel {
        private static final int KEPT_WAY = 9, KEPT_LABEL = KEPT_WAY + WAY_MOST, KEPT_NUMBERS = KEPT_LABEL + LABEL_MOST;

        /** Where it stands among the PARCELS of its State, which SLOTS name it by. */
        final int place;
        int number;
        int weight;
        int size;
        int target;
        int gear;
        int slot;
        boolean scanned;
        boolean moved;
        int wayLength;
        final int[] way = new int[WAY_MOST];
        int labelLength;
        final int[] label = new int[LABEL_MOST];
        private final int[] kept = new int[KEPT_MOST * KEPT_NUMBERS];

        Parcel(int place) {
            this.place = place;
        }

        void keep(int ringPlace) {
            int at = KEPT_NUMBERS * ringPlace;
            kept[at] = number;
            if (number == 0) {
                return;
            }
            kept[at + 1] = weight;
            kept[at + 2] = size;
            kept[at + 3] = target;
            kept[at + 4] = gear;
            kept[at + 5] = slot;
            kept[at + 6] = scanned ? 1 : 0;
            kept[at + 7] = wayLength;
            kept[at + 8] = labelLength;
            System.arraycopy(way, 0, kept, at + KEPT_WAY, WAY_MOST);
            System.arraycopy(label, 0, kept, at + KEPT_LABEL, LABEL_MOST);
        }

        void goBack(int ringPlace) {
            int at = KEPT_NUMBERS * ringPlace;
            number = kept[at];
            if (number == 0) {
                return;
            }
            weight = kept[at + 1];
            size = kept[at + 2];
            target = kept[at + 3];
            gear = kept[at + 4];
            slot = kept[at + 5];
            scanned = kept[at + 6] == 1;
            wayLength = kept[at + 7];
            labelLength = kept[at + 8];
            System.arraycopy(kept, at + KEPT_WAY, way, 0, WAY_MOST);
            System.arraycopy(kept, at + KEPT_LABEL, label, 0, LABEL_MOST);
        }

        void write(int form, int to) {
            if (form == 0) {
                writeFormA(to);
            } else {
                writeFormB(to);
            }
        }

        private void writeFormA(int to) {
            label[0] = FORM_A;
            label[1] = DIGIT_ZERO + to / 10;
            label[2] = DIGIT_ZERO + to % 10;
            label[3] = DIGIT_ZERO + weight / 100;
            label[4] = DIGIT_ZERO + weight / 10 % 10;
            label[5] = DIGIT_ZERO + weight % 10;
            label[6] = DIGIT_ZERO + size;
            int sum = 3 * (to / 10) + to % 10 + 3 * (weight / 100) + weight / 10 % 10 + 3 * (weight % 10) + size;
            label[7] = DIGIT_ZERO + (10 - sum % 10) % 10;
            labelLength = FORM_A_BYTES;
        }

        private void writeFormB(int to) {
            label[0] = FORM_B;
            label[1] = to;
            label[2] = weight / 256;
            label[3] = weight % 256;
            label[4] = size;
            label[5] = (7 * label[1] + 5 * label[2] + 3 * label[3] + label[4]) % 97;
            labelLength = FORM_B_BYTES;
        }

        /** What a night does to a LABEL that was just written. */
        void spoil(int t) {
            switch (t % 8) {
                case 0:
                    labelLength = NOTHING;
                    break;
                case 1:
                    labelLength = t / 8 % 6;
                    break;
                case 2:
                    raiseLastByte();
                    break;
                default:
                    break;
            }
        }

        private void raiseLastByte() {
            int last = labelLength - 1;
            if (last >= 0) {
                label[last] = label[last] + 1 & BYTE;
            }
        }

        int tell(int what) {
            switch (what) {
                case 0:
                    return gear;
                case 1:
                    return slot;
                case 2:
                    return weight;
                case 3:
                    return size;
                case 4:
                    return target;
                case 5:
                    return wayLength;
                case 6:
                    return labelLength == NOTHING ? NONE : labelLength;
                case 7:
                    return scanned ? 1 : 0;
                default:
                    return OUTSIDE;
            }
        }
    }

    /** Rows of numbers, of which the latest are kept and all are counted. */
    private static final class Log {
        private static final int ROW = 5;
        final int most;
        final int width;
        final int[] rows;
        int count;
        private final int[] keptRows;
        private final int[] keptCounts = new int[KEPT_MOST];

        Log(int most, int width) {
            this.most = most;
            this.width = width;
            this.rows = new int[most * ROW];
            this.keptRows = new int[KEPT_MOST * most * ROW];
        }

        void add(int a, int b, int c, int d, int e) {
            int at = count % most * ROW;
            rows[at] = a;
            rows[at + 1] = b;
            rows[at + 2] = c;
            rows[at + 3] = d;
            rows[at + 4] = e;
            count++;
        }

        int tell(int i, int what) {
            if (i < 0 || i >= most || i >= count || what < 0 || what >= width) {
                return NONE;
            }
            return rows[(count - 1 - i) % most * ROW + what];
        }

        void keep(int ringPlace) {
            keptCounts[ringPlace] = count;
            System.arraycopy(rows, 0, keptRows, ringPlace * rows.length, rows.length);
        }

        void goBack(int ringPlace) {
            count = keptCounts[ringPlace];
            System.arraycopy(keptRows, ringPlace * rows.length, rows, 0, rows.length);
        }
    }

    /**
     * All of a WORKS that is KEPT, as it is now. Each part has rows of its own, made with it, for how it was ahead of
     * the latest STEPS: so neither a STEP nor going back makes anything.
     */
    private static final class State {
        private static final int KEPT_USED = 4, KEPT_NUMBERS = KEPT_USED + RULES_MOST;

        int time;
        int came;
        int inside;
        /** How many NUMBERS the house had given ahead of the latest STEP, or of the one to which one went back. */
        int given;
        final Gear[] gear = new Gear[GEAR_MOST];
        /** Place 0 is null: in a SLOT it stands for no PARCEL. */
        final Parcel[] parcels = new Parcel[INSIDE_MOST + 1];
        final int[] used = new int[RULES_MOST];
        final Log findings = new Log(FINDINGS_MOST, 5);
        final Log outs = new Log(OUTS_MOST, 4);
        private final int[] kept = new int[KEPT_MOST * KEPT_NUMBERS];

        State() {
            for (int k = 0; k < GEAR_MOST; k++) {
                gear[k] = new Gear();
            }
            for (int place = 1; place <= INSIDE_MOST; place++) {
                parcels[place] = new Parcel(place);
            }
        }

        void keep(int ringPlace, int gearCount) {
            int at = KEPT_NUMBERS * ringPlace;
            kept[at] = time;
            kept[at + 1] = came;
            kept[at + 2] = inside;
            kept[at + 3] = given;
            System.arraycopy(used, 0, kept, at + KEPT_USED, RULES_MOST);
            for (int k = 0; k < gearCount; k++) {
                gear[k].keep(ringPlace);
            }
            for (int place = 1; place <= INSIDE_MOST; place++) {
                parcels[place].keep(ringPlace);
            }
            findings.keep(ringPlace);
            outs.keep(ringPlace);
        }

        void goBack(int ringPlace, int gearCount) {
            int at = KEPT_NUMBERS * ringPlace;
            time = kept[at];
            came = kept[at + 1];
            inside = kept[at + 2];
            given = kept[at + 3];
            System.arraycopy(kept, at + KEPT_USED, used, 0, RULES_MOST);
            for (int k = 0; k < gearCount; k++) {
                gear[k].goBack(ringPlace);
            }
            for (int place = 1; place <= INSIDE_MOST; place++) {
                Parcel p = parcels[place];
                p.goBack(ringPlace);
                if (p.number != 0) {
                    gear[p.gear].slots[p.slot] = place;
                }
            }
            findings.goBack(ringPlace);
            outs.goBack(ringPlace);
        }

        Parcel find(int number) {
            if (number < 1) {
                return null;
            }
            for (int place = 1; place <= INSIDE_MOST; place++) {
                if (parcels[place].number == number) {
                    return parcels[place];
                }
            }
            return null;
        }

        Parcel freeParcel() {
            for (int place = 1; place <= INSIDE_MOST; place++) {
                if (parcels[place].number == 0) {
                    return parcels[place];
                }
            }
            return null;
        }

        Parcel inSlot(Gear g, int k) {
            return g.slots[k] == 0 ? null : parcels[g.slots[k]];
        }

        Parcel inLastSlot(Gear g) {
            return g.length == 0 ? null : inSlot(g, g.length - 1);
        }

        void bringIn(Parcel p, int to, int weight, int size) {
            p.weight = weight;
            p.size = size;
            p.target = NONE;
            p.wayLength = 0;
            p.labelLength = NOTHING;
            came++;
            inside++;
            setDown(p, to);
        }

        void carryOver(Parcel p, int to) {
            lift(p);
            setDown(p, to);
        }

        void lift(Parcel p) {
            Gear from = gear[p.gear];
            from.slots[p.slot] = 0;
            from.went++;
        }

        private void setDown(Parcel p, int to) {
            Gear g = gear[to];
            g.slots[0] = p.place;
            g.came++;
            p.gear = to;
            p.slot = 0;
            p.scanned = false;
            if (p.wayLength < WAY_MOST) {
                p.way[p.wayLength] = to;
            }
            p.wayLength++;
        }
    }

    /** One of the three WORKS: what is built in it, how it is now, and what is KEPT. */
    private static final class Works {
        final int number;
        final State now = new State();
        int gearCount;
        final Rules rules = new Rules();
        final int[][] plans = new int[PLANS_MOST][PLAN_NUMBERS];
        final int[] planLengths = new int[PLANS_MOST];
        int planCount;
        final int[][] groups = new int[GROUPS_MOST][GROUP_PLACES_MOST];
        final int[] groupTypes = new int[GROUPS_MOST];
        final int[] groupSizes = {NOTHING, NOTHING, NOTHING, NOTHING};
        final int[] trace = new int[TRACE_MOST];
        int traced;
        /** What is KEPT stands in a ring of KEPT_MOST places; this is the one that is filled next. */
        int keptNext;
        int keptCount;
        /** What measureWays() found for each GEAR. */
        final int[] fewest = new int[GEAR_MOST];

        Works(int number) {
            this.number = number;
        }

        Gear gearOf(int which) {
            return which >= 0 && which < gearCount ? now.gear[which] : null;
        }

        void buildLike(Works other) {
            gearCount = other.gearCount;
            for (int k = 0; k < gearCount; k++) {
                now.gear[k].buildAs(other.now.gear[k]);
            }
            ruleBy(other.rules);
            planCount = other.planCount;
            for (int k = 0; k < planCount; k++) {
                System.arraycopy(other.plans[k], 0, plans[k], 0, PLAN_NUMBERS);
                planLengths[k] = other.planLengths[k];
            }
        }

        void ruleBy(Rules other) {
            rules.becomeAs(other);
            Arrays.fill(now.used, 0);
        }

        void keep(int given) {
            now.given = given;
            now.keep(keptNext, gearCount);
            keptNext = (keptNext + 1) % KEPT_MOST;
            keptCount = Math.min(keptCount + 1, KEPT_MOST);
        }

        void forget() {
            keptCount = 0;
        }

        void goBack(int n) {
            keptNext = Math.floorMod(keptNext - n, KEPT_MOST);
            keptCount -= n;
            traced = 0;
            now.goBack(keptNext, gearCount);
        }

        int freeHoldBut(int which) {
            for (int k = 0; k < gearCount; k++) {
                if (k != which && now.gear[k].kind == HOLD && now.gear[k].isFreeAtStart()) {
                    return k;
                }
            }
            return NOBODY;
        }

        /** The number of the GEAR to which LINK k leads, or the FAULT. */
        int follow(Gear g, int k) {
            if (g.linkCount == NOTHING) {
                return NULL;
            }
            if (k < 0 || k >= g.linkCount || g.links[k] == NOBODY) {
                return INDEX;
            }
            return g.links[k] < gearCount ? g.links[k] : NULL;
        }

        int fewestSlots(int from, int to) {
            measureWays(from);
            return fewest[to] == UNREACHED ? NONE : fewest[to];
        }

        /** Fills fewest with the SLOTS of the shortest WAY AHEAD of one LINK at least, or UNREACHED. */
        void measureWays(int from) {
            Arrays.fill(fewest, UNREACHED);
            goAhead(from, 0);
            boolean shorter = true;
            // A shortest way comes to no GEAR twice, so it has no more LINKS than there is GEAR.
            for (int links = 0; links < gearCount && shorter; links++) {
                shorter = false;
                for (int k = 0; k < gearCount; k++) {
                    if (fewest[k] != UNREACHED && goAhead(k, fewest[k])) {
                        shorter = true;
                    }
                }
            }
        }

        private boolean goAhead(int from, int slotsBefore) {
            Gear g = now.gear[from];
            boolean shorter = false;
            for (int k = 0; k < LINKS_AHEAD[g.kind]; k++) {
                int to = follow(g, k);
                if (to >= 0 && now.gear[to].isTaker() && slotsBefore + g.length < fewest[to]) {
                    fewest[to] = slotsBefore + g.length;
                    shorter = true;
                }
            }
            return shorter;
        }
    }

    /** Where each NUMBER of the house is, as left() tells it. */
    private static final class Numbers {
        final int[] where = new int[NUMBERS_MOST + 1];
        int given;

        int giveTo(int works) {
            given++;
            where[given] = insideOf(works);
            return given;
        }

        void takeOut(int number, int works, int door) {
            where[number] = 1000 * works + door;
        }

        void undoSince(int works, State before) {
            for (int number = before.given + 1; number <= given; number++) {
                if (where[number] == insideOf(works) || where[number] >= 0 && where[number] / 1000 == works) {
                    where[number] = NONE;
                }
            }
            // What was INSIDE then may have gone OUT since.
            for (int place = 1; place <= INSIDE_MOST; place++) {
                int number = before.parcels[place].number;
                if (number != 0) {
                    where[number] = insideOf(works);
                }
            }
        }

        private static int insideOf(int works) {
            return -10 - works;
        }
    }

    /** RULES as they were loaded; test t of rule k stands at TESTS_MOST k + t. */
    private static final class Rules {
        int count;
        final int[] tells = new int[RULES_MOST];
        final int[] testCounts = new int[RULES_MOST];
        final int[] subjects = new int[RULES_MOST * TESTS_MOST];
        final int[] quotients = new int[RULES_MOST * TESTS_MOST];
        final int[] signs = new int[RULES_MOST * TESTS_MOST];
        final int[] bounds = new int[RULES_MOST * TESTS_MOST];
        final int[] text = new int[LETTERS_MOST];
        int textLength;

        void becomeAs(Rules other) {
            count = other.count;
            System.arraycopy(other.tells, 0, tells, 0, tells.length);
            System.arraycopy(other.testCounts, 0, testCounts, 0, testCounts.length);
            System.arraycopy(other.subjects, 0, subjects, 0, subjects.length);
            System.arraycopy(other.quotients, 0, quotients, 0, quotients.length);
            System.arraycopy(other.signs, 0, signs, 0, signs.length);
            System.arraycopy(other.bounds, 0, bounds, 0, bounds.length);
            System.arraycopy(other.text, 0, text, 0, text.length);
            textLength = other.textLength;
        }
    }

    /** Judges typed letters, and makes RULES of them as it goes. */
    private static final class Judge {
        static final int RIGHT = -1;
        private static final int NO_LETTER = -1, NO_NUMBER = -1;

        final Rules rules = new Rules();
        private int[] letters;
        private int length;
        private int at;

        /** The place where the letters are no RULES, or RIGHT. */
        int wrongPlace(int[] typedLetters, int typedLength) {
            letters = typedLetters;
            length = typedLength;
            at = 0;
            rules.textLength = 0;
            for (int k = 0; k < RULES_MOST; k++) {
                if (!takeRule(k)) {
                    return at;
                }
                rules.count = k + 1;
                if (at == length) {
                    return RIGHT;
                }
            }
            return at;
        }

        private boolean takeRule(int k) {
            rules.testCounts[k] = 0;
            if (next() != ':' && !takeTests(k)) {
                return false;
            }
            return take(':') && takeTold(k) && take(';');
        }

        /** Whether right tests, at most TESTS_MOST, were taken; a ',' behind the last of these is one too many. */
        private boolean takeTests(int k) {
            for (int t = 0; t < TESTS_MOST; t++) {
                if (!takeTest(TESTS_MOST * k + t)) {
                    return false;
                }
                rules.testCounts[k] = t + 1;
                if (!take(',')) {
                    return true;
                }
            }
            return false;
        }

        private boolean takeTest(int test) {
            int subject = next();
            if (subject != 'D' && subject != 'W' && subject != 'S' && subject != 'T' && subject != 'Q') {
                return false;
            }
            take(subject);
            rules.subjects[test] = subject;
            if (subject == 'Q') {
                rules.quotients[test] = takeNumber();
                if (rules.quotients[test] == NO_NUMBER) {
                    return false;
                }
            }
            int sign = next();
            rules.signs[test] = sign;
            if (!take('<') && !take('=') && !take('>')) {
                return false;
            }
            rules.bounds[test] = takeNumber();
            return rules.bounds[test] != NO_NUMBER;
        }

        private boolean takeTold(int k) {
            int start = at;
            int number = takeNumber();
            if (number == NO_NUMBER) {
                return false;
            }
            // Where the text ends, more digits might have come: then its end is what is wrong.
            boolean isWhole = at - start == DIGITS_MOST || at < length;
            if (number >= GEAR_MOST && isWhole) {
                at = start;
                return false;
            }
            rules.tells[k] = number;
            return true;
        }

        private int takeNumber() {
            int number = NO_NUMBER;
            for (int d = 0; d < DIGITS_MOST && next() >= '0' && next() <= '9'; d++) {
                int digit = next() - '0';
                if (number == 0) {
                    // A zero before other digits is not told.
                    rules.textLength--;
                }
                number = number == NO_NUMBER ? digit : 10 * number + digit;
                take(next());
            }
            return number;
        }

        private int next() {
            return at < length ? letters[at] : NO_LETTER;
        }

        private boolean take(int letter) {
            if (at >= length || letters[at] != letter) {
                return false;
            }
            rules.text[rules.textLength] = letter;
            rules.textLength++;
            at++;
            return true;
        }
    }

    /** What is READ of a LABEL. */
    private static final class Reading {
        boolean bad;
        int place;
        int weight;
        int size;
        private final int[] digits = new int[FORM_A_BYTES];

        /** NO_FAULT or the FAULT; without one either bad is true or all else is as it was read. */
        int read(Parcel p) {
            if (p.labelLength == NOTHING) {
                return NULL;
            }
            if (p.labelLength == 0) {
                return INDEX;
            }
            if (p.label[0] == FORM_A) {
                return readFormA(p);
            }
            if (p.label[0] == FORM_B) {
                return readFormB(p);
            }
            bad = true;
            return NO_FAULT;
        }

        private int readFormA(Parcel p) {
            for (int i = 1; i < FORM_A_BYTES; i++) {
                if (i >= p.labelLength) {
                    return INDEX;
                }
                digits[i] = p.label[i] - DIGIT_ZERO;
                if (digits[i] < 0 || digits[i] > 9) {
                    bad = true;
                    return NO_FAULT;
                }
            }
            int sum = 3 * (digits[1] + digits[3] + digits[5]) + digits[2] + digits[4] + digits[6];
            bad = (sum + digits[7]) % 10 != 0;
            place = 10 * digits[1] + digits[2];
            weight = 100 * digits[3] + 10 * digits[4] + digits[5];
            size = digits[6];
            return NO_FAULT;
        }

        private int readFormB(Parcel p) {
            if (p.labelLength < FORM_B_BYTES) {
                return INDEX;
            }
            place = p.label[1];
            weight = 256 * p.label[2] + p.label[3];
            size = p.label[4];
            bad = p.label[5] != (7 * place + 5 * p.label[2] + 3 * p.label[3] + size) % 97;
            return NO_FAULT;
        }
    }

    /** Does a STEP of a WORKS. */
    private static final class Step {
        private final Reading reading = new Reading();
        private Numbers numbers;
        private Works works;
        private State now;
        /** Whether a FINDING came in the ACT that goes on. */
        private boolean found;

        /** How many FINDINGS came. */
        int run(Works ofWorks, Numbers ofHouse) {
            works = ofWorks;
            now = ofWorks.now;
            numbers = ofHouse;
            int findingsBefore = now.findings.count;
            works.keep(numbers.given);
            now.time++;
            works.traced = 0;
            for (int place = 1; place <= INSIDE_MOST; place++) {
                now.parcels[place].moved = false;
            }
            for (int k = 0; k < works.planCount; k++) {
                doPlan(k);
            }
            letMergesChoose();
            for (int k = 0; k < works.gearCount; k++) {
                if (isInStep(now.gear[k])) {
                    act(k);
                }
            }
            return now.findings.count - findingsBefore;
        }

        private boolean isInStep(Gear g) {
            return now.time % PACES[g.kind] == 0;
        }

        private void addFinding(int gear, int act, int fault, int what) {
            now.findings.add(now.time, gear, act, FAULT_BASE - fault, what);
            found = true;
            if (gear != NONE) {
                now.gear[gear].findings++;
            }
        }

        private void addTrace(int body) {
            if (works.traced < TRACE_MOST) {
                works.trace[works.traced] = body;
            }
            works.traced++;
        }

        // ---- PLANS

        private void doPlan(int k) {
            int[] row = works.plans[k];
            if (row[0] != now.time) {
                return;
            }
            int fault = planFault(row, works.planLengths[k]);
            if (fault != NO_FAULT) {
                addFinding(NONE, ACT_PLAN, fault, k);
            }
        }

        private int planFault(int[] row, int length) {
            if (length < 2 || row[1] < OP_DOOR || row[1] > OP_RELEASE) {
                return INDEX;
            }
            if (length < 3 || row[2] < 0 || row[2] >= GEAR_MOST) {
                return INDEX;
            }
            Gear g = works.gearOf(row[2]);
            if (g == null) {
                return NULL;
            }
            if (!isForPlan(g, row[1])) {
                return CAST;
            }
            return length < 4 ? INDEX : planByNumber(g, row[1], row[3]);
        }

        private static boolean isForPlan(Gear g, int op) {
            return op == OP_DOOR ? g.kind == DOOR : op == OP_TURN ? g.isDivert() : g.kind == HOLD;
        }

        private static int planByNumber(Gear g, int op, int b) {
            if (op == OP_DOOR) {
                g.open = b != 0;
                return NO_FAULT;
            }
            if (op == OP_TURN) {
                if (g.parcels() > 0) {
                    return NO_FAULT;
                }
                if (!g.hasSide(b)) {
                    return INDEX;
                }
                g.side = b;
                return NO_FAULT;
            }
            if (b < 0 || b > RELEASES_MOST) {
                return INDEX;
            }
            g.releases = b;
            return NO_FAULT;
        }

        // ---- MERGES

        /** Goes through the givers once for all MERGES: that is the same, since no choice changes another one. */
        private void letMergesChoose() {
            for (int k = 0; k < works.gearCount; k++) {
                now.gear[k].chosen = NOBODY;
            }
            for (int k = 0; k < works.gearCount; k++) {
                int to = isReadyToGive(now.gear[k]) ? works.follow(now.gear[k], now.gear[k].linkAhead()) : NOBODY;
                if (to >= 0 && now.gear[to].kind == MERGE && isBetter(k, now.gear[to])) {
                    now.gear[to].chosen = k;
                }
            }
        }

        private boolean isReadyToGive(Gear g) {
            return g.isTaker() && g.kind != CHUTE && isInStep(g) && now.inLastSlot(g) != null && !g.isHeld();
        }

        /** Whether a MERGE would rather have giver k than the one, of a lesser number, that it has chosen so far. */
        private boolean isBetter(int k, Gear merge) {
            if (merge.chosen == NOBODY) {
                return true;
            }
            int rank = now.gear[k].rank;
            int rankSoFar = now.gear[merge.chosen].rank;
            return rank > rankSoFar || rank == rankSoFar && merge.chosen <= merge.last && k > merge.last;
        }

        // ---- ACTS

        private void act(int number) {
            Gear g = now.gear[number];
            found = false;
            for (int k = BODIES_MOST * g.kind; k < BODIES_MOST * (g.kind + 1); k++) {
                if (BODIES[k] != 0) {
                    addTrace(BODIES[k]);
                }
            }
            if (g.isTaker()) {
                boolean isReadable = !g.isScanner() || scan(number, g);
                passOn(number, g, isReadable);
                moveUp(g);
            } else if (g.kind == PANEL) {
                setDial(number, g);
            }
            g.acts++;
            g.lamp = lampOf(g);
        }

        private int lampOf(Gear g) {
            if (g.kind == DOOR) {
                return g.open ? 1 : 0;
            }
            return found ? 3 : g.wait > 0 ? 2 : 1;
        }

        private void moveUp(Gear g) {
            for (int k = g.length - 2; k >= 0; k--) {
                Parcel p = now.inSlot(g, k);
                if (p != null && !p.moved && g.slots[k + 1] == 0) {
                    g.slots[k] = 0;
                    g.slots[k + 1] = p.place;
                    p.slot = k + 1;
                    p.moved = true;
                }
            }
        }

        private void setDial(int number, Gear g) {
            int sum = 0;
            int links = g.linkCount == NOTHING ? 1 : g.linkCount;
            for (int k = 0; k < links; k++) {
                int to = works.follow(g, k);
                if (to < 0) {
                    addFinding(number, ACT_PANEL, to, k);
                    return;
                }
                sum += now.gear[to].parcels();
            }
            g.dial = sum;
        }

        // ---- what is SCANNED

        /** Whether no FAULT of a LABEL came. */
        private boolean scan(int number, Gear g) {
            Parcel p = now.inLastSlot(g);
            if (p == null || p.moved || p.scanned) {
                return true;
            }
            p.scanned = true;
            p.target = UNREAD;
            int fault = reading.read(p);
            if (fault != NO_FAULT) {
                addFinding(number, ACT_READ, fault, p.number);
                return false;
            }
            if (!reading.bad && (g.kind != SCALE || reading.weight == p.weight)) {
                p.target = targetByRules(number);
            }
            return true;
        }

        private int targetByRules(int number) {
            for (int k = 0; k < works.rules.count; k++) {
                int holds = holds(k);
                if (holds < 0) {
                    addFinding(number, ACT_RULE, holds, k);
                } else if (holds == 1) {
                    now.used[k]++;
                    return works.rules.tells[k];
                }
            }
            return NONE;
        }

        /** 1 if RULE k HOLDS, 0 if not, or the FAULT. */
        private int holds(int k) {
            Rules rules = works.rules;
            for (int t = TESTS_MOST * k; t < TESTS_MOST * k + rules.testCounts[k]; t++) {
                int subject = rules.subjects[t];
                int value = subject == 'Q' ? quotient(rules.quotients[t]) : plainValue(subject);
                if (value < 0) {
                    return value;
                }
                int order = Integer.compare(value, rules.bounds[t]);
                int sign = rules.signs[t];
                boolean isSo = sign == '<' ? order < 0 : sign == '=' ? order == 0 : order > 0;
                if (!isSo) {
                    return 0;
                }
            }
            return 1;
        }

        private int plainValue(int subject) {
            switch (subject) {
                case 'D':
                    return reading.place;
                case 'W':
                    return reading.weight;
                case 'S':
                    return reading.size;
                default:
                    return now.time;
            }
        }

        private int quotient(int k) {
            if (k < 0 || k >= GEAR_MOST) {
                return INDEX;
            }
            if (k >= works.gearCount) {
                return NULL;
            }
            Gear g = now.gear[k];
            if (!g.isChute()) {
                return CAST;
            }
            int doors = 0;
            for (int i = 0; i < g.linkCount; i++) {
                int to = works.follow(g, i);
                if (to >= 0 && now.gear[to].kind == DOOR && now.gear[to].open) {
                    doors++;
                }
            }
            return doors == 0 ? ZERO : g.parcels() / doors;
        }

        // ---- what is GIVEN

        private void passOn(int number, Gear g, boolean isReadable) {
            Parcel p = now.inLastSlot(g);
            if (p == null || p.moved) {
                g.wait = 0;
                return;
            }
            boolean isGiven = isReadable && !g.isHeld();
            boolean isTaken = isGiven && (g.kind == CHUTE ? giveOut(number, g, p) : giveOn(number, g, p));
            g.wait = isTaken ? 0 : g.wait + 1;
            if (isTaken && g.kind == HOLD) {
                g.releases--;
            }
        }

        private boolean giveOut(int number, Gear g, Parcel p) {
            int links = g.linkCount == NOTHING ? 1 : g.linkCount;
            for (int k = 0; k < links; k++) {
                int to = works.follow(g, k);
                int fault = to < 0 ? to : now.gear[to].kind != DOOR ? CAST : NO_FAULT;
                if (fault != NO_FAULT) {
                    addFinding(number, ACT_GIVEN, fault, p.number);
                    return false;
                }
                if (now.gear[to].open) {
                    leaveBy(to, number, p);
                    return true;
                }
            }
            return false;
        }

        private void leaveBy(int door, int chute, Parcel p) {
            now.lift(p);
            now.gear[door].came++;
            now.gear[door].went++;
            now.outs.add(p.number, door, now.time, chute, 0);
            numbers.takeOut(p.number, works.number, door);
            p.number = 0;
            now.inside--;
        }

        private boolean giveOn(int number, Gear g, Parcel p) {
            int to = works.follow(g, g.linkAhead());
            int fault = to < 0 ? to : now.gear[to].isTaker() ? NO_FAULT : CAST;
            if (fault != NO_FAULT) {
                addFinding(number, ACT_GIVEN, fault, p.number);
                return false;
            }
            if (!takes(to, number, p.target)) {
                return false;
            }
            now.carryOver(p, to);
            p.moved = true;
            return true;
        }

        /** Whether a TAKER that is ASKED by another one takes a PARCEL with that TARGET. */
        private boolean takes(int to, int from, int target) {
            Gear g = now.gear[to];
            switch (g.kind) {
                case MERGE:
                    return mergeTakes(g, from);
                case DIVERT:
                case CROSS:
                    addTrace(ASKED_DIVERT);
                    return divertTakes(g, g.wantedSide(target));
                case CHUTE:
                case HOLD:
                    addTrace(g.kind == CHUTE ? ASKED_CHUTE : ASKED_HOLD);
                    return g.isChuteFor(target, to) && g.isFreeAtStart();
                default:
                    addTrace(ASKED_BELT);
                    return g.isFreeAtStart();
            }
        }

        private boolean mergeTakes(Gear merge, int from) {
            addTrace(ASKED_MERGE);
            if (merge.chosen != from) {
                return false;
            }
            addTrace(ASKED_BELT);
            if (!merge.isFreeAtStart()) {
                return false;
            }
            merge.last = from;
            return true;
        }

        private static boolean divertTakes(Gear divert, int wanted) {
            if (divert.side == wanted) {
                return divert.isFreeAtStart();
            }
            if (divert.parcels() == 0) {
                divert.side = wanted;
            }
            return false;
        }
    }
}
