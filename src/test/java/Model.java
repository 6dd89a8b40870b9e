import java.io.ByteArrayInputStream;
import java.io.ByteArrayOutputStream;
import java.io.IOException;
import java.io.ObjectInputStream;
import java.io.ObjectOutputStream;
import java.io.Serializable;
import java.util.ArrayList;
import java.util.Arrays;
import java.util.Comparator;
import java.util.List;
import java.util.TreeMap;
import java.util.TreeSet;
import java.util.regex.Matcher;
import java.util.regex.Pattern;

/**
 * The document once more, written as unlike SortWorks as it can be, so that a slip in one shows against the other:
 * KINDS are classes that call one another's bodies, the machine itself throws the FAULTS, what is KEPT is serialized,
 * rules are judged by regular expressions.
 */
final class Model {
    static final int UNKNOWN = -1, OUTSIDE = -2, STATE = -3, FULL = -4, UNREAD = -8, NONE = -9;

    /** A call that is refused, with its answer. */
    static final class Refused extends RuntimeException {
        private static final long serialVersionUID = 1;
        final int why;

        Refused(int why) {
            super(null, null, false, false);
            this.why = why;
        }
    }

    interface Call {
        int answer();
    }

    static final class Par implements Serializable {
        private static final long serialVersionUID = 1;
        int number, weight, size, target = NONE;
        byte[] label;
        final ArrayList<Integer> way = new ArrayList<>();
        boolean scanned, moved;
    }

    /** All of a WORKS that goes back. */
    static final class Stand implements Serializable {
        private static final long serialVersionUID = 1;
        final ArrayList<Gear> gear = new ArrayList<>();
        int time, came;
        final TreeMap<Integer, Integer> used = new TreeMap<>();
        final ArrayList<int[]> findings = new ArrayList<>();
        final ArrayList<int[]> outs = new ArrayList<>();
    }

    abstract static class Gear implements Serializable {
        private static final long serialVersionUID = 1;
        int no, came, went, finds, acts, lamp;
        Integer[] links;

        abstract void body(Model m);

        int pace() {
            return 1;
        }

        int load() {
            return 0;
        }

        int lampNow(boolean found) {
            return found ? 3 : 1;
        }
    }

    abstract static class Taker extends Gear {
        private static final long serialVersionUID = 1;
        Par[] slots;
        int rank = firstRank(), wait;

        int firstRank() {
            return 1;
        }

        int way() {
            return 0;
        }

        boolean ready() {
            return true;
        }

        abstract boolean asked(Model m, Par p, Taker from);

        @Override
        int load() {
            int n = 0;
            for (Par p : slots) {
                n += p == null ? 0 : 1;
            }
            return n;
        }

        @Override
        int lampNow(boolean found) {
            return found ? 3 : wait > 0 ? 2 : 1;
        }

        Par last() {
            return slots[slots.length - 1];
        }

        void put(Par p) {
            slots[0] = p;
            came++;
            p.way.add(no);
            p.scanned = false;
        }

        void drop(Par p) {
            slots[Arrays.asList(slots).indexOf(p)] = null;
            went++;
        }

        void run(Model m, boolean unreadable) {
            Par p = last();
            if (p == null || p.moved) {
                wait = 0;
            } else {
                boolean taken = false;
                if (!unreadable && ready()) {
                    try {
                        taken = given(m, p);
                    } catch (NullPointerException | ClassCastException | IndexOutOfBoundsException e) {
                        m.find(this, 1, e, p.number);
                    }
                }
                wait = taken ? 0 : wait + 1;
            }
            for (int k = slots.length - 2; k >= 0; k--) {
                if (slots[k] != null && !slots[k].moved && slots[k + 1] == null) {
                    slots[k + 1] = slots[k];
                    slots[k] = null;
                    slots[k + 1].moved = true;
                }
            }
        }

        boolean given(Model m, Par p) {
            Taker to = (Taker) m.follow(this, way());
            if (!to.asked(m, p, this)) {
                return false;
            }
            drop(p);
            to.put(p);
            p.moved = true;
            return true;
        }
    }

    static class Belt extends Taker {
        private static final long serialVersionUID = 1;

        @Override
        void body(Model m) {
            m.bodies.add(1);
            run(m, scan(m));
        }

        boolean scan(Model m) {
            return false;
        }

        @Override
        boolean asked(Model m, Par p, Taker from) {
            m.bodies.add(20);
            return slots[0] == null;
        }
    }

    static final class Curve extends Belt {
        private static final long serialVersionUID = 1;

        @Override
        int firstRank() {
            return 2;
        }

        @Override
        int pace() {
            return 2;
        }

        @Override
        void body(Model m) {
            m.bodies.add(2);
            super.body(m);
        }
    }

    static final class Merge extends Belt {
        private static final long serialVersionUID = 1;
        Integer chose, lastOne;

        @Override
        void body(Model m) {
            m.bodies.add(3);
            super.body(m);
        }

        @Override
        boolean asked(Model m, Par p, Taker from) {
            m.bodies.add(21);
            if (chose == null || chose != from.no) {
                return false;
            }
            boolean takes = super.asked(m, p, from);
            if (takes) {
                lastOne = from.no;
            }
            return takes;
        }

        void choose(Model m) {
            List<Taker> all = new ArrayList<>();
            for (Gear g : m.at().now.gear) {
                if (g instanceof Taker t && g.getClass() != Chute.class && m.at().now.time % g.pace() == 0
                        && t.last() != null && t.ready() && t.links != null && t.links.length > t.way()
                        && t.links[t.way()] == no) {
                    all.add(t);
                }
            }
            int after = lastOne == null ? -1 : lastOne;
            all.sort(Comparator.<Taker>comparingInt(t -> -t.rank).thenComparingInt(t -> t.no > after ? 0 : 1)
                    .thenComparingInt(t -> t.no));
            chose = all.isEmpty() ? null : all.get(0).no;
        }
    }

    static class Scanner extends Belt {
        private static final long serialVersionUID = 1;

        @Override
        void body(Model m) {
            m.bodies.add(4);
            super.body(m);
        }

        boolean fits(Par p, int[] read) {
            return true;
        }

        @Override
        boolean scan(Model m) {
            Par p = last();
            if (p == null || p.moved || p.scanned) {
                return false;
            }
            p.scanned = true;
            p.target = UNREAD;
            int[] read;
            try {
                read = m.read(p.label);
            } catch (NullPointerException | IndexOutOfBoundsException e) {
                m.find(this, 2, e, p.number);
                return true;
            }
            if (read != null && fits(p, read)) {
                p.target = m.ruled(this, read);
            }
            return false;
        }
    }

    static final class Scale extends Scanner {
        private static final long serialVersionUID = 1;

        @Override
        int firstRank() {
            return 4;
        }

        @Override
        int pace() {
            return 2;
        }

        @Override
        void body(Model m) {
            m.bodies.add(5);
            super.body(m);
        }

        @Override
        boolean fits(Par p, int[] read) {
            return read[1] == p.weight;
        }
    }

    static class Divert extends Taker {
        private static final long serialVersionUID = 1;
        int side;
        final ArrayList<TreeSet<Integer>> sets = new ArrayList<>();

        Divert() {
            this(2);
        }

        Divert(int sides) {
            for (int k = 0; k < sides; k++) {
                sets.add(new TreeSet<>());
            }
        }

        @Override
        int firstRank() {
            return 3;
        }

        @Override
        int way() {
            return side;
        }

        @Override
        void body(Model m) {
            m.bodies.add(6);
            run(m, false);
        }

        @Override
        boolean asked(Model m, Par p, Taker from) {
            m.bodies.add(22);
            int wants = 0;
            for (int k = sets.size() - 1; k > 0; k--) {
                wants = sets.get(k).contains(p.target) ? k : wants;
            }
            if (side == wants) {
                return slots[0] == null;
            }
            if (load() == 0) {
                side = wants;
            }
            return false;
        }
    }

    static final class Cross extends Divert {
        private static final long serialVersionUID = 1;

        Cross() {
            super(3);
        }

        @Override
        void body(Model m) {
            m.bodies.add(7);
            super.body(m);
        }
    }

    static class Chute extends Taker {
        private static final long serialVersionUID = 1;

        @Override
        void body(Model m) {
            m.bodies.add(8);
            run(m, false);
        }

        boolean likes(Par p) {
            return p.target == no;
        }

        @Override
        boolean asked(Model m, Par p, Taker from) {
            m.bodies.add(23);
            return likes(p) && slots[0] == null;
        }

        @Override
        boolean given(Model m, Par p) {
            int n = links.length;
            for (int k = 0; k < n; k++) {
                Door d = (Door) m.follow(this, k);
                if (d.open) {
                    drop(p);
                    d.came++;
                    d.went++;
                    m.at().now.outs.add(new int[] {p.number, d.no, m.at().now.time, no});
                    return true;
                }
            }
            return false;
        }
    }

    static final class Hold extends Chute {
        private static final long serialVersionUID = 1;
        int releases;

        @Override
        void body(Model m) {
            m.bodies.add(9);
            run(m, false);
        }

        @Override
        boolean ready() {
            return releases > 0;
        }

        @Override
        boolean likes(Par p) {
            return p.target == UNREAD;
        }

        @Override
        boolean asked(Model m, Par p, Taker from) {
            m.bodies.add(24);
            return likes(p) && slots[0] == null;
        }

        @Override
        boolean given(Model m, Par p) {
            Taker to = (Taker) m.follow(this, 0);
            if (!to.asked(m, p, this)) {
                return false;
            }
            drop(p);
            to.put(p);
            p.moved = true;
            releases--;
            return true;
        }
    }

    static final class Door extends Gear {
        private static final long serialVersionUID = 1;
        boolean open;

        @Override
        void body(Model m) {
            m.bodies.add(10);
        }

        @Override
        int lampNow(boolean found) {
            return open ? 1 : 0;
        }
    }

    static final class Panel extends Gear {
        private static final long serialVersionUID = 1;
        int dial;

        @Override
        void body(Model m) {
            m.bodies.add(11);
            int k = 0;
            try {
                int sum = 0;
                for (int n = links.length; k < n; k++) {
                    sum += m.follow(this, k).load();
                }
                dial = sum;
            } catch (NullPointerException | IndexOutOfBoundsException e) {
                m.find(this, 4, e, k);
            }
        }
    }

    static final Class<?>[] KINDS = {Belt.class, Curve.class, Merge.class, Scanner.class, Scale.class, Divert.class,
        Cross.class, Chute.class, Hold.class, Door.class, Panel.class};

    static final class Group {
        int type;
        Integer[] places;
    }

    static final class Works {
        Stand now = new Stand();
        final ArrayList<byte[]> kept = new ArrayList<>();
        final ArrayList<Integer> bodies = new ArrayList<>();
        String rules = "";
        final ArrayList<int[]> plans = new ArrayList<>();
        final Group[] groups = new Group[4];
    }

    final Works[] works = {new Works(), new Works(), new Works()};
    int hand, faults, given, status;
    String typed = "";
    List<Integer> bodies = new ArrayList<>();
    boolean found;

    Works at() {
        return works[hand];
    }

    static int faultOf(RuntimeException e) {
        return e instanceof NullPointerException ? 1 : e instanceof ClassCastException ? 2
                : e instanceof IndexOutOfBoundsException ? 3 : e instanceof ArrayStoreException ? 4
                : e instanceof NegativeArraySizeException ? 5 : 6;
    }

    int call(boolean builds, Call c) {
        try {
            int answer = c.answer();
            if (builds) {
                at().kept.clear();
            }
            status = 0;
            return answer;
        } catch (Refused e) {
            status = e.why;
            return e.why;
        } catch (NullPointerException | ClassCastException | IndexOutOfBoundsException | ArrayStoreException
                | NegativeArraySizeException | ArithmeticException e) {
            faults++;
            status = -10 - faultOf(e);
            return status;
        }
    }

    static void refuseIf(boolean is, int why) {
        if (is) {
            throw new Refused(why);
        }
    }

    boolean has(int gear) {
        return gear >= 0 && gear < at().now.gear.size();
    }

    Gear known(int gear) {
        refuseIf(!has(gear), UNKNOWN);
        return at().now.gear.get(gear);
    }

    Par lookUp(int number) {
        for (Gear g : at().now.gear) {
            if (g instanceof Taker t) {
                for (Par p : t.slots) {
                    if (p != null && p.number == number) {
                        return p;
                    }
                }
            }
        }
        return null;
    }

    Par knownParcel(int number) {
        Par p = lookUp(number);
        refuseIf(p == null, UNKNOWN);
        return p;
    }

    Taker holder(Par p) {
        return (Taker) at().now.gear.get(p.way.get(p.way.size() - 1));
    }

    /** Arrays of 40 GEAR in which those that did not come are null: so the machine has NULL against them. */
    Gear forty(int number) {
        Gear[] all = new Gear[40];
        for (Gear g : at().now.gear) {
            all[g.no] = g;
        }
        return all[number];
    }

    Gear follow(Gear g, int k) {
        Gear to = forty(g.links[k]);
        if (to == null) {
            throw new NullPointerException();
        }
        return to;
    }

    void find(Gear g, int act, RuntimeException e, int what) {
        at().now.findings.add(new int[] {at().now.time, g == null ? NONE : g.no, act, faultOf(e), what});
        faults++;
        found = true;
        if (g != null) {
            g.finds++;
        }
    }

    static Gear make(int kind, int no, int length) {
        Gear g;
        try {
            g = (Gear) KINDS[kind].getDeclaredConstructor().newInstance();
        } catch (ReflectiveOperationException e) {
            throw new IllegalStateException(e);
        }
        g.no = no;
        if (g instanceof Taker t) {
            t.slots = new Par[length];
        }
        return g;
    }

    static int kindOf(Gear g) {
        return Arrays.asList(KINDS).indexOf(g.getClass());
    }

    static byte[] frozen(Stand s) {
        ByteArrayOutputStream to = new ByteArrayOutputStream();
        try (ObjectOutputStream o = new ObjectOutputStream(to)) {
            o.writeObject(s);
        } catch (IOException e) {
            throw new IllegalStateException(e);
        }
        return to.toByteArray();
    }

    static Stand thawed(byte[] b) {
        try (ObjectInputStream o = new ObjectInputStream(new ByteArrayInputStream(b))) {
            return (Stand) o.readObject();
        } catch (IOException | ClassNotFoundException e) {
            throw new IllegalStateException(e);
        }
    }

    // ---- labels and rules

    static int digit(byte b) {
        return b >= 48 && b <= 57 ? b - 48 : -1;
    }

    /** PLACE, WEIGHT, SIZE; null: BAD. */
    int[] read(byte[] b) {
        if (b[0] == 65) {
            int[] d = new int[8];
            for (int i = 1; i <= 7; i++) {
                d[i] = digit(b[i]);
                if (d[i] < 0) {
                    return null;
                }
            }
            int sum = 3 * d[1] + d[2] + 3 * d[3] + d[4] + 3 * d[5] + d[6] + d[7];
            return sum % 10 != 0 ? null : new int[] {10 * d[1] + d[2], 100 * d[3] + 10 * d[4] + d[5], d[6]};
        }
        if (b[0] == 66) {
            int p = b[1] & 255;
            int h = b[2] & 255;
            int l = b[3] & 255;
            int s = b[4] & 255;
            int check = b[5] & 255;
            return check != (7 * p + 5 * h + 3 * l + s) % 97 ? null : new int[] {p, 256 * h + l, s};
        }
        return null;
    }

    static byte[] written(int form, int to, int weight, int size) {
        if (form == 0) {
            String s = String.format("%02d%03d%d", to, weight, size);
            for (int check = 0; check < 10; check++) {
                int sum = check;
                for (int i = 0; i < 6; i++) {
                    sum += (s.charAt(i) - '0') * (i % 2 == 0 ? 3 : 1);
                }
                if (sum % 10 == 0) {
                    return ("A" + s + check).getBytes(java.nio.charset.StandardCharsets.ISO_8859_1);
                }
            }
        }
        return new byte[] {66, (byte) to, (byte) (weight >> 8), (byte) weight, (byte) size,
            (byte) ((7 * to + 5 * (weight >> 8) + 3 * (weight & 255) + size) % 97)};
    }

    int ruled(Gear g, int[] read) {
        String[] rules = at().rules.isEmpty() ? new String[0] : at().rules.split(";");
        for (int k = 0; k < rules.length; k++) {
            try {
                if (holds(rules[k].substring(0, rules[k].indexOf(':')), read)) {
                    at().now.used.merge(k, 1, Integer::sum);
                    return Integer.parseInt(rules[k].substring(rules[k].indexOf(':') + 1));
                }
            } catch (NullPointerException | ClassCastException | IndexOutOfBoundsException | ArithmeticException e) {
                find(g, 3, e, k);
            }
        }
        return NONE;
    }

    private static final Pattern TEST = Pattern.compile("([DWSTQ])(\\d*)([<=>])(\\d+)");

    boolean holds(String tests, int[] read) {
        if (tests.isEmpty()) {
            return true;
        }
        for (String test : tests.split(",")) {
            Matcher m = TEST.matcher(test);
            if (!m.matches()) {
                throw new IllegalStateException(test);
            }
            int value = switch (m.group(1)) {
                case "D" -> read[0];
                case "W" -> read[1];
                case "S" -> read[2];
                case "T" -> at().now.time;
                default -> quotient(Integer.parseInt(m.group(2)));
            };
            int than = Integer.parseInt(m.group(4));
            boolean so = switch (m.group(3)) {
                case "<" -> value < than;
                case "=" -> value == than;
                default -> value > than;
            };
            if (!so) {
                return false;
            }
        }
        return true;
    }

    int quotient(int k) {
        Gear g = forty(k);
        if (g == null) {
            throw new NullPointerException();
        }
        Chute c = (Chute) g;
        int doors = 0;
        if (c.links != null) {
            for (int to : c.links) {
                if (has(to) && at().now.gear.get(to) instanceof Door d && d.open) {
                    doors++;
                }
            }
        }
        return c.load() / doors;
    }

    private static final String NUMBER = "\\d{1,4}";
    private static final String ONE_TEST = "(?:[DWST][<=>]" + NUMBER + "|Q" + NUMBER + "[<=>]" + NUMBER + ")";
    /** A ',' may come behind the fourth test, but no letter behind that: x01 stands for one that is never typed. */
    private static final Pattern TEXT = Pattern.compile("(?:(?:" + ONE_TEST + "(?:," + ONE_TEST + "){0,3}(?:,\\x01)?)?:"
            + NUMBER + ";){1,12}");

    /** The place, or -1. */
    static int wrongPlace(String s) {
        int wrong = s.length();
        for (int n = 1; n <= s.length(); n++) {
            Matcher m = TEXT.matcher(s.substring(0, n));
            if (!m.matches() && !m.hitEnd()) {
                wrong = n - 1;
                break;
            }
        }
        Matcher told = Pattern.compile(":(" + NUMBER + ")").matcher(s);
        while (told.find()) {
            boolean whole = told.end() - told.start() == 5 || told.end() < s.length();
            int judgedAt = told.end() - told.start() == 5 ? told.end() - 1 : told.end();
            if (whole && judgedAt <= wrong && Integer.parseInt(told.group(1)) > 39) {
                return told.start() + 1;
            }
        }
        return wrong == s.length() && TEXT.matcher(s).matches() ? -1 : wrong;
    }

    // ---- what builds

    public int works(int w) {
        return call(false, () -> {
            refuseIf(w < 0 || w > 2, UNKNOWN);
            int before = hand;
            hand = w;
            return before;
        });
    }

    public int gear(int kind, int length) {
        return call(true, () -> {
            refuseIf(kind < 0 || kind > 10, OUTSIDE);
            refuseIf(kind <= 8 && (length < 1 || length > 8), OUTSIDE);
            refuseIf(at().now.gear.size() == 40, FULL);
            at().now.gear.add(make(kind, at().now.gear.size(), length));
            return at().now.gear.size() - 1;
        });
    }

    public int links(int gear, int n) {
        return call(true, () -> {
            Gear g = known(gear);
            refuseIf(n > 3, OUTSIDE);
            Integer[] row = n == -1 ? null : new Integer[n];
            if (row != null) {
                Arrays.fill(row, -1);
            }
            g.links = row;
            return n;
        });
    }

    public int link(int gear, int k, int to) {
        return call(true, () -> {
            Gear g = known(gear);
            refuseIf(to < -1 || to > 39, OUTSIDE);
            g.links[k] = to;
            return 1;
        });
    }

    public int aim(int gear, int side, int target, boolean in) {
        return call(true, () -> {
            Gear g = known(gear);
            refuseIf(side != 1 && side != 2, OUTSIDE);
            refuseIf(target < 0 || target > 39, OUTSIDE);
            TreeSet<Integer> set = ((Divert) g).sets.get(side);
            return (in ? set.add(target) : set.remove(target)) ? 1 : 0;
        });
    }

    public int rank(int gear, int rank) {
        return call(true, () -> {
            Gear g = known(gear);
            refuseIf(rank < 0 || rank > 9, OUTSIDE);
            Taker t = (Taker) g;
            int before = t.rank;
            t.rank = rank;
            return before;
        });
    }

    public int refit(int gear, int kind) {
        return call(true, () -> {
            Gear g = known(gear);
            refuseIf(kind < 0 || kind > 10, OUTSIDE);
            if (g instanceof Taker != kind <= 8) {
                throw new ClassCastException();
            }
            refuseIf(g.load() > 0, STATE);
            Gear fresh = make(kind, gear, g instanceof Taker t ? t.slots.length : 0);
            fresh.links = g.links;
            at().now.gear.set(gear, fresh);
            return kindOf(g);
        });
    }

    public int copy(int w) {
        return call(true, () -> {
            refuseIf(w < 0 || w > 2, UNKNOWN);
            refuseIf(!at().now.gear.isEmpty(), STATE);
            Works from = works[w];
            for (Gear g : thawed(frozen(from.now)).gear) {
                Gear fresh = make(kindOf(g), g.no, g instanceof Taker t ? t.slots.length : 0);
                fresh.links = g.links;
                if (g instanceof Taker t) {
                    ((Taker) fresh).rank = t.rank;
                }
                if (g instanceof Divert d) {
                    ((Divert) fresh).sets.clear();
                    ((Divert) fresh).sets.addAll(d.sets);
                }
                if (g instanceof Door d) {
                    ((Door) fresh).open = d.open;
                }
                at().now.gear.add(fresh);
            }
            at().rules = from.rules;
            at().now.used.clear();
            List<int[]> plans = new ArrayList<>(from.plans);
            at().plans.clear();
            at().plans.addAll(plans);
            return at().now.gear.size();
        });
    }

    public int letter(int c) {
        return call(false, () -> {
            refuseIf(c < 33 || c > 126, OUTSIDE);
            refuseIf(typed.length() == 200, FULL);
            typed += (char) c;
            return typed.length();
        });
    }

    public int load() {
        return call(true, () -> {
            String s = typed;
            typed = "";
            int wrong = wrongPlace(s);
            refuseIf(wrong >= 0, -100 - wrong);
            at().rules = s.replaceAll("(?<!\\d)0+(?=\\d)", "");
            at().now.used.clear();
            return at().rules.split(";").length;
        });
    }

    public int plan(int n, int t, int op, int a, int b) {
        return call(true, () -> {
            refuseIf(n < 1 || n > 4, OUTSIDE);
            refuseIf(t < 0 || t > 9999, OUTSIDE);
            refuseIf(at().plans.size() == 16, FULL);
            at().plans.add(Arrays.copyOf(new int[] {t, op, a, b}, n));
            return at().plans.size() - 1;
        });
    }

    // ---- what is done by hand

    int inside() {
        int n = 0;
        for (Gear g : at().now.gear) {
            n += g.load();
        }
        return n;
    }

    boolean full() {
        return inside() >= 30 || given >= 2000;
    }

    Par born(Taker t, int weight, int size) {
        Par p = new Par();
        given++;
        p.number = given;
        p.weight = weight;
        p.size = size;
        at().now.came++;
        t.put(p);
        return p;
    }

    public int come(int gear, int weight, int size) {
        return call(false, () -> {
            Gear g = known(gear);
            refuseIf(weight < 1 || weight > 999 || size < 0 || size > 9, OUTSIDE);
            Taker t = (Taker) g;
            refuseIf(t instanceof Chute || t.slots[0] != null, STATE);
            refuseIf(full(), FULL);
            return born(t, weight, size).number;
        });
    }

    public int label(int parcel, int n) {
        return call(false, () -> {
            Par p = knownParcel(parcel);
            refuseIf(n > 12, OUTSIDE);
            p.label = n == -1 ? null : new byte[n];
            return n;
        });
    }

    public int put(int parcel, int i, int b) {
        return call(false, () -> {
            knownParcel(parcel).label[i] = (byte) b;
            return 1;
        });
    }

    public int tag(int parcel, int form, int to) {
        return call(false, () -> {
            Par p = knownParcel(parcel);
            refuseIf(form != 0 && form != 1, OUTSIDE);
            refuseIf(to < 0 || to > 99, OUTSIDE);
            p.label = written(form, to, p.weight, p.size);
            return p.label.length;
        });
    }

    public int door(int gear, boolean open) {
        return call(false, () -> {
            Door d = (Door) known(gear);
            boolean before = d.open;
            d.open = open;
            return before ? 1 : 0;
        });
    }

    public int turn(int gear, int side) {
        return call(false, () -> {
            Divert d = (Divert) known(gear);
            d.sets.get(side);
            refuseIf(d.load() > 0, STATE);
            int before = d.side;
            d.side = side;
            return before;
        });
    }

    public int release(int gear, int n) {
        return call(false, () -> {
            Gear g = known(gear);
            refuseIf(n < 0 || n > 20, OUTSIDE);
            Hold h = (Hold) g;
            int before = h.releases;
            h.releases = n;
            return before;
        });
    }

    public int clear(int gear) {
        return call(false, () -> {
            Taker t = (Taker) known(gear);
            refuseIf(t.wait < 8 || t.last() == null, STATE);
            for (Gear g : at().now.gear) {
                if (g instanceof Hold h && h != t && h.slots[0] == null) {
                    Par p = t.last();
                    t.drop(p);
                    h.put(p);
                    p.target = UNREAD;
                    t.wait = 0;
                    return h.no;
                }
            }
            throw new Refused(FULL);
        });
    }

    public int carry(int parcel, int gear) {
        return call(false, () -> {
            Par p = knownParcel(parcel);
            Taker t = (Taker) known(gear);
            refuseIf(t.slots[0] != null, STATE);
            refuseIf(t instanceof Chute c && !c.likes(p), STATE);
            Taker from = holder(p);
            from.drop(p);
            t.put(p);
            return from.no;
        });
    }

    public int group(int i, int type, int n) {
        return call(false, () -> {
            refuseIf(i < 0 || i > 3, UNKNOWN);
            refuseIf(type < 0 || type > 3 || n > 8, OUTSIDE);
            Group g = new Group();
            g.type = type;
            g.places = new Integer[n];
            at().groups[i] = g;
            return n;
        });
    }

    public int enter(int i, int k, int gear) {
        return call(false, () -> {
            refuseIf(i < 0 || i > 3, UNKNOWN);
            Gear g = known(gear);
            Group to = at().groups[i];
            int places = to.places.length;
            if (k < 0 || k >= places) {
                throw new IndexOutOfBoundsException();
            }
            Gear[][] rows = {new Gear[1], new Belt[1], new Scanner[1], new Chute[1]};
            rows[to.type][0] = g;
            to.places[k] = gear;
            return 1;
        });
    }

    public int tally(int i, int what) {
        return call(false, () -> {
            refuseIf(i < 0 || i > 3, UNKNOWN);
            refuseIf(what < 0 || what > 2, OUTSIDE);
            int sum = 0;
            for (Integer place : at().groups[i].places) {
                Gear g = at().now.gear.get(place);
                sum += what == 0 ? g.load() : what == 1 ? g.came : g.went;
            }
            return sum;
        });
    }

    void oneStep() {
        Works w = at();
        w.kept.add(frozen(w.now));
        if (w.kept.size() > 30) {
            w.kept.remove(0);
        }
        w.now.time++;
        w.bodies.clear();
        bodies = w.bodies;
        for (Gear g : w.now.gear) {
            if (g instanceof Taker t) {
                for (Par p : t.slots) {
                    if (p != null) {
                        p.moved = false;
                    }
                }
            }
        }
        for (int k = 0; k < w.plans.size(); k++) {
            try {
                doPlan(w.plans.get(k));
            } catch (NullPointerException | ClassCastException | IndexOutOfBoundsException e) {
                find(null, 5, e, k);
            }
        }
        for (Gear g : w.now.gear) {
            if (g instanceof Merge m) {
                m.choose(this);
            }
        }
        for (Gear g : w.now.gear) {
            if (w.now.time % g.pace() == 0) {
                found = false;
                g.body(this);
                g.acts++;
                g.lamp = g.lampNow(found);
            }
        }
    }

    void doPlan(int[] row) {
        if (row[0] != at().now.time) {
            return;
        }
        int op = row[1];
        if (op < 0 || op > 2) {
            throw new IndexOutOfBoundsException();
        }
        Gear g = forty(row[2]);
        if (g == null) {
            throw new NullPointerException();
        }
        if (op == 0) {
            Door d = (Door) g;
            d.open = row[3] != 0;
        } else if (op == 1) {
            Divert d = (Divert) g;
            int b = row[3];
            if (d.load() == 0) {
                d.sets.get(b);
                d.side = b;
            }
        } else {
            Hold h = (Hold) g;
            int b = row[3];
            if (b < 0 || b > 20) {
                throw new IndexOutOfBoundsException();
            }
            h.releases = b;
        }
    }

    public int step() {
        return call(false, () -> {
            refuseIf(faults >= 5000, FULL);
            oneStep();
            return at().now.time;
        });
    }

    public int night(int seed, int n) {
        return call(false, () -> {
            refuseIf(n < 1 || n > 20, OUTSIDE);
            int x = seed;
            int came = 0;
            for (int i = 0; i < n; i++) {
                int[] drawn = new int[3];
                for (int k = 0; k < 3; k++) {
                    x = (int) (x * 1103515245L + 12345L);
                    drawn[k] = (int) ((x & 0xffffffffL) / 65536);
                }
                if (has(0) && at().now.gear.get(0) instanceof Taker t && !(t instanceof Chute) && t.slots[0] == null
                        && !full()) {
                    Par p = born(t, 1 + drawn[0] % 200, drawn[0] / 200 % 10);
                    p.label = written(drawn[1] / 100 % 2, drawn[1] % 100, p.weight, p.size);
                    switch (drawn[2] % 8) {
                        case 0 -> p.label = null;
                        case 1 -> p.label = Arrays.copyOf(p.label, drawn[2] / 8 % 6);
                        case 2 -> p.label[p.label.length - 1]++;
                        default -> { }
                    }
                    came++;
                }
                if (faults >= 5000) {
                    break;
                }
                oneStep();
            }
            return came;
        });
    }

    public int back(int n) {
        return call(false, () -> {
            refuseIf(n < 1 || n > 30, OUTSIDE);
            refuseIf(n > at().kept.size(), STATE);
            int from = at().kept.size() - n;
            at().now = thawed(at().kept.get(from));
            while (at().kept.size() > from) {
                at().kept.remove(from);
            }
            at().bodies.clear();
            return at().now.time;
        });
    }

    // ---- what is told

    int tell(Call c) {
        try {
            return c.answer();
        } catch (Refused e) {
            return e.why;
        }
    }

    public int status() {
        return status;
    }

    static int told(Gear g, int what) {
        Taker t = g instanceof Taker x ? x : null;
        return switch (what) {
            case 0 -> kindOf(g);
            case 1 -> t == null ? 0 : t.slots.length;
            case 2 -> g instanceof Divert d ? d.side : g instanceof Door d && d.open ? 1 : 0;
            case 3 -> t == null ? 0 : t.wait;
            case 4 -> g.lamp;
            case 5 -> g.came;
            case 6 -> g.went;
            case 7 -> g.finds;
            case 8 -> g.acts;
            case 9 -> g.load();
            case 10 -> g instanceof Hold h ? h.releases : 0;
            case 11 -> t == null ? 0 : t.rank;
            case 12 -> g.pace();
            case 13 -> g instanceof Merge m && m.lastOne != null ? m.lastOne + 1 : 0;
            case 14 -> g instanceof Panel p ? p.dial : 0;
            case 15 -> g.links == null ? NONE : g.links.length;
            default -> OUTSIDE;
        };
    }

    public int told(int gear, int what) {
        return tell(() -> told(known(gear), what));
    }

    public int slot(int gear, int k) {
        return tell(() -> {
            Gear g = known(gear);
            if (g instanceof Taker t && k >= 0 && k < t.slots.length) {
                return t.slots[k] == null ? 0 : t.slots[k].number;
            }
            return OUTSIDE;
        });
    }

    public int linkOf(int gear, int k) {
        return tell(() -> {
            Gear g = known(gear);
            return g.links == null || k < 0 || k >= g.links.length ? NONE : g.links[k] + 1;
        });
    }

    public int parcel(int parcel, int what) {
        return tell(() -> {
            Par p = knownParcel(parcel);
            return switch (what) {
                case 0 -> holder(p).no;
                case 1 -> Arrays.asList(holder(p).slots).indexOf(p);
                case 2 -> p.weight;
                case 3 -> p.size;
                case 4 -> p.target;
                case 5 -> p.way.size();
                case 6 -> p.label == null ? NONE : p.label.length;
                case 7 -> p.scanned ? 1 : 0;
                default -> OUTSIDE;
            };
        });
    }

    public int way(int parcel, int i) {
        return tell(() -> {
            Par p = knownParcel(parcel);
            return i < 0 || i >= Math.min(16, p.way.size()) ? NONE : p.way.get(i);
        });
    }

    public int byteOf(int parcel, int i) {
        return tell(() -> {
            Par p = knownParcel(parcel);
            return p.label == null || i < 0 || i >= p.label.length ? NONE : p.label[i] & 255;
        });
    }

    public int left(int parcel) {
        if (parcel < 1 || parcel > given) {
            return UNKNOWN;
        }
        int was = hand;
        int answer = NONE;
        for (hand = 0; hand < 3; hand++) {
            if (lookUp(parcel) != null) {
                answer = -10 - hand;
            }
            for (int[] out : at().now.outs) {
                if (out[0] == parcel) {
                    answer = 1000 * hand + out[1];
                }
            }
        }
        hand = was;
        return answer;
    }

    static int latest(List<int[]> rows, int most, int i, int what) {
        if (i < 0 || i >= most || i >= rows.size()) {
            return NONE;
        }
        int[] row = rows.get(rows.size() - 1 - i);
        return what < 0 || what >= row.length ? NONE : row[what];
    }

    public int out(int i, int what) {
        return latest(at().now.outs, 30, i, what);
    }

    String[] ruleTexts() {
        return at().rules.isEmpty() ? new String[0] : at().rules.split(";");
    }

    public int rule(int k, int what) {
        String[] rules = ruleTexts();
        if (k < 0 || k >= rules.length) {
            return NONE;
        }
        String tests = rules[k].substring(0, rules[k].indexOf(':'));
        return switch (what) {
            case 0 -> Integer.parseInt(rules[k].substring(tests.length() + 1));
            case 1 -> tests.isEmpty() ? 0 : tests.split(",").length;
            case 2 -> at().now.used.getOrDefault(k, 0);
            default -> NONE;
        };
    }

    public int said(int i) {
        return i < 0 || i >= at().rules.length() ? NONE : at().rules.charAt(i);
    }

    public int unused(int i) {
        List<Integer> all = new ArrayList<>();
        for (int k = 0; k < ruleTexts().length; k++) {
            if (!at().now.used.containsKey(k)) {
                all.add(k);
            }
        }
        return i < 0 || i >= all.size() ? NONE : all.get(i);
    }

    public int finding(int i, int what) {
        return latest(at().now.findings, 40, i, what);
    }

    public int trace(int i) {
        return i < 0 || i >= Math.min(60, at().bodies.size()) ? NONE : at().bodies.get(i);
    }

    public int jam(int i) {
        List<Integer> all = new ArrayList<>();
        for (Gear g : at().now.gear) {
            if (g instanceof Taker t && t.wait >= 8) {
                all.add(g.no);
            }
        }
        return i < 0 || i >= all.size() ? NONE : all.get(i);
    }

    /** Floyd's way: the fewest SLOTS of ways of one LINK at least. */
    int[][] distances() {
        List<Gear> gear = at().now.gear;
        int n = gear.size();
        int[][] d = new int[n][n];
        for (int[] row : d) {
            Arrays.fill(row, 100000);
        }
        for (Gear g : gear) {
            int most = g instanceof Divert v ? v.sets.size() : g.getClass() == Chute.class || !(g instanceof Taker) ? 0 : 1;
            for (int k = 0; g.links != null && k < most && k < g.links.length; k++) {
                if (has(g.links[k]) && gear.get(g.links[k]) instanceof Taker) {
                    d[g.no][g.links[k]] = ((Taker) g).slots.length;
                }
            }
        }
        for (int m = 0; m < n; m++) {
            for (int a = 0; a < n; a++) {
                for (int b = 0; b < n; b++) {
                    d[a][b] = Math.min(d[a][b], d[a][m] + d[m][b]);
                }
            }
        }
        return d;
    }

    public int far(int gear, int to) {
        if (!has(gear) || !has(to)) {
            return UNKNOWN;
        }
        int d = gear == to ? 0 : distances()[gear][to];
        return d >= 100000 ? NONE : d;
    }

    public long reach(int gear) {
        long bits = 0;
        int[] from = has(gear) ? distances()[gear] : new int[0];
        for (int k = 0; k < from.length; k++) {
            bits |= from[k] < 100000 ? 1L << k : 0;
        }
        return bits;
    }

    public int ring(int gear) {
        if (!has(gear)) {
            return UNKNOWN;
        }
        int d = distances()[gear][gear];
        return d >= 100000 ? NONE : d;
    }

    public int audit() {
        return NONE;
    }

    public int count(int what) {
        return switch (what) {
            case 0 -> at().now.gear.size();
            case 1 -> inside();
            case 2 -> at().now.came;
            case 3 -> at().now.outs.size();
            case 4 -> ruleTexts().length;
            case 5 -> at().now.time;
            case 6 -> at().now.findings.size();
            case 7 -> faults;
            case 8 -> at().kept.size();
            case 9 -> at().bodies.size();
            case 10 -> typed.length();
            case 11 -> at().plans.size();
            case 12 -> hand;
            case 13 -> given;
            default -> NONE;
        };
    }

    public long digest() {
        List<Integer> all = new ArrayList<>();
        Stand now = at().now;
        all.add(now.time);
        all.add(now.gear.size());
        for (Gear g : now.gear) {
            all.add(kindOf(g));
            for (int what = 2; what <= 14; what++) {
                all.add(told(g, what));
            }
            if (g instanceof Taker t) {
                for (Par p : t.slots) {
                    if (p == null) {
                        all.add(0);
                    } else {
                        all.add(16 * p.weight + p.size);
                        all.add(p.target);
                    }
                }
            }
        }
        all.addAll(List.of(inside(), now.came, now.outs.size(), now.findings.size()));
        long d = 17;
        for (int x : all) {
            d = 31 * d + x;
        }
        return d;
    }
}
