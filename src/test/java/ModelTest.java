import java.lang.reflect.InvocationTargetException;
import java.lang.reflect.Method;
import java.util.ArrayList;
import java.util.List;
import java.util.Random;

/** Random runs of calls, answered by SortWorks and by Model: both must answer alike, and no call may throw. */
final class ModelTest {
    private static final int CALLS = 460;
    private static final Method[] FACE = SortWorks.class.getDeclaredMethods();

    private final Random random;
    private final long seed;
    private final SortWorks real = new SortWorks();
    private final Model model = new Model();
    private final List<String> done = new ArrayList<>();
    private boolean wrong;
    private int gear;
    private final int[] kinds = new int[40];

    private ModelTest(long seed) {
        this.seed = seed;
        this.random = new Random(seed);
    }

    public static void main(String[] args) throws ReflectiveOperationException {
        int runs = args.length > 0 ? Integer.parseInt(args[0]) : 250;
        long first = args.length > 1 ? Long.parseLong(args[1]) : 1;
        int failed = 0;
        for (long seed = first; seed < first + runs && failed < 3; seed++) {
            ModelTest run = new ModelTest(seed);
            run.play();
            failed += run.wrong ? 1 : 0;
        }
        System.out.println(runs + " runs, " + failed + " that answered unlike the model");
        if (failed > 0) {
            System.exit(1);
        }
    }

    private static Method named(Class<?> type, String name) {
        for (Method m : type == SortWorks.class ? FACE : type.getDeclaredMethods()) {
            if (m.getName().equals(name) && java.lang.reflect.Modifier.isPublic(m.getModifiers())) {
                return m;
            }
        }
        throw new IllegalStateException(name);
    }

    private final java.util.Map<String, Method[]> pairs = new java.util.HashMap<>();

    private long ask(String name, Object... args) throws ReflectiveOperationException {
        Method[] pair = pairs.computeIfAbsent(name, n -> new Method[] {named(SortWorks.class, n), named(Model.class, n)});
        String call = name + java.util.Arrays.toString(args);
        Object want = pair[1].invoke(model, args);
        Object got;
        try {
            got = pair[0].invoke(real, args);
        } catch (InvocationTargetException e) {
            got = e.getCause();
        }
        if (!got.equals(want) && !wrong) {
            wrong = true;
            System.out.println("seed " + seed + ": " + call + " answered " + got + ", the model " + want + "; before it:");
            System.out.println("  " + String.join("; ", done));
        }
        return ((Number) want).longValue();
    }

    private long act(String name, Object... args) throws ReflectiveOperationException {
        long answer = ask(name, args);
        done.add(name + java.util.Arrays.toString(args) + "=" + answer);
        ask("status");
        return answer;
    }

    // ---- what to draw

    private int below(int n) {
        return random.nextInt(n);
    }

    private boolean rarely() {
        return below(12) == 0;
    }

    private int wild() {
        int[] all = {Integer.MIN_VALUE, Integer.MIN_VALUE + 1, -1000, -101, -17, -9, -8, -4, -3, -2, -1, 0, 1, 2, 3, 4, 5, 8, 9,
            10, 11, 12, 13, 16, 20, 21, 29, 30, 31, 38, 39, 40, 41, 60, 99, 100, 255, 256, 1000, 2000, 2001, 9999, 10000,
            Integer.MAX_VALUE};
        return all[below(all.length)];
    }

    private int someGear() {
        return rarely() || gear == 0 ? wild() : below(gear);
    }

    private int gearOf(int fromKind, int toKind) {
        for (int tries = 0; tries < 20 && gear > 0; tries++) {
            int g = below(gear);
            if (kinds[g] >= fromKind && kinds[g] <= toKind) {
                return g;
            }
        }
        return someGear();
    }

    private int someParcel() {
        int given = model.count(13);
        return rarely() || given == 0 ? wild() : Math.max(1, given - below(Math.min(given, 35)));
    }

    private int upTo(int most) {
        return rarely() ? wild() : below(most + 1);
    }

    // ---- what is built

    private void build() throws ReflectiveOperationException {
        int n = below(10) == 0 ? 41 : 3 + below(16);
        for (int k = 0; k < n; k++) {
            addGear();
        }
        for (int g = 0; g < gear; g++) {
            linkUp(g);
        }
        loadRules();
        for (int k = below(5); k > 0; k--) {
            addPlan();
        }
    }

    private void addGear() throws ReflectiveOperationException {
        int kind = rarely() ? wild() : below(3) == 0 ? 7 + below(3) : below(11);
        int number = (int) act("gear", kind, rarely() ? wild() : 1 + below(3));
        if (number >= 0) {
            kinds[number] = kind;
            gear = number + 1;
        }
    }

    private void linkUp(int g) throws ReflectiveOperationException {
        int kind = kinds[g];
        int n = below(15) == 0 ? below(6) - 2 : kind == 5 ? 2 : kind == 6 ? 3 : kind == 7 || kind == 10 ? 1 + below(2) : 1;
        act("links", g, n);
        for (int k = 0; k < n && k < 3; k++) {
            int to = below(25) == 0 ? wild() : kind == 7 ? gearOf(9, 9) : kind == 10 ? below(gear)
                    : below(3) == 0 ? gearOf(0, 8) : Math.min(gear - 1, g + 1);
            act("link", g, k, to);
        }
        for (int k = 0; (kind == 5 || kind == 6) && k < 4; k++) {
            act("aim", g, 1 + below(2), gearOf(7, 8), below(8) != 0);
        }
        if (kind == 9 && below(4) != 0) {
            act("door", g, true);
        }
    }

    private String number(int most) {
        String s = "" + below(most + 1);
        return "0".repeat(below(6) == 0 ? below(3) : 0) + s;
    }

    private String ruleText() {
        StringBuilder s = new StringBuilder();
        int rules = below(12) == 0 ? 10 + below(4) : 1 + below(4);
        for (int r = 0; r < rules; r++) {
            int tests = below(20) == 0 ? 4 + below(2) : rules > 9 ? below(2) : below(3);
            for (int t = 0; t < tests; t++) {
                String what = "DWSTQ".substring(below(5)).substring(0, 1);
                s.append(t == 0 ? "" : ",").append(what);
                s.append(what.equals("Q") ? below(3) == 0 ? number(45) : "" + gearOf(7, 8) : "");
                s.append("<=>".charAt(below(3))).append(number(what.equals("W") ? 200 : what.equals("D") ? 99 : 9));
            }
            s.append(':').append(below(15) == 0 ? number(9999) : "" + gearOf(7, 8)).append(';');
        }
        for (int k = below(4) == 0 ? 1 + below(3) : 0; k > 0 && s.length() > 0; k--) {
            int at = below(s.length());
            switch (below(3)) {
                case 0 -> s.deleteCharAt(at);
                case 1 -> s.insert(at, "DWSTQ<=>,:;0123456789x".charAt(below(22)));
                default -> s.setLength(at);
            }
        }
        return s.toString();
    }

    private void loadRules() throws ReflectiveOperationException {
        String text = ruleText();
        for (int i = 0; i < text.length(); i++) {
            ask("letter", (int) text.charAt(i));
        }
        done.add("typed " + text);
        act("load");
    }

    private void addPlan() throws ReflectiveOperationException {
        int op = rarely() ? wild() : below(3);
        int a = op == 0 ? gearOf(9, 9) : op == 1 ? gearOf(5, 6) : gearOf(8, 8);
        act("plan", below(5) == 0 ? upTo(5) : 4, model.count(5) + 1 + below(15), op, a, upTo(3));
    }

    // ---- what is done

    private void byHand() throws ReflectiveOperationException {
        switch (below(26)) {
            case 0, 1, 2 -> {
                long p = act("come", gearOf(0, 6), rarely() ? wild() : 1 + below(200), upTo(9));
                if (p > 0 && below(8) != 0) {
                    act("tag", (int) p, below(2), below(100));
                }
            }
            case 3 -> act("tag", someParcel(), upTo(1), upTo(99));
            case 4 -> act("label", someParcel(), rarely() ? wild() : below(14) - 1);
            case 5 -> act("put", someParcel(), upTo(8), below(3) == 0 ? 65 + below(2) : 48 + below(10));
            case 6 -> act("door", gearOf(9, 9), random.nextBoolean());
            case 7 -> act("turn", gearOf(5, 6), upTo(2));
            case 8, 9 -> act("release", gearOf(8, 8), upTo(20));
            case 10, 11 -> act("clear", model.jam(0) >= 0 && below(4) != 0 ? model.jam(below(3)) : someGear());
            case 12, 13 -> act("carry", someParcel(), gearOf(0, 8));
            case 14 -> act("group", upTo(3), upTo(3), rarely() ? wild() : below(4));
            case 15 -> act("enter", upTo(3), upTo(3), someGear());
            case 16 -> act("tally", upTo(3), upTo(2));
            case 17 -> act("night", random.nextInt(), rarely() ? wild() : 1 + below(20));
            case 18 -> act("back", below(4) == 0 ? upTo(30) : 1 + below(5));
            default -> act("step");
        }
    }

    private void change() throws ReflectiveOperationException {
        switch (below(10)) {
            case 0 -> addGear();
            case 1 -> act("links", someGear(), below(6) - 2);
            case 2 -> act("link", someGear(), upTo(2), below(3) == 0 ? wild() : someGear());
            case 3 -> act("aim", gearOf(5, 6), upTo(2), upTo(39), random.nextBoolean());
            case 4 -> act("rank", gearOf(0, 8), upTo(9));
            case 5 -> {
                int g = someGear();
                int kind = upTo(10);
                if (act("refit", g, kind) >= 0) {
                    kinds[g] = kind;
                }
            }
            case 6 -> loadRules();
            case 7 -> addPlan();
            case 8 -> {
                act("works", upTo(2));
                act("copy", upTo(2));
                relearn();
            }
            default -> act("letter", rarely() ? wild() : 33 + below(94));
        }
    }

    private void relearn() {
        gear = model.count(0);
        for (int g = 0; g < gear; g++) {
            kinds[g] = model.told(g, 0);
        }
    }

    // ---- what is told

    private void compareAll() throws ReflectiveOperationException {
        int n = model.count(0);
        for (int g = -1; g <= n; g++) {
            for (int k = -1; k <= 16; k++) {
                ask("told", g, k);
            }
            for (int k = -1; k <= 8; k++) {
                ask("slot", g, k);
            }
            for (int k = -1; k <= 3; k++) {
                ask("linkOf", g, k);
            }
            ask("reach", g);
            ask("ring", g);
            ask("far", g, below(n + 2) - 1);
        }
        for (int p = Math.max(-1, model.count(13) - 70); p <= model.count(13) + 1; p++) {
            ask("left", p);
            for (int k = -1; k <= 16; k++) {
                ask("parcel", p, k);
                ask("way", p, k);
                ask("byteOf", p, k);
            }
        }
        for (int i = -1; i <= 41; i++) {
            for (int k = -1; k <= 5; k++) {
                ask("out", i, k);
                ask("finding", i, k);
            }
            ask("rule", i, below(5) - 1);
            ask("unused", i);
            ask("jam", i);
            ask("count", i);
        }
        for (int i = -1; i <= 201; i++) {
            ask("said", i);
            ask("trace", i);
        }
        ask("audit");
        ask("digest");
    }

    private void play() throws ReflectiveOperationException {
        if (below(3) == 0) {
            act("works", 1 + below(2));
        }
        build();
        boolean changes = below(3) == 0;
        while (done.size() < CALLS && !wrong) {
            if (changes && below(15) == 0) {
                change();
            } else {
                byHand();
            }
            ask("digest");
            if (below(12) == 0) {
                compareAll();
            }
        }
        compareAll();
    }
}
