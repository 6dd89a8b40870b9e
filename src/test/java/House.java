import java.lang.reflect.InvocationTargetException;
import java.lang.reflect.Method;
import java.lang.reflect.Modifier;
import java.util.ArrayList;
import java.util.HashMap;
import java.util.List;
import java.util.Map;
import java.util.Set;

/**
 * An object of SortWorks whose calls are written as texts, such as "links(0,3)": a wrong answer is told with its call, and the
 * same calls can be made once more of a new object, which is how Twins sees that a refused call changes nothing.
 *
 * <p>In a script calls are divided by spaces. "step()*8" is that call 8 times; "type:D<1:1;" types these letters, "load:D<1:1;"
 * loads them too; "row:4>1,2" makes the ROW of GEAR 4 one of two LINKS, to 1 and 2. MIN and MAX are int's own.
 */
final class House {
    /** What an object answers to later calls is free, so no test may ask for it. */
    static final int CALLS_MOST = 512;
    private static final Set<String> TELLING = Set.of("status", "told", "slot", "linkOf", "parcel", "way", "byteOf", "left",
            "out", "rule", "said", "unused", "finding", "trace", "jam", "far", "reach", "ring", "audit", "count", "digest");
    private static final Map<String, Method> FACE = new HashMap<>();
    private static final Map<String, Call> CALLS = new HashMap<>();

    static {
        for (Method m : SortWorks.class.getDeclaredMethods()) {
            if (Modifier.isPublic(m.getModifiers())) {
                FACE.put(m.getName(), m);
            }
        }
    }

    private static final class Call {
        final Method method;
        final Object[] args;
        final boolean tells;

        Call(String text) {
            int open = text.indexOf('(');
            method = FACE.get(text.substring(0, open));
            if (method == null || !text.endsWith(")")) {
                throw new IllegalStateException("no call of the face: " + text);
            }
            String inner = text.substring(open + 1, text.length() - 1);
            String[] parts = inner.isEmpty() ? new String[0] : inner.split(",");
            args = new Object[parts.length];
            for (int i = 0; i < parts.length; i++) {
                args[i] = argument(parts[i].trim());
            }
            tells = TELLING.contains(method.getName());
        }

        private static Object argument(String text) {
            switch (text) {
                case "MIN":
                    return Integer.MIN_VALUE;
                case "MAX":
                    return Integer.MAX_VALUE;
                case "true":
                case "false":
                    return Boolean.valueOf(text);
                default:
                    return Integer.valueOf(text);
            }
        }
    }

    private final SortWorks x = new SortWorks();
    private final List<String> changes = new ArrayList<>();
    private int calls;
    private final int most;

    House(String... scripts) {
        this(CALLS_MOST, scripts);
    }

    private House(int most, String... scripts) {
        this.most = most;
        for (String script : scripts) {
            then(script);
        }
    }

    /** One that may be asked more than 512 times: just to see what there is to ask for, never for what is due. */
    static House scout(List<String> calls) {
        House house = new House(Integer.MAX_VALUE);
        calls.forEach(house::ask);
        return house;
    }

    static House after(List<String> calls) {
        House house = new House();
        calls.forEach(house::ask);
        return house;
    }

    /** All calls so far but those that only tell something. */
    List<String> changes() {
        return new ArrayList<>(changes);
    }

    int callsLeft() {
        return most - calls;
    }

    // ---- calls

    long ask(String text) {
        Call call = CALLS.computeIfAbsent(text, Call::new);
        if (calls >= most) {
            throw new IllegalStateException("this test makes more than 512 calls of one object, the last is " + text);
        }
        calls++;
        if (!call.tells) {
            changes.add(text);
        }
        try {
            return ((Number) call.method.invoke(x, call.args)).longValue();
        } catch (InvocationTargetException e) {
            throw new IllegalStateException(text + " threw " + e.getCause(), e.getCause());
        } catch (IllegalAccessException e) {
            throw new IllegalStateException(text, e);
        }
    }

    House then(String script) {
        for (String token : script.trim().split("\\s+")) {
            if (token.startsWith("type:")) {
                type(token.substring(5));
            } else if (token.startsWith("load:")) {
                type(token.substring(5));
                ask("load()");
            } else if (token.startsWith("row:")) {
                row(token.substring(4));
            } else if (!token.isEmpty()) {
                times(token);
            }
        }
        return this;
    }

    private void type(String letters) {
        for (char c : letters.toCharArray()) {
            ask("letter(" + (int) c + ")");
        }
    }

    private void row(String text) {
        String gear = text.substring(0, text.indexOf('>'));
        String inner = text.substring(gear.length() + 1);
        String[] to = inner.isEmpty() ? new String[0] : inner.split(",");
        ask("links(" + gear + "," + to.length + ")");
        for (int k = 0; k < to.length; k++) {
            if (!to[k].equals("-1")) {
                ask("link(" + gear + "," + k + "," + to[k] + ")");
            }
        }
    }

    private void times(String token) {
        int star = token.lastIndexOf(")*");
        int n = star < 0 ? 1 : Integer.parseInt(token.substring(star + 2));
        String call = star < 0 ? token : token.substring(0, star + 1);
        for (int i = 0; i < n; i++) {
            ask(call);
        }
    }

    // ---- what is due

    /** A call that is not refused: its answer, and status() is 0. */
    House does(String call, long want) {
        Check.due(call, ask(call), want);
        Check.due(call + ", then status()", ask("status()"), 0);
        return this;
    }

    /** A call that tells something: its answer, and neither status() nor how many FAULTS there were changes. */
    House tells(String call, long want) {
        long status = ask("status()");
        long faults = ask("count(7)");
        Check.due(call, ask(call), want);
        Check.due(call + ", then status()", ask("status()"), status);
        Check.due(call + ", then count(7)", ask("count(7)"), faults);
        return this;
    }

    /** Just the answer. */
    House is(String call, long want) {
        Check.due(call, ask(call), want);
        return this;
    }

    /** What told() tells of a GEAR, from that number on. */
    House isTold(int gear, int from, long... want) {
        for (int i = 0; i < want.length; i++) {
            is("told(" + gear + "," + (from + i) + ")", want[i]);
        }
        return this;
    }

    /** FINDING i or OUT i, by the name of the call that tells it. */
    House isRow(String call, int i, long... want) {
        for (int what = 0; what < want.length; what++) {
            is(call + "(" + i + "," + what + ")", want[what]);
        }
        return this;
    }

    /** The PARCELS in the first SLOTS of a GEAR. */
    House slots(int gear, long... want) {
        for (int k = 0; k < want.length; k++) {
            is("slot(" + gear + "," + k + ")", want[k]);
        }
        return this;
    }

    /** The whole TRACE of the latest STEP. */
    House traces(long... want) {
        is("count(9)", want.length);
        for (int i = 0; i < want.length; i++) {
            is("trace(" + i + ")", want[i]);
        }
        return is("trace(" + want.length + ")", SortWorks.NONE);
    }

    /**
     * A call that is refused or comes to a FAULT: its answer, status(), how many FAULTS there are then, and that nothing else
     * is other than without it.
     */
    House refuses(String call, int want) {
        List<String> before = changes();
        refusesSo(call, want);
        Twins.same(before, call, question -> true);
        return this;
    }

    /** As refuses(), for load(): behind it there are no letters, whatever it answers. */
    House refusesToLoad(int want) {
        List<String> before = changes();
        refusesSo("load()", want);
        is("count(10)", 0);
        Twins.same(before, "load()", question -> !question.equals("count(10)") && !question.equals("load()"));
        return this;
    }

    private void refusesSo(String call, int want) {
        boolean isFault = want <= -11 && want >= -16;
        // So status() is 0: what was refused ahead of this can't stand for it.
        ask("works(" + ask("count(12)") + ")");
        long faults = ask("count(7)");
        Check.due(call, ask(call), want);
        Check.due(call + ", then status()", ask("status()"), want);
        Check.due(call + ", how many FAULTS more", ask("count(7)") - faults, isFault ? 1 : 0);
    }
}
