import com.sun.management.ThreadMXBean;
import java.lang.management.ManagementFactory;
import java.lang.reflect.Array;
import java.lang.reflect.Field;
import java.lang.reflect.Modifier;
import java.util.ArrayDeque;
import java.util.Collections;
import java.util.Deque;
import java.util.IdentityHashMap;
import java.util.LinkedHashMap;
import java.util.Map;
import java.util.Set;

/**
 * All calls of a run live in one room (rule 12): what a new object makes is a small part of it, and no call behind that
 * makes anything.
 */
final class RoomTest {
    /** The room has 600,000 objects and 7,300,000 fields and elements. */
    private static final int OBJECTS_MOST = 2_000, ELEMENTS_MOST = 200_000;
    private static final int TRIES = 8;
    private static final ThreadMXBean BEAN = (ThreadMXBean) ManagementFactory.getThreadMXBean();

    private interface Calls {
        void make(SortWorks x, int i);
    }

    public static void main(String[] args) throws IllegalAccessException {
        Check.about("rule 12");
        newObject();
        oneNight();
        Map<String, Calls> all = new LinkedHashMap<>();
        building(all);
        byHand(all);
        telling(all);
        Check.due("every call of the face is here", all.size(), 47);
        for (Map.Entry<String, Calls> calls : all.entrySet()) {
            madeByCalls(calls.getKey(), calls.getValue(), 100);
        }
        Check.end();
    }

    // ---- a new object

    private static void newObject() throws IllegalAccessException {
        Set<Object> seen = Collections.newSetFromMap(new IdentityHashMap<>());
        Deque<Object> open = new ArrayDeque<>();
        SortWorks x = new SortWorks();
        seen.add(x);
        open.add(x);
        int elements = 0;
        while (!open.isEmpty()) {
            Object made = open.remove();
            elements += made.getClass().isArray() ? elementsOf(made, seen, open) : fieldsOf(made, seen, open);
        }
        System.out.println("a new object makes " + seen.size() + " objects with " + elements + " fields and elements");
        Check.due("a new object makes " + seen.size() + " objects, which is few", seen.size() <= OBJECTS_MOST ? 1 : 0, 1);
        Check.due("a new object makes " + elements + " elements, which is few", elements <= ELEMENTS_MOST ? 1 : 0, 1);
    }

    private static int elementsOf(Object row, Set<Object> seen, Deque<Object> open) {
        int length = Array.getLength(row);
        if (!row.getClass().getComponentType().isPrimitive()) {
            for (int i = 0; i < length; i++) {
                reach(Array.get(row, i), seen, open);
            }
        }
        return length;
    }

    private static int fieldsOf(Object made, Set<Object> seen, Deque<Object> open) throws IllegalAccessException {
        int fields = 0;
        for (Field f : made.getClass().getDeclaredFields()) {
            if (Modifier.isStatic(f.getModifiers())) {
                continue;
            }
            fields++;
            f.setAccessible(true);
            if (!f.getType().isPrimitive()) {
                reach(f.get(made), seen, open);
            }
        }
        return fields;
    }

    private static void reach(Object next, Set<Object> seen, Deque<Object> open) {
        if (next != null && seen.add(next)) {
            open.add(next);
        }
    }

    // ---- what calls make

    private static long bytesSoFar() {
        return BEAN.getThreadAllocatedBytes(Thread.currentThread().getId());
    }

    /** What asking for the bytes makes itself is taken off. */
    private static long bytesOf(SortWorks x, Calls calls, int times) {
        bytesSoFar();
        long start = bytesSoFar();
        long before = bytesSoFar();
        for (int i = 0; i < times; i++) {
            calls.make(x, i);
        }
        long behind = bytesSoFar();
        return behind - before - (before - start);
    }

    /** The machine may make something of its own now and then (it loads classes), calls would make theirs each time. */
    private static void madeByCalls(String name, Calls calls, int times) {
        long least = Long.MAX_VALUE;
        for (int i = 0; i < TRIES && least != 0; i++) {
            least = Math.min(least, Math.abs(bytesOf(full(), calls, times)));
        }
        Check.due(name + " makes bytes", least, 0);
    }

    /** The first STEPS of a WORKS, all in one call: no row of what is KEPT was used before. */
    private static void oneNight() {
        madeByCalls("the first night of 20", (x, i) -> x.night(1, 20), 1);
    }

    /** 40 GEAR in a ring, with PARCELS, RULES, PLANS, a GROUP; WORKS 1 as WORKS 0, WORKS 2 without GEAR. */
    private static SortWorks full() {
        SortWorks x = new SortWorks();
        int[] kinds = {3, 1, 2, 4, 5, 6, 7, 8, 9, 10};
        for (int g = 0; g < 40; g++) {
            x.gear(kinds[g % 10], 8);
            Check.links(x, g, (g + 1) % 40, (g + 8) % 40, 39);
        }
        Check.load(x, "Q7<3,W>10:6;Q50=1:7;T>2,D<90:16;:26;");
        x.plan(4, 3, 0, 8, 1);
        x.plan(1, 4, 0, 0, 0);
        x.works(1);
        x.copy(0);
        x.works(0);
        x.group(0, 0, 2);
        x.enter(0, 0, 1);
        x.enter(0, 1, 2);
        x.come(0, 17, 3);
        x.tag(1, 0, 12);
        return x;
    }

    private static void building(Map<String, Calls> all) {
        all.put("works", (x, i) -> x.works(i % 4));
        all.put("gear", (x, i) -> {
            x.works(2);
            x.gear(i % 12, 3);
        });
        all.put("links", (x, i) -> x.links(i % 41, i % 7 - 2));
        all.put("link", (x, i) -> x.link(i % 41, i % 4, i % 42 - 1));
        all.put("aim", (x, i) -> x.aim(i % 41, i % 4, i, i % 2 == 0));
        all.put("rank", (x, i) -> x.rank(i % 41, i % 11));
        all.put("refit", (x, i) -> x.refit(i % 41, i % 12));
        all.put("copy", (x, i) -> {
            x.works(i % 2 == 0 ? 2 : 0);
            x.copy(i % 3);
        });
        all.put("letter", (x, i) -> x.letter(32 + i));
        all.put("load", (x, i) -> {
            x.letter(':');
            x.letter('0' + i % 11);
            x.letter(';');
            x.load();
        });
        all.put("plan", (x, i) -> x.plan(i % 6, i, i % 4, i, i));
    }

    private static void byHand(Map<String, Calls> all) {
        all.put("come", (x, i) -> x.come(i % 41, i, i % 11));
        all.put("label", (x, i) -> x.label(i % 3, i % 16 - 2));
        all.put("put", (x, i) -> x.put(i % 3, i % 14 - 1, i));
        all.put("tag", (x, i) -> x.tag(i % 3, i % 3, i));
        all.put("door", (x, i) -> x.door(i % 41, i % 3 == 0));
        all.put("turn", (x, i) -> x.turn(i % 41, i % 5 - 1));
        all.put("release", (x, i) -> x.release(i % 41, i % 23 - 1));
        all.put("clear", (x, i) -> {
            x.night(i, 5);
            x.clear(i % 41);
        });
        all.put("carry", (x, i) -> x.carry(1, i % 41));
        all.put("group", (x, i) -> x.group(i % 5, i % 4, i % 11 - 1));
        all.put("enter", (x, i) -> x.enter(i % 3, i % 4 - 1, i % 41));
        all.put("tally", (x, i) -> x.tally(i % 5, i % 4));
        all.put("step", (x, i) -> x.step());
        all.put("night", (x, i) -> {
            x.works(i / 40 % 3);
            x.night(i, i % 22);
        });
        all.put("back", (x, i) -> {
            x.night(i, 7);
            x.back(i % 8);
        });
    }

    private static void telling(Map<String, Calls> all) {
        all.put("status", (x, i) -> x.status());
        all.put("told", (x, i) -> x.told(i % 41, i % 17));
        all.put("slot", (x, i) -> x.slot(i % 41, i % 9));
        all.put("linkOf", (x, i) -> x.linkOf(i % 41, i % 5 - 1));
        all.put("parcel", (x, i) -> x.parcel(i % 3, i % 9));
        all.put("way", (x, i) -> x.way(i % 3, i % 18 - 1));
        all.put("byteOf", (x, i) -> x.byteOf(i % 3, i % 14 - 1));
        all.put("left", (x, i) -> x.left(i % 3));
        all.put("out", (x, i) -> x.out(i % 32 - 1, i % 5));
        all.put("rule", (x, i) -> x.rule(i % 14 - 1, i % 4));
        all.put("said", (x, i) -> x.said(i - 1));
        all.put("unused", (x, i) -> x.unused(i % 14 - 1));
        all.put("finding", (x, i) -> x.finding(i % 42 - 1, i % 6));
        all.put("trace", (x, i) -> x.trace(i - 1));
        all.put("jam", (x, i) -> x.jam(i % 42 - 1));
        all.put("far", (x, i) -> x.far(i % 41, i % 39));
        all.put("reach", (x, i) -> x.reach(i % 41));
        all.put("ring", (x, i) -> x.ring(i % 41));
        all.put("audit", (x, i) -> x.audit());
        all.put("count", (x, i) -> x.count(i % 15));
        all.put("digest", (x, i) -> x.digest());
    }
}
