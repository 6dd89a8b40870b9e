/** Promises 43 to 45: WAYS AHEAD. */
final class WaysTest {
    private static final int UNKNOWN = -1, NONE = -9;

    public static void main(String[] args) {
        refused();
        chain();
        byKinds();
        faultyLinks();
        shortest();
        rings();
        forty();
        longChain();
        Check.end();
    }

    private static void refused() {
        Check.about("promises 43 to 45, refused");
        SortWorks x = new SortWorks();
        Check.due("far(0, 0)", x.far(0, 0), UNKNOWN);
        Check.due("ring(0)", x.ring(0), UNKNOWN);
        Check.due("reach(0)", x.reach(0), 0);
        x.gear(0, 1);
        Check.due("far(0, 1)", x.far(0, 1), UNKNOWN);
        Check.due("far(1, 0)", x.far(1, 0), UNKNOWN);
        Check.due("far(-1, 0)", x.far(-1, 0), UNKNOWN);
        Check.due("far(0, -1)", x.far(0, -1), UNKNOWN);
        Check.due("ring(1)", x.ring(1), UNKNOWN);
        Check.due("ring(-1)", x.ring(-1), UNKNOWN);
        Check.due("reach(-1)", x.reach(-1), 0);
        Check.due("far(0, 0)", x.far(0, 0), 0);
        Check.due("ring(0)", x.ring(0), NONE);
        Check.due("reach(0)", x.reach(0), 0);
    }

    private static void chain() {
        Check.about("promise 43");
        SortWorks x = new SortWorks();
        x.gear(0, 2);
        x.gear(1, 3);
        x.gear(8, 5);
        x.gear(7, 7);
        Check.links(x, 0, 1);
        Check.links(x, 1, 2);
        Check.links(x, 2, 3);
        Check.due("far(0, 1)", x.far(0, 1), 2);
        Check.due("far(0, 2)", x.far(0, 2), 5);
        Check.due("far(0, 3)", x.far(0, 3), 10);
        Check.due("far(3, 0)", x.far(3, 0), NONE);
        Check.due("far(2, 2)", x.far(2, 2), 0);
        Check.due("reach(0)", x.reach(0), 0b1110);
        Check.due("reach(2)", x.reach(2), 0b1000);
        Check.due("reach(3)", x.reach(3), 0);
        x.turn(0, 0);
        x.works(1);
        Check.due("far(0, 1) of another WORKS", x.far(0, 1), UNKNOWN);
    }

    /** GEAR 0 of each KIND has LINKS to 1, 2, 3. */
    private static void byKinds() {
        int[] ways = {1, 1, 1, 1, 1, 2, 3, 0, 1, 0, 0};
        for (int kind = 0; kind <= 10; kind++) {
            Check.about("WAYS AHEAD of KIND " + kind);
            SortWorks x = new SortWorks();
            x.gear(kind, 4);
            for (int g = 1; g <= 3; g++) {
                x.gear(0, 1);
            }
            Check.links(x, 0, 1, 2, 3);
            for (int g = 1; g <= 3; g++) {
                Check.due("far(0, " + g + ")", x.far(0, g), g <= ways[kind] ? 4 : NONE);
            }
            Check.due("reach(0)", x.reach(0), (1 << ways[kind] + 1) - 2);
            Check.due("far(0, 0)", x.far(0, 0), 0);
            Check.due("ring(0)", x.ring(0), NONE);
        }
    }

    private static void faultyLinks() {
        Check.about("LINKS that lead to no TAKER");
        SortWorks x = new SortWorks();
        x.gear(6, 1);
        x.gear(9, 0);
        x.gear(10, 0);
        x.gear(0, 1);
        Check.links(x, 0, 1, 2, 39);
        Check.due("reach(0)", x.reach(0), 0);
        Check.due("far(0, 1), a DOOR", x.far(0, 1), NONE);
        Check.links(x, 0, -1, 3);
        Check.due("reach(0)", x.reach(0), 8);
        x.links(0, 0);
        Check.due("reach(0)", x.reach(0), 0);
        x.links(0, -1);
        Check.due("reach(0)", x.reach(0), 0);
        Check.links(x, 1, 3);
        Check.due("far(1, 3), from a DOOR", x.far(1, 3), NONE);
        Check.due("count(7)", x.count(7), 0);
    }

    /** From CROSS 0 by three ways to BELT 4: 1 + 8, 1 + 2 + 3, 1 + 2 + 1 + 1 SLOTS. */
    private static void shortest() {
        Check.about("the fewest SLOTS");
        SortWorks x = new SortWorks();
        int[] lengths = {1, 8, 2, 3, 1, 1, 1};
        for (int g = 0; g < lengths.length; g++) {
            x.gear(g == 0 || g == 2 ? 6 : 0, lengths[g]);
        }
        Check.links(x, 0, 1, 2, -1);
        Check.links(x, 1, 4);
        Check.links(x, 2, 3, 5, -1);
        Check.links(x, 3, 4);
        Check.links(x, 5, 6);
        Check.links(x, 6, 4);
        Check.due("far(0, 4)", x.far(0, 4), 5);
        Check.links(x, 6, 5);
        Check.due("far(0, 4)", x.far(0, 4), 6);
        x.links(3, 0);
        Check.due("far(0, 4)", x.far(0, 4), 9);
        Check.due("SIDE does not matter", x.turn(0, 2), 0);
        Check.due("far(0, 4)", x.far(0, 4), 9);
        Check.due("reach(0)", x.reach(0), 0b1111110);
        Check.due("ring(5)", x.ring(5), 2);
    }

    private static void rings() {
        Check.about("promise 45");
        SortWorks x = new SortWorks();
        x.gear(5, 3);
        x.gear(0, 2);
        x.gear(0, 8);
        Check.links(x, 0, 1, 2);
        Check.links(x, 1, 0);
        Check.links(x, 2, 0);
        Check.due("ring(0)", x.ring(0), 5);
        Check.due("ring(1)", x.ring(1), 5);
        Check.due("ring(2)", x.ring(2), 11);
        Check.due("far(0, 0)", x.far(0, 0), 0);
        Check.due("reach(0), itself too", x.reach(0), 7);
        Check.links(x, 0, 0, 2);
        Check.due("ring(0), by one LINK", x.ring(0), 3);
        Check.due("ring(2)", x.ring(2), 11);
        Check.due("ring(1)", x.ring(1), NONE);
    }

    private static void forty() {
        Check.about("promise 44, bit 39");
        SortWorks x = new SortWorks();
        for (int g = 0; g < 40; g++) {
            x.gear(0, 8);
        }
        for (int g = 0; g < 40; g++) {
            Check.links(x, g, (g + 1) % 40);
        }
        Check.due("reach(0)", x.reach(0), (1L << 40) - 1);
        Check.due("far(0, 39)", x.far(0, 39), 39 * 8);
        Check.due("ring(7)", x.ring(7), 40 * 8);
        x.links(39, 0);
        Check.due("reach(38)", x.reach(38), 1L << 39);
        Check.due("reach(39)", x.reach(39), 0);
    }

    /** Each leads to the GEAR of the number below: a way is found in the order that goes against the numbers. */
    private static void longChain() {
        Check.about("promise 43, against the numbers");
        SortWorks x = new SortWorks();
        for (int g = 0; g < 40; g++) {
            x.gear(5, 1 + g % 3);
        }
        for (int g = 1; g < 40; g++) {
            Check.links(x, g, -1, g - 1);
        }
        int sum = 0;
        for (int g = 39; g >= 1; g--) {
            sum += 1 + g % 3;
            Check.due("far(39, " + (g - 1) + ")", x.far(39, g - 1), sum);
        }
        Check.due("ring(39)", x.ring(39), NONE);
        Check.links(x, 0, 39);
        Check.due("ring(39)", x.ring(39), sum + 1);
    }
}
