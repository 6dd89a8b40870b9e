import java.util.ArrayList;
import java.util.List;
import java.util.function.Predicate;

/**
 * Two objects of which the same calls were made, but for one that is refused (or some that leave all as it was): whatever is
 * asked of them behind that, but status() and count(7), they must answer alike. Each part of the questions is asked of two new
 * objects, so that none comes to more than 512 calls.
 */
final class Twins {
    private static final int NUMBERS_ASKED = 40;
    /** So many calls a script may have. */
    private static final int SCRIPT_MOST = 20;

    private Twins() {
    }

    /** A call, or a script of calls, behind which all is as it was before, as far as is asked. */
    static void same(List<String> before, String script, Predicate<String> isAsked) {
        askAll(before, script, parts(before, isAsked));
    }

    private static void askAll(List<String> before, String script, List<List<String>> parts) {
        for (List<String> part : parts) {
            House with = House.after(before).then(script);
            House without = House.after(before);
            for (String question : part) {
                long got = with.ask(question);
                long want = without.ask(question);
                if (got != want) {
                    Check.due(script + " changes something: " + question + " behind it", got, want);
                    return;
                }
            }
        }
        Check.due(script + " changes nothing", 0, 0);
    }

    /** A script that may change some of what is told of the WORKS AT HAND, or of the house: all else is as it was. */
    static void sameButFor(List<String> before, String script, Predicate<String> mayChange) {
        House scout = House.scout(before);
        int hand = (int) scout.ask("count(12)");
        int room = House.CALLS_MOST - before.size() - SCRIPT_MOST;
        List<List<String>> parts = new ArrayList<>();
        addParts(parts, letters(scout), "", room, question -> !mayChange.test(question));
        addParts(parts, tallies(), "", room, question -> !mayChange.test(question));
        for (int divert : diverts(scout)) {
            addParts(parts, sets(divert), "", room, question -> !mayChange.test(question));
        }
        for (int w = 0; w < 3; w++) {
            String go = "works(" + w + ")";
            scout.ask(go);
            List<String> questions = told(scout);
            for (int g = 0; g < scout.ask("count(0)"); g++) {
                for (int what = 0; what <= 14; what++) {
                    questions.add("told(" + g + "," + what + ")");
                }
            }
            boolean isAtHand = w == hand;
            addParts(parts, questions, isAtHand ? "" : go, room,
                    question -> !(isAtHand || isOfHouse(question)) || !mayChange.test(question));
        }
        askAll(before, script, parts);
    }

    private static boolean isOfHouse(String question) {
        return question.startsWith("left") || question.equals("count(10)") || question.equals("count(13)");
    }

    private static List<List<String>> parts(List<String> before, Predicate<String> isAsked) {
        int room = House.CALLS_MOST - before.size() - SCRIPT_MOST;
        if (room < 80) {
            throw new IllegalStateException("too many calls ahead of a refusal: " + before.size());
        }
        House scout = House.scout(before);
        int hand = (int) scout.ask("count(12)");
        List<List<String>> parts = new ArrayList<>();
        List<String> acts = new ArrayList<>(letters(scout));
        acts.addAll(groups());
        addParts(parts, acts, "", room, isAsked);
        addParts(parts, steps(), "", room, isAsked);
        for (int divert : diverts(scout)) {
            addParts(parts, sets(divert), "", room, isAsked);
        }
        for (int w = 0; w < 3; w++) {
            String go = "works(" + w + ")";
            scout.ask(go);
            addParts(parts, told(scout), w == hand ? "" : go, room, isAsked);
            addParts(parts, backs(scout), w == hand ? "" : go, room, isAsked);
        }
        return parts;
    }

    /** Cuts questions into parts that fit into the room, each with what must go ahead of it. */
    private static void addParts(List<List<String>> parts, List<String> questions, String ahead, int room,
            Predicate<String> isAsked) {
        List<String> part = new ArrayList<>();
        for (String question : questions) {
            if (!isAsked.test(question)) {
                continue;
            }
            if (part.size() >= room) {
                parts.add(part);
                part = new ArrayList<>();
            }
            if (part.isEmpty() && !ahead.isEmpty()) {
                part.add(ahead);
            }
            part.add(question);
        }
        parts.add(part);
    }

    // ---- what is told

    private static List<String> told(House scout) {
        List<String> all = new ArrayList<>();
        for (int what = 0; what <= 13; what++) {
            if (what != 7) {
                all.add("count(" + what + ")");
            }
        }
        all.add("digest()");
        all.add("audit()");
        all.add("jam(0)");
        for (int g = 0; g < scout.ask("count(0)"); g++) {
            toldOfGear(scout, g, all);
        }
        rows(all, "finding", Math.min(40, scout.ask("count(6)")), 5);
        rows(all, "out", Math.min(30, scout.ask("count(3)")), 4);
        rows(all, "rule", scout.ask("count(4)"), 3);
        for (int i = 0; i < 200 && scout.ask("said(" + i + ")") != SortWorks.NONE; i++) {
            all.add("said(" + i + ")");
        }
        for (int i = 0; i < Math.min(60, scout.ask("count(9)")); i++) {
            all.add("trace(" + i + ")");
        }
        long given = scout.ask("count(13)");
        for (long p = Math.max(1, given - NUMBERS_ASKED); p <= given + 1; p++) {
            all.add("left(" + p + ")");
        }
        return all;
    }

    private static void toldOfGear(House scout, int g, List<String> all) {
        all.add("told(" + g + ",1)");
        all.add("told(" + g + ",15)");
        for (int k = 0; k < scout.ask("told(" + g + ",15)"); k++) {
            all.add("linkOf(" + g + "," + k + ")");
        }
        for (int k = 0; k < scout.ask("told(" + g + ",1)"); k++) {
            String slot = "slot(" + g + "," + k + ")";
            all.add(slot);
            long parcel = scout.ask(slot);
            if (parcel > 0) {
                toldOfParcel(scout, parcel, all);
            }
        }
    }

    private static void toldOfParcel(House scout, long parcel, List<String> all) {
        for (int what = 0; what <= 7; what++) {
            all.add("parcel(" + parcel + "," + what + ")");
        }
        for (int i = 0; i < Math.min(16, scout.ask("parcel(" + parcel + ",5)")); i++) {
            all.add("way(" + parcel + "," + i + ")");
        }
        for (int i = 0; i < scout.ask("parcel(" + parcel + ",6)"); i++) {
            all.add("byteOf(" + parcel + "," + i + ")");
        }
    }

    private static void rows(List<String> all, String call, long rows, int width) {
        for (int i = 0; i < rows; i++) {
            for (int what = 0; what < width; what++) {
                all.add(call + "(" + i + "," + what + ")");
            }
        }
    }

    // ---- what is not told, but shows in what is done next

    private static List<String> letters(House scout) {
        List<String> all = new ArrayList<>();
        if (scout.ask("count(10)") > 0) {
            all.add("load()");
            all.add("count(4)");
            for (int i = 0; i < 30; i++) {
                all.add("said(" + i + ")");
            }
        }
        return all;
    }

    private static List<String> tallies() {
        List<String> all = new ArrayList<>();
        for (int i = 0; i < 4; i++) {
            for (int what = 0; what <= 2; what++) {
                all.add("tally(" + i + "," + what + ")");
            }
        }
        return all;
    }

    private static List<String> groups() {
        List<String> all = new ArrayList<>(tallies());
        for (int i = 0; i < 4; i++) {
            for (int gear = 0; gear < 3; gear++) {
                all.add("enter(" + i + ",0," + gear + ")");
            }
            all.add("enter(" + i + ",1,0)");
            all.add("enter(" + i + ",7,0)");
        }
        return all;
    }

    private static List<String> steps() {
        List<String> all = new ArrayList<>();
        for (int i = 0; i < 6; i++) {
            all.add("step()");
            all.add("digest()");
            all.add("count(9)");
        }
        all.add("night(7,4)");
        all.add("digest()");
        return all;
    }

    private static List<Integer> diverts(House scout) {
        List<Integer> all = new ArrayList<>();
        for (int g = 0; g < scout.ask("count(0)") && all.size() < 2; g++) {
            long kind = scout.ask("told(" + g + ",0)");
            if (kind == 5 || kind == 6) {
                all.add(g);
            }
        }
        return all;
    }

    private static List<String> sets(int divert) {
        List<String> all = new ArrayList<>();
        for (int side = 1; side <= 2; side++) {
            for (int target : new int[] {0, 1, 5, 7, 8, 31, 32, 33, 38, 39}) {
                all.add("aim(" + divert + "," + side + "," + target + ",false)");
            }
        }
        return all;
    }

    private static List<String> backs(House scout) {
        List<String> all = new ArrayList<>();
        for (int i = 0; i < scout.ask("count(8)"); i++) {
            all.add("back(1)");
            all.add("digest()");
        }
        return all;
    }
}
