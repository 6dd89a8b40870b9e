import java.util.ArrayList;
import java.util.LinkedHashMap;
import java.util.List;
import java.util.Map;
import java.util.Random;
import java.util.regex.Matcher;
import java.util.regex.Pattern;

/** What 'What it is', 'Terms' and parts 1 to 6 say beside their edges: ordinary inputs, each under the document's words. */
final class PlainTermsTest {
    private static final int UNKNOWN = Edge.UNKNOWN, OUTSIDE = Edge.OUTSIDE, FULL = Edge.FULL, UNREAD = Edge.UNREAD,
            NONE = Edge.NONE, NULL = Edge.NULL;
    /** FAULTS as FINDINGS tell them. */
    private static final int NULL_FOUND = 1;

    public static void main(String[] args) {
        allOfIt();
        laterCalls();
        unknown();
        kindsByBodies();
        quotients();
        inThisOrder();
        plansAgain();
        mergeByThen();
        scanned();
        given();
        upWhateverCame();
        doors();
        scannedAhead();
        whatBuilds();
        whatIsDoneByHand();
        whatIsTold();
        Check.end();
    }

    // ---- What it is

    /** SCANNER 0, DIVERT 1 to HOLD 4 (SIDE 0) and CHUTE 2 (SIDE 1), DOOR 3 that a PLAN opens, PANEL 5, BELT 6 without a ROW. */
    private static void allOfIt() {
        Edge.says("What it is", "Works that sort parcels: gear of kinds that lend one another what they do, linked by rows "
                + "that may lack or be too short; labels of bytes, read sign by sign; rules typed as letters, judged when they "
                + "are loaded; steps in which all gear acts in order, with lamps and counts that are right on every way out; "
                + "plans of acts, holds, jams that are cleared, groups, states to go back to, nights drawn by a number.");
        House h = new House("gear(3,1) gear(5,1) gear(7,1) gear(9,0) gear(8,1) gear(10,0) gear(0,1)");
        h.then("row:0>1 row:1>4,2 row:2>3 row:4>6 row:5>0,2,4 aim(1,1,2,true) load:D<50:2; plan(4,3,0,3,1)");
        h.then("group(0,3,2) enter(0,0,2) enter(0,1,4)");
        // What can be read: the DIVERT turns, takes it, gives it to the CHUTE, which gives it to the DOOR.
        h.then("come(0,10,1) tag(1,0,17)").does("step()", 1).isTold(0, 3, 1, 2).isTold(1, 2, 1).tells("parcel(1,4)", 2);
        h.does("step()", 2).isTold(0, 3, 0, 1).slots(1, 1).isTold(3, 4, 0).does("step()", 3).slots(2, 1).isTold(3, 4, 1);
        h.does("step()", 4).isRow("out", 0, 1, 3, 4, 2).tells("left(1)", 3).tells("count(6)", 0);
        // What has no LABEL: a FINDING, then the HOLD.
        h.then("come(0,20,2)").does("step()", 5).isRow("finding", 0, 5, 0, 2, NULL_FOUND, 2).isTold(0, 3, 1, 3);
        h.does("step()", 6).isTold(0, 3, 2, 2).isTold(1, 2, 0).does("step()", 7).slots(1, 2).does("step()", 8).slots(4, 2);
        h.tells("parcel(2,4)", UNREAD).isTold(4, 3, 0).then("step()*7").tells("jam(0)", NONE).isTold(5, 14, 1);
        h.does("step()", 16).tells("jam(0)", 4).refuses("clear(4)", FULL).does("release(4,1)", 0).does("step()", 17);
        h.slots(6, 2).isTold(4, 10, 0).then("step()*8").isTold(6, 3, 8, 3).tells("jam(0)", 6).tells("count(6)", 9);
        h.does("clear(6)", 4).slots(4, 2).isTold(6, 3, 0).tells("jam(0)", NONE);
        h.does("tally(0,0)", 1).does("tally(0,1)", 3).does("tally(0,2)", 2).tells("audit()", NONE);
        h.does("back(1)", 24).slots(6, 2).slots(4, 0).does("tally(0,1)", 2).isTold(6, 3, 7);
        h.then("works(1) gear(0,8)").does("night(7,5)", 5).slots(0, 0, 7, 6, 5, 4, 3);
    }

    private static void laterCalls() {
        Edge.says("What it is", "what later calls answer is free.");
        // Free, but no call may ever throw or fail to end (rule 7).
        String[] numbers = {"MIN", "-10", "-2", "-1", "0", "1", "2", "3", "5", "7", "8", "9", "10", "20", "39", "40", "999",
            "2000", "2001", "MAX"};
        String[] ones = {"works", "copy", "letter", "clear", "back", "left", "said", "unused", "trace", "jam", "reach", "ring",
            "count"};
        String[] twos = {"gear", "links", "rank", "refit", "label", "turn", "release", "carry", "tally", "night", "told",
            "slot", "linkOf", "parcel", "way", "byteOf", "out", "rule", "finding", "far"};
        String[] threes = {"link", "come", "put", "tag", "group", "enter"};
        String[] nones = {"load()", "step()", "status()", "audit()", "digest()", "letter(58)", "letter(49)", "letter(59)"};
        Random draw = new Random(512);
        House h = House.scout(List.of());
        for (int i = 0; i < 40_000; i++) {
            String a = numbers[draw.nextInt(20)];
            String b = numbers[draw.nextInt(20)];
            String c = numbers[draw.nextInt(20)];
            switch (draw.nextInt(7)) {
                case 0 -> h.ask(nones[draw.nextInt(nones.length)]);
                case 1 -> h.ask(ones[draw.nextInt(ones.length)] + "(" + a + ")");
                case 2, 3 -> h.ask(twos[draw.nextInt(twos.length)] + "(" + a + "," + b + ")");
                case 4 -> h.ask(threes[draw.nextInt(threes.length)] + "(" + a + "," + b + "," + c + ")");
                case 5 -> h.ask("plan(" + a + "," + b + "," + c + "," + a + "," + b + ")");
                default -> h.ask("night(" + i + "," + (1 + i % 20) + ")");
            }
        }
        Check.due("40,000 calls of one object came to an end", 1, 1);
    }

    // ---- Terms

    private static void unknown() {
        Edge.says("Terms", "UNKNOWN (there is no such WORKS, GEAR, GROUP, or no such PARCEL INSIDE the WORKS AT HAND, but for "
                + "left())");
        House h = new House("gear(0,1) come(0,1,1) group(0,0,0)").refuses("works(3)", UNKNOWN).refuses("copy(3)", UNKNOWN);
        h.refuses("links(1,0)", UNKNOWN).refuses("group(4,0,0)", UNKNOWN).refuses("tally(4,3)", UNKNOWN);
        h.refuses("enter(4,0,0)", UNKNOWN).refuses("enter(0,0,1)", UNKNOWN).refuses("carry(1,1)", UNKNOWN);
        h.refuses("carry(2,0)", UNKNOWN).then("works(1) gear(0,1)");
        for (String call : new String[] {"label(1,13)", "label(1,-2)", "put(1,99,0)", "tag(1,2,100)", "carry(1,0)"}) {
            h.refuses(call, UNKNOWN);
        }
        h.tells("parcel(1,8)", UNKNOWN).tells("way(1,99)", UNKNOWN).tells("byteOf(1,99)", UNKNOWN).tells("left(1)", -10);
        Edge.says("Terms", "OUTSIDE (another number is not as told)");
        h.refuses("gear(0,0)", OUTSIDE).refuses("links(0,4)", OUTSIDE).refuses("night(0,0)", OUTSIDE);
    }

    // ---- part 1

    private static void kindsByBodies() {
        Edge.part(1, "as it comes, is of a KIND: 0 BELT, 1 CURVE, 2 MERGE, 3 SCANNER, 4 SCALE, 5 DIVERT, 6 CROSS, 7 CHUTE, 8 "
                + "HOLD, 9 DOOR, 10 PANEL.");
        // By what acts just each other STEP, chooses, scans, weighs, has SIDES, gives to DOORS, holds, is OPEN, has a DIAL.
        House h = new House(Edge.ALL_KINDS, "row:10>9,8 load::7; step()*2");
        for (int kind = 0; kind <= 10; kind++) {
            h.isTold(kind, 0, kind, kind <= 8 ? 2 : 0).isTold(kind, 8, kind == 1 || kind == 4 ? 1 : 2);
        }
        h.traces(1, 2, 1, 3, 1, 4, 1, 5, 4, 1, 6, 7, 6, 8, 9, 10, 11);
        h.does("turn(5,1)", 0).does("turn(6,2)", 0).does("release(8,1)", 0).does("door(9,true)", 0).tells("told(10,14)", 0);
        // 1 + 18 + 5 = 24 with the WEIGHT 6, which is not its own: the SCANNER does not weigh, the SCALE does.
        h.then("come(3,5,5) tag(1,0,1) put(1,5,54) put(1,7,54) come(4,5,5) tag(2,0,1) put(2,5,54) put(2,7,54) step()*4");
        h.tells("parcel(1,4)", 7).tells("parcel(2,4)", UNREAD);
    }

    // ---- part 3

    private static void quotients() {
        Edge.part(3, "its LOAD / how many of its LINKS lead to a DOOR that is OPEN");
        // HOLD 1 has LOAD 3. LINKS are counted, not DOORS: two that lead to one DOOR are two.
        String[] rows = {"3", "3,3", "3,3,3", "3,4", "3,3,4", "4,4,3", "3,0,3", "3,-1,39"};
        int[] want = {3, 1, 1, 3, 1, 3, 1, 3};
        for (int i = 0; i < rows.length; i++) {
            House h = new House("gear(3,1) gear(8,3) gear(0,1) gear(9,0) gear(9,0) row:0>1 row:1>" + rows[i], "door(3,true)");
            h.then("come(0,1,1) step()*3 come(0,1,1) step()*3 come(0,1,1) step()*2").isTold(1, 9, 3);
            h.then("load:Q1=" + want[i] + ":7;:8; come(0,1,1) tag(4,0,0) step()").tells("parcel(4,4)", 7);
        }
    }

    // ---- part 4

    private static void inThisOrder() {
        Edge.part(4, "Then, in this order:");
        // A PLAN gives RELEASES, so the MERGE CHOOSES the HOLD, so that one gives: all in one STEP.
        House h = new House("gear(0,1) gear(8,1) gear(2,1) row:1>2 come(0,1,1) step()*8 clear(0) plan(4,10,2,1,1) step()");
        h.slots(1, 1).isTold(1, 3, 1).does("step()", 10).slots(1, 0).slots(2, 1).isTold(1, 10, 0).isTold(2, 13, 2);
        Edge.part(4, "Then GEAR 0, 1, .. ACTS");
        House down = new House("gear(0,1) gear(0,1) gear(0,1) row:2>1 row:1>0 come(1,1,1) come(2,1,1) step()");
        down.slots(0, 1).slots(1, 2).slots(2, 0).traces(1, 1, 20, 1, 20);
        House up = new House("gear(0,1) gear(0,1) gear(0,1) row:0>1 row:1>2 come(0,1,1) come(1,1,1) step()");
        up.slots(0, 1).slots(1, 0).slots(2, 2).traces(1, 20, 1, 20, 1);
    }

    private static void plansAgain() {
        Edge.part(4, "PLANS for this TIME are done, in order.");
        House h = new House("gear(9,0) plan(4,2,0,0,1) plan(1,2,0,0,0) step()*2").isTold(0, 2, 1).tells("count(6)", 1);
        h.does("back(1)", 1).isTold(0, 2, 0).tells("count(6)", 0).does("step()", 2).isTold(0, 2, 1).tells("count(6)", 1);
        h.tells("count(7)", 2).then("door(0,false) works(1) step()*2 works(0)").isTold(0, 2, 0).does("step()", 3);
        h.isTold(0, 2, 0);
    }

    private static void mergeByThen() {
        Edge.part(4, "Each MERGE, by numbers, CHOOSES, as all is then:");
        // BELT 1, of a greater RANK, gets its PARCEL in this very STEP: too late for MERGE 3, and for MERGE 4 as well.
        House h = new House("gear(0,1) gear(0,1) gear(0,1) gear(2,1) gear(2,1) row:0>1 row:1>3 row:2>3 rank(1,9)");
        h.then("come(0,1,1) come(2,1,1) step()").slots(1, 1).slots(3, 2).isTold(3, 13, 3).isTold(4, 13, 0);
        House two = new House("gear(0,1) gear(0,1) gear(2,1) gear(2,1) row:0>3 row:1>2 come(0,1,1) come(1,1,1) step()");
        two.slots(2, 2).slots(3, 1).isTold(2, 13, 2).isTold(3, 13, 1);
    }

    private static void scanned() {
        Edge.part(4, "A TAKER: (SCANNERS) the PARCEL in the last SLOT, if it has not MOVED and was not SCANNED since it came "
                + "into this GEAR, is SCANNED (just once there");
        House h = new House("gear(0,1) gear(3,2) gear(3,1) row:0>1 row:1>2 load::9; come(0,1,1) tag(1,0,1)");
        h.does("step()", 1).slots(1, 1, 0).tells("parcel(1,7)", 0).does("step()", 2).slots(1, 0, 1).tells("parcel(1,7)", 0);
        h.tells("parcel(1,4)", NONE).does("step()", 3).slots(2, 1).tells("parcel(1,4)", 9).tells("parcel(1,7)", 0);
        h.tells("rule(0,2)", 1).does("step()", 4).tells("parcel(1,7)", 1).tells("rule(0,2)", 2).does("step()", 5);
        h.tells("rule(0,2)", 2).tells("parcel(1,7)", 1);
        // It is carried to another SLOT of the same GEAR: it came into it once more, so it is SCANNED once more.
        House same = new House("gear(3,2) row:0> load::9; come(0,1,1) tag(1,0,1) step()*2").tells("parcel(1,7)", 1);
        same.then("step()").tells("rule(0,2)", 1).does("carry(1,0)", 0).tells("parcel(1,7)", 0).then("step()");
        same.tells("rule(0,2)", 1).then("step()").tells("rule(0,2)", 2).tells("parcel(1,7)", 1);
        // Other TAKERS scan nothing.
        House others = new House("gear(0,1) gear(5,1) row:0>1 load::9; come(0,1,1) come(1,1,1) tag(1,0,1) tag(2,0,1) step()*3");
        others.tells("parcel(1,4)", NONE).tells("parcel(2,4)", NONE).tells("rule(0,2)", 0);
    }

    private static void given() {
        Edge.part(4, "Then the PARCEL in the last SLOT, if it has not MOVED (and no FAULT of a LABEL came just now), is GIVEN");
        House moved = new House("gear(0,1) gear(0,1) gear(0,1) row:0>1 row:1>2 come(0,1,1) step()").slots(1, 1);
        moved.traces(1, 20, 1, 1).then("step()").slots(2, 1);
        House fault = new House("gear(3,1) gear(0,1) row:0>1 come(0,1,1) step()").traces(4, 1, 1).slots(0, 1);
        fault.then("step()").traces(4, 1, 20, 1).slots(1, 1);
        House bad = new House("gear(3,1) gear(0,1) row:0>1 come(0,1,1) label(1,1) step()").traces(4, 1, 20, 1).slots(1, 1);
        bad.tells("parcel(1,4)", UNREAD).tells("count(6)", 0);
    }

    private static void upWhateverCame() {
        Edge.part(4, "Then, whatever came, SLOT by SLOT");
        // Behind the one that can't be given, and behind the one that can't be read, the next one moves up all the same.
        for (int kind : new int[] {0, 3, 5}) {
            House h = new House("gear(" + kind + ",3) come(0,1,1) step()*2 come(0,2,2)").slots(0, 2, 0, 1).then("step()");
            h.slots(0, 0, 2, 1).isRow("finding", 0, 3, 0, kind == 3 ? 2 : 1, NULL_FOUND, 1);
        }
    }

    private static void doors() {
        Edge.part(4, "A DOOR does nothing.");
        House h = new House("gear(9,0) gear(0,1) row:0>1,39,-1 come(1,1,1) row:1>1 door(0,true) step()");
        h.isTold(0, 2, 1, 0, 1, 0, 0, 0, 1).isTold(0, 14, 0).traces(10, 1, 20).slots(1, 1).tells("count(6)", 0);
    }

    private static void scannedAhead() {
        Edge.part(4, "(what is SCANNED is so ahead of 1);");
        House h = new House(Edge.SORTER, "come(0,1,1) tag(1,0,0) step()").traces(4, 1, 23, 8, 10).slots(1, 1);
        h.tells("parcel(1,4)", 1);
        House scale = new House("gear(4,1) gear(7,1) row:0>1 load::1; come(0,1,1) tag(1,0,0) step()*2");
        scale.traces(5, 4, 1, 23, 8).slots(1, 1);
    }

    // ---- which calls build, are done by hand, tell

    /** The calls that the document names there, each with a call of it; WORKS 1 has no GEAR. */
    private static Map<String, String> named(String what, String calls) {
        Map<String, String> byName = new LinkedHashMap<>();
        for (String call : calls.split(" ")) {
            byName.put(call.substring(0, call.indexOf('(')), call);
        }
        Matcher names = Pattern.compile("Ahead of the calls ([^.]*?) the interface says: ---- " + what)
                .matcher(Edge.document().get("Part 6"));
        List<String> inDocument = new ArrayList<>();
        if (names.find()) {
            for (String name : names.group(1).split(", ")) {
                inDocument.add(name.replace("`", ""));
            }
        }
        Check.due("the calls named there, " + inDocument + ", are " + byName.keySet(),
                inDocument.equals(new ArrayList<>(byName.keySet())) ? 1 : 0, 1);
        return byName;
    }

    /** BELT 4 is JAMMED; two STEPS are KEPT of WORKS 0 and of WORKS 1. */
    private static House kept() {
        return new House("gear(5,1) gear(9,0) gear(0,1) gear(8,1) gear(0,1) links(0,1) come(4,1,1) step()*7 rank(0,1) step()*2",
                "works(1) step()*2 works(0) label(1,3) group(0,0,1) enter(0,0,0) type::1;");
    }

    private static void whatBuilds() {
        Edge.part(6, "Ahead of the calls `gear`, `links`, `link`, `aim`, `rank`, `refit`, `copy`, `letter`, `load`, `plan` the "
                + "interface says: ---- what builds: with each of these (but letter(), and what is refused or meets a FAULT) "
                + "nothing is KEPT any more of the WORKS AT HAND.");
        for (Map.Entry<String, String> call : named("what builds", "gear(0,1) links(0,1) link(0,0,2) aim(0,1,1,true) rank(0,1) "
                + "refit(2,0) copy(0) letter(58) load() plan(1,1,0,0,0)").entrySet()) {
            boolean isCopy = call.getKey().equals("copy");
            House h = kept().then(isCopy ? "works(1)" : "works(0)").is("count(8)", 2).then(call.getValue());
            h.is("status()", 0).is("count(8)", call.getKey().equals("letter") ? 2 : 0);
            // Of others it is.
            h.then(isCopy ? "works(0)" : "works(1)").is("count(8)", 2);
        }
        kept().refuses("rank(0,10)", OUTSIDE).is("count(8)", 2).refuses("link(4,0,0)", NULL).is("count(8)", 2);
    }

    private static void whatIsDoneByHand() {
        Edge.part(6, "Ahead of the calls `come`, `label`, `put`, `tag`, `door`, `turn`, `release`, `clear`, `carry`, `group`, "
                + "`enter`, `tally`, `step`, `night`, `back` the interface says: ---- what is done by hand.");
        Map<String, String> calls = named("what is done by hand", "come(2,1,1) label(1,1) put(1,0,1) tag(1,0,1) door(1,true) "
                + "turn(0,1) release(3,1) clear(4) carry(1,0) group(0,0,1) enter(0,0,0) tally(0,0) step() night(1,4) back(1)");
        for (Map.Entry<String, String> call : calls.entrySet()) {
            int more = switch (call.getKey()) {
                case "step" -> 1;
                case "night" -> 4;
                case "back" -> -1;
                default -> 0;
            };
            kept().is("count(8)", 2).then(call.getValue()).is("status()", 0).is("count(8)", 2 + more);
        }
    }

    private static void whatIsTold() {
        Edge.part(6, "Ahead of the calls `status`, `told`, `slot`, `linkOf`, `parcel`, `way`, `byteOf`, `left`, `out`, `rule`, "
                + "`said`, `unused`, `finding`, `trace`, `jam`, `far`, `reach`, `ring`, `audit`, `count`, `digest` the "
                + "interface says: ---- what is told (nothing of this changes status()).");
        Map<String, String> calls = named("what is told", "status() told(9,0) slot(9,0) linkOf(9,0) parcel(9,0) way(9,0) "
                + "byteOf(9,0) left(9) out(0,0) rule(0,0) said(0) unused(0) finding(0,0) trace(0) jam(0) far(9,0) reach(9) "
                + "ring(9) audit() count(14) digest()");
        for (String call : calls.values()) {
            kept().then("rank(0,10)").then(call).is("status()", OUTSIDE).is("count(8)", 2);
            kept().then(call).is("status()", 0).is("count(8)", 2);
        }
    }
}
