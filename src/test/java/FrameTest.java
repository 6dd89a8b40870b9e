/** What a call changes is what the document says of it: all else that is told, of all WORKS, is as it was. */
final class FrameTest {
    /**
     * A house in which all is worn: 0 SCANNER, 1 DIVERT, 2 CHUTE, 3 HOLD, 4 DOOR, 5 PANEL, 6 MERGE, 7 BELT, 8 CROSS, 9 BELT,
     * 10 HOLD. PARCEL 1 is OUT, 2 waits in the MERGE, 3 was carried from the CROSS, where it had waited, to BELT 9, 4 waits in
     * HOLD 3, 5 in BELT 7.
     */
    private static final String WORN = "gear(3,1) gear(5,1) gear(7,1) gear(8,1) gear(9,0) gear(10,0) gear(2,1) gear(0,1)"
            + " gear(6,2) gear(0,2) gear(8,1) row:0>1 row:1>3,2 row:2>4 row:5>0,3 row:7>6 aim(1,1,2,true) aim(8,2,7,true)"
            + " rank(9,5) load:D<50:2;:39; plan(4,30,0,4,0) plan(3,3,0,4,1)"
            + " door(4,true) release(10,3) come(0,5,5) tag(1,0,17) come(7,5,5) come(8,6,6) tag(3,1,9) step()*4 come(0,7,7)"
            + " step()*5 label(3,12) come(7,8,8) step() carry(3,9) turn(8,2) works(1) copy(0) night(5,4) works(0)"
            + " group(0,0,2) enter(0,0,0) enter(0,1,4) group(1,1,1) enter(1,0,7) group(2,2,1) enter(2,0,0) group(3,3,2)"
            + " enter(3,0,2) enter(3,1,3) type:D=1";

    public static void main(String[] args) {
        Edge.says("Not promised", "Nothing is promised beyond the answers and state changes described above");
        isWorn();
        building();
        buildingGear();
        byHand();
        carrying();
        clearing();
        stepping();
        onlyTelling();
        Check.end();
    }

    /** Of the WORKS AT HAND, and of the house, just what these words name may change ('*' is any number); of others nothing. */
    private static void changesJust(String built, String script, String mayChange) {
        Twins.sameButFor(new House(built).changes(), script, question -> {
            for (String some : mayChange.split(" ")) {
                if (question.matches(some.replace("(", "\\(").replace(")", "\\)").replace("*", "-?[0-9]*"))) {
                    return true;
                }
            }
            return false;
        });
    }

    /** So that what is lost by a call would be seen. */
    private static void isWorn() {
        House h = new House(WORN).is("count(3)", 1).is("count(8)", 10).is("count(4)", 2).is("rule(0,2)", 1).is("count(2)", 5);
        h.is("told(6,13)", 8).is("told(6,4)", 3).is("told(8,9)", 0).is("told(8,4)", 3).is("told(3,4)", 2).is("told(10,10)", 3);
        h.is("told(5,14)", 1).is("told(7,4)", 2).is("left(1)", 4).is("parcel(2,0)", 6).is("parcel(3,0)", 9);
        Check.due("the CROSS has waited", h.ask("told(8,3)") > 0 ? 1 : 0, 1);
        Check.due("there are FINDINGS", h.ask("count(6)") > 10 ? 1 : 0, 1);
        Check.due("there is a TRACE", h.ask("count(9)") > 10 ? 1 : 0, 1);
        h.is("parcel(4,0)", 3).is("parcel(5,0)", 7).then("works(1)").is("count(8)", 4).is("count(5)", 4);
    }

    private static void building() {
        changesJust(WORN, "gear(0,1)", "count(8) count(0) digest()");
        changesJust(WORN, "aim(8,1,5,true)", "count(8) aim(8,1,5,false)");
        changesJust(WORN, "aim(8,2,7,false)", "count(8) aim(8,2,7,false)");
        changesJust(WORN + " works(2)", "copy(0)", "count(8) count(0) count(4) count(11) digest() said(*)");
        changesJust(WORN, "type::1;", "count(10) load() count(4) said(*)");
        changesJust(WORN + " type::1;", "load()", "count(8) count(4) count(10) rule(*,*) said(*) load()");
        changesJust(WORN, "load()", "count(10) load()");
        changesJust(WORN, "plan(4,10,0,4,1)", "count(8) count(11)");
        changesJust(WORN, "plan(4,40,0,4,1)", "count(8) count(11)");
    }

    /** What is done to each GEAR; where it has PARCELS, or is of another KIND, that is refused and nothing changes. */
    private static void buildingGear() {
        for (int g = 0; g <= 10; g++) {
            changesJust(WORN, "links(" + g + ",2)", "count(8) told(g,15) linkOf(g,*)".replace("g,", g + ","));
            changesJust(WORN, "links(" + g + ",-1)", "count(8) told(g,15) linkOf(g,*)".replace("g,", g + ","));
            changesJust(WORN, "link(" + g + ",0,39)", "count(8) linkOf(g,0)".replace("g,", g + ","));
            changesJust(WORN, "rank(" + g + ",3)", "count(8) told(g,11) digest()".replace("g,", g + ","));
            String anew = "count(8) digest() told(g,*) tally(*,*) aim(g,*,*,false)".replace("g,", g + ",");
            changesJust(WORN, "refit(" + g + "," + new int[] {0, 6, 8, 7, 10, 9, 2, 3, 5, 1, 8}[g] + ")", anew);
        }
    }

    private static void byHand() {
        long next = new House(WORN).ask("count(13)") + 1;
        changesJust(WORN, "come(8,5,5)", "count(1) count(2) count(13) slot(8,0) told(8,5) told(8,9) digest() left("
                + next + ")");
        for (int p = 2; p <= 5; p++) {
            String row = "parcel(p,6) byteOf(p,*)".replace("p,", p + ",");
            changesJust(WORN, "label(" + p + ",3)", row);
            changesJust(WORN, "label(" + p + ",-1)", row);
            changesJust(WORN, "tag(" + p + ",0,99)", row);
            changesJust(WORN, "tag(" + p + ",1,99)", row);
            changesJust(WORN, "put(" + p + ",5,77)", "byteOf(" + p + ",5)");
        }
        for (int g = 0; g <= 10; g++) {
            changesJust(WORN, "door(" + g + ",false)", "told(" + g + ",2) digest()");
            changesJust(WORN, "turn(" + g + ",1)", "told(" + g + ",2) digest()");
            changesJust(WORN, "release(" + g + ",17)", "told(" + g + ",10) digest()");
        }
        for (int i = 0; i <= 3; i++) {
            changesJust(WORN, "group(" + i + ",0,8)", "tally(" + i + ",*)");
            changesJust(WORN, "enter(" + i + ",0,0)", "tally(" + i + ",*)");
        }
        changesJust(WORN, "works(1) works(0)", "-");
    }

    private static void carrying() {
        int[] from = {6, 9, 3, 7};
        for (int p = 2; p <= 5; p++) {
            for (int to : new int[] {0, 1, 8, 10}) {
                String may = "parcel(p,0) parcel(p,1) parcel(p,5) parcel(p,7) way(p,*) slot(f,*) slot(g,0) told(f,6) told(f,9) "
                        + "told(g,5) told(g,9) digest() tally(*,*)";
                changesJust(WORN, "carry(" + p + "," + to + ")", may.replace("p,", p + ",").replace("f,", from[p - 2] + ",")
                        .replace("g,", to + ","));
            }
        }
    }

    private static void clearing() {
        String built = "gear(0,1) gear(8,2) gear(0,1) gear(9,0) come(0,1,1) come(2,7,7) tag(1,0,1) step()*8 type:D=1"
                + " group(0,0,1) enter(0,0,2)";
        new House(built).is("jam(0)", 0).is("jam(1)", 2);
        changesJust(built, "clear(0)", "jam(0) parcel(1,0) parcel(1,4) parcel(1,5) way(1,*) slot(0,0) slot(1,0) told(0,3) "
                + "told(0,6) told(0,9) told(1,5) told(1,9) digest()");
    }

    /** Neither KIND, LENGTH, RANK, PACE, LINKS, SETS, RULES, PLANS, letters nor LABELS: just what is KEPT, and the TRACE. */
    private static void stepping() {
        StringBuilder may = new StringBuilder("count(1) count(3) count(5) count(6) count(8) count(9) digest() tally(*,*) jam(*)"
                + " slot(*,*) way(*,*) finding(*,*) out(*,*) trace(*) rule(*,2) left(*)");
        for (int what : new int[] {2, 3, 4, 5, 6, 7, 8, 9, 10, 13, 14}) {
            may.append(" told(*,").append(what).append(")");
        }
        for (int what : new int[] {0, 1, 4, 5, 7}) {
            may.append(" parcel(*,").append(what).append(")");
        }
        changesJust(WORN, "step()", may.toString());
        changesJust(WORN, "step()*15", may.toString());
        changesJust(WORN, "night(9,20)", may + " count(2) count(13)");
        changesJust(WORN, "back(3)", may + " count(2) parcel(*,*) byteOf(*,*)");
        changesJust(WORN, "back(10)", may + " count(2) parcel(*,*) byteOf(*,*)");
    }

    /** These change nothing at all, so all is asked for, what is done next, too. */
    private static void onlyTelling() {
        House h = new House(WORN);
        Twins.same(h.changes(), "tally(0,0) tally(0,1) tally(0,2)", question -> true);
        Twins.same(h.changes(), "told(0,0) slot(0,0) linkOf(0,0) parcel(3,0) way(3,0) byteOf(3,0) left(1) out(0,0) rule(0,0) "
                + "said(0) unused(0)", question -> true);
        Twins.same(h.changes(), "finding(0,0) trace(0) jam(0) far(0,3) reach(1) ring(0) audit() count(0) digest() status()",
                question -> true);
    }
}
