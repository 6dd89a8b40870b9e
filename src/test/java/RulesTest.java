/** Part 3 of the terms: how texts are judged (promise 11), and RULES as they are asked and told (37 to 39). */
final class RulesTest {
    private static final int UNREAD = -8, NONE = -9;
    private static final int NULL = 1, CAST = 2, INDEX = 3, ZERO = 6;

    public static void main(String[] args) {
        rightTexts();
        wrongLetters();
        endsTooEarly();
        numbersBehindColons();
        tooManyRules();
        tooManyTests();
        wholeRow();
        ruleTold();
        said();
        signs();
        subjects();
        firstThatHolds();
        testsInOrder();
        quotient();
        quotientFaults();
        unused();
        Check.end();
    }

    private static void right(String text, int rules, String told) {
        SortWorks x = new SortWorks();
        Check.about("text " + text);
        Check.due("load()", Check.load(x, text), rules);
        Check.due("status()", x.status(), 0);
        Check.due("said() is " + Check.said(x), Check.said(x).equals(told) ? 1 : 0, 1);
        Check.due("said(" + told.length() + ")", x.said(told.length()), NONE);
    }

    private static void wrong(String text, int place) {
        SortWorks x = new SortWorks();
        Check.about("text " + text);
        Check.load(x, ":7;");
        Check.refused(x, "load()", Check.load(x, text), -100 - place);
        Check.due("count(10)", x.count(10), 0);
        Check.due("said(1), the RULES stay", x.said(1), '7');
        Check.due("count(4)", x.count(4), 1);
        Check.due("count(7)", x.count(7), 0);
    }

    private static void rightTexts() {
        right(":0;", 1, ":0;");
        right(":39;", 1, ":39;");
        right(":0039;", 1, ":39;");
        right(":0000;", 1, ":0;");
        right("D<1:2;", 1, "D<1:2;");
        right("D=0009,W>9999,S<010:05;", 1, "D=9,W>9999,S<10:5;");
        right("T=1000:1;", 1, "T=1000:1;");
        right("Q7=3:1;Q0039>0000:1;", 2, "Q7=3:1;Q39>0:1;");
        right("Q9999=1:1;", 1, "Q9999=1:1;");
        right("D<1,D<1,D<1,D<1:1;", 1, "D<1,D<1,D<1,D<1:1;");
        right(":1;".repeat(12), 12, ":1;".repeat(12));
        right(":1;D=100:20;:30;", 3, ":1;D=100:20;:30;");
    }

    private static void wrongLetters() {
        wrong("x:1;", 0);
        wrong("d=1:1;", 0);
        wrong(";", 0);
        wrong(",", 0);
        wrong("1", 0);
        wrong("=1", 0);
        wrong("D:1;", 1);
        wrong("D1=1:1;", 1);
        wrong("DD=1:1;", 1);
        wrong("D==1:1;", 2);
        wrong("D=:1;", 2);
        wrong("D=x:1;", 2);
        wrong("D=-1:1;", 2);
        wrong("D=1;", 3);
        wrong("D=1D=1:1;", 3);
        wrong("D=1,:1;", 4);
        wrong("D=1,,D=1:1;", 4);
        wrong("D=12345:1;", 6);
        wrong("Q=1:1;", 1);
        wrong("Q:1;", 1);
        wrong("Q1:1;", 2);
        wrong("Q12345=1:1;", 5);
        wrong("Q1=Q:1;", 3);
        wrong(":;", 1);
        wrong("::1;", 1);
        wrong(":1:", 2);
        wrong(":1,", 2);
        wrong(":1;;", 3);
        wrong(":1;:2;x", 6);
        wrong(":00391;", 5);
    }

    private static void endsTooEarly() {
        wrong("D", 1);
        wrong("D=", 2);
        wrong("D=1", 3);
        wrong("D=1234", 6);
        wrong("D=1,", 4);
        wrong("D=1:", 4);
        wrong("Q", 1);
        wrong("Q1", 2);
        wrong("Q1=", 3);
        wrong(":", 1);
        wrong(":1", 2);
        wrong(":0001", 5);
        wrong(":1;:2", 5);
        wrong(":1;D", 4);
    }

    private static void numbersBehindColons() {
        wrong(":40;", 1);
        wrong("D=1:40;", 4);
        wrong(":1;:99;", 4);
        wrong(":40x", 1);
        wrong(":40:", 1);
        wrong(":4", 2);
        wrong(":40", 3);
        wrong(":400", 4);
        wrong(":4000", 1);
        wrong(":40000", 1);
        wrong(":0040", 1);
        wrong(":0040;", 1);
        wrong(":040", 4);
        wrong(":040;", 1);
        wrong(":9999", 1);
        wrong(":39", 3);
        wrong(":39x", 3);
        wrong(":0039", 5);
        wrong(":0039x", 5);
    }

    private static void tooManyRules() {
        wrong(":1;".repeat(12) + ":1;", 36);
        wrong(":1;".repeat(12) + "x", 36);
        wrong(":1;".repeat(12) + "D", 36);
        wrong(":1;".repeat(11) + ":1", 35);
    }

    private static void tooManyTests() {
        String four = "D<1,W<1,S<1,T<1";
        wrong(four + ",D<1:1;", 16);
        wrong(four + ",", 16);
        wrong(four + ",:1;", 16);
        wrong(four + ",x", 16);
        wrong(":1;" + four + ",Q1=1:1;", 19);
        wrong(four + "x", 15);
        wrong(four, 15);
        wrong(four + ":40;", 16);
    }

    private static void wholeRow() {
        String long1 = "Q1234=1234,Q1234=1234,Q1234=1234,Q1234=1234:1234;";
        SortWorks x = new SortWorks();
        Check.about("200 letters");
        String text = ("Q1234=1234,Q1234=1234,Q1234=1234,Q1234=1234:0009;").repeat(4) + ":09;";
        Check.due("its length", text.length(), 200);
        Check.due("load()", Check.load(x, text), 5);
        Check.due("rule(3, 1)", x.rule(3, 1), 4);
        Check.due("rule(4, 0)", x.rule(4, 0), 9);
        wrong(long1, 44);
    }

    private static void ruleTold() {
        SortWorks x = new SortWorks();
        Check.about("promise 37");
        Check.due("rule(0, 0)", x.rule(0, 0), NONE);
        Check.load(x, "D=1,W=2,S=3:04;:39;T>1:0;");
        int[][] want = {{4, 3, 0}, {39, 0, 0}, {0, 1, 0}};
        for (int k = 0; k < 3; k++) {
            for (int what = 0; what < 3; what++) {
                Check.due("rule(" + k + ", " + what + ")", x.rule(k, what), want[k][what]);
            }
        }
        Check.due("rule(3, 0)", x.rule(3, 0), NONE);
        Check.due("rule(-1, 0)", x.rule(-1, 0), NONE);
        Check.due("rule(0, 3)", x.rule(0, 3), NONE);
        Check.due("rule(0, -1)", x.rule(0, -1), NONE);
        Check.load(x, ":5;");
        Check.due("rule(1, 0)", x.rule(1, 0), NONE);
        Check.due("rule(0, 1)", x.rule(0, 1), 0);
        x.works(1);
        Check.due("rule(0, 0) of another WORKS", x.rule(0, 0), NONE);
    }

    private static void said() {
        SortWorks x = new SortWorks();
        Check.about("promise 38");
        Check.due("said(0)", x.said(0), NONE);
        Check.load(x, "Q07<0100:009;");
        String want = "Q7<100:9;";
        for (int i = 0; i < want.length(); i++) {
            Check.due("said(" + i + ")", x.said(i), want.charAt(i));
        }
        Check.due("said(9)", x.said(9), NONE);
        Check.due("said(-1)", x.said(-1), NONE);
        Check.load(x, ":1;");
        Check.due("said(3)", x.said(3), NONE);
        x.letter('D');
        Check.due("said(0), letters that are typed are no RULES yet", x.said(0), ':');
    }

    /** The TARGET that the RULES give a PARCEL of that WEIGHT, SIZE and PLACE in the first STEP. */
    private static int target(String rules, int weight, int size, int place) {
        SortWorks x = new SortWorks();
        x.gear(3, 1);
        Check.due("load() of " + rules, Check.load(x, rules) > 0 ? 1 : 0, 1);
        x.come(0, weight, size);
        x.tag(1, 0, place);
        x.step();
        return x.parcel(1, 4);
    }

    private static void signs() {
        Check.about("signs");
        for (int place = 49; place <= 51; place++) {
            Check.due("D<50", target("D<50:1;", 1, 1, place), place < 50 ? 1 : NONE);
            Check.due("D=50", target("D=50:1;", 1, 1, place), place == 50 ? 1 : NONE);
            Check.due("D>50", target("D>50:1;", 1, 1, place), place > 50 ? 1 : NONE);
        }
    }

    private static void subjects() {
        Check.about("what is tested");
        Check.due("D", target("D=34:1;:2;", 567, 8, 34), 1);
        Check.due("W", target("W=567:1;:2;", 567, 8, 34), 1);
        Check.due("S", target("S=8:1;:2;", 567, 8, 34), 1);
        Check.due("T", target("T=1:1;:2;", 567, 8, 34), 1);
        Check.due("T", target("T>1:1;:2;", 567, 8, 34), 2);
        Check.due("W and D differ", target("W=34:1;D=8:3;S=34:4;:2;", 567, 8, 34), 2);
        Check.about("what was read, not what it is");
        SortWorks x = new SortWorks();
        x.gear(3, 1);
        Check.load(x, "W>9999,S=255,D=255:5;");
        x.come(0, 1, 1);
        x.label(1, 6);
        int[] bytes = {66, 255, 255, 255, 255, (7 * 255 + 5 * 255 + 3 * 255 + 255) % 97};
        for (int i = 0; i < 6; i++) {
            x.put(1, i, bytes[i]);
        }
        x.step();
        Check.due("parcel(1, 4)", x.parcel(1, 4), 5);
    }

    private static void firstThatHolds() {
        Check.about("the first that HOLDS");
        Check.due("two", target(":1;:2;", 1, 1, 1), 1);
        Check.due("second", target("D=9:1;:2;:3;", 1, 1, 1), 2);
        Check.due("none", target("D=9:1;D=8:2;", 1, 1, 1), NONE);
        Check.due("without RULES", new SortWorks().count(4), 0);
        SortWorks x = new SortWorks();
        x.gear(3, 1);
        x.come(0, 1, 1);
        x.tag(1, 1, 1);
        x.step();
        Check.due("parcel(1, 4) without RULES", x.parcel(1, 4), NONE);
        Check.due("parcel(1, 7)", x.parcel(1, 7), 1);
    }

    private static void testsInOrder() {
        Check.about("tests, in order, up to the first that is not so");
        SortWorks x = new SortWorks();
        x.gear(3, 1);
        Check.load(x, "D=2,Q40=1:1;D=1,Q40=1:2;Q40=1,D=2:3;D=1,W=1,S=1:4;");
        x.come(0, 1, 1);
        x.tag(1, 0, 1);
        x.step();
        Check.due("parcel(1, 4)", x.parcel(1, 4), 4);
        Check.due("count(6), the GIVEN one too", x.count(6), 3);
        int[][] want = {{1, 0, 1, NULL, 1}, {1, 0, 3, INDEX, 2}, {1, 0, 3, INDEX, 1}};
        for (int i = 0; i < 3; i++) {
            for (int what = 0; what < 5; what++) {
                Check.due("finding(" + i + ", " + what + ")", x.finding(i, what), want[i][what]);
            }
        }
        Check.due("told(0, 7)", x.told(0, 7), 3);
        Check.due("rule(3, 2)", x.rule(3, 2), 1);
        Check.about("tests of RULES that were loaded before");
        SortWorks y = new SortWorks();
        y.gear(3, 1);
        Check.load(y, "D=9,D=9,D=9,D=9:1;D=9,D=9,D=9,D=9:2;");
        Check.load(y, "D=1:3;D=1,W=1:4;");
        y.come(0, 1, 1);
        y.tag(1, 0, 1);
        y.step();
        Check.due("parcel(1, 4)", y.parcel(1, 4), 3);
        Check.due("rule(1, 1)", y.rule(1, 1), 2);
    }

    /** CHUTE 1 of LENGTH 3 and HOLD 2 fill up; DOORS 3, 4, 5. */
    private static SortWorks loaded(String rules) {
        SortWorks x = new SortWorks();
        x.gear(3, 1);
        x.gear(7, 3);
        x.gear(8, 1);
        for (int g = 3; g <= 5; g++) {
            x.gear(9, 0);
        }
        Check.links(x, 0, 1);
        Check.load(x, ":1;");
        for (int p = 1; p <= 3; p++) {
            x.come(0, p, p);
            x.tag(p, 0, 1);
            Check.steps(x, 3);
        }
        Check.due("told(1, 9)", x.told(1, 9), 3);
        Check.load(x, rules);
        return x;
    }

    private static int read(SortWorks x) {
        int parcel = x.come(0, 9, 9);
        x.tag(parcel, 1, 9);
        x.step();
        return x.parcel(parcel, 4);
    }

    private static void quotient() {
        Check.about("QUOTIENT");
        SortWorks x = loaded("Q1=1:1;Q1=3:3;Q1=0:4;:9;");
        Check.links(x, 1, 3, 4, 3);
        x.door(4, true);
        x.links(0, 0);
        int findings = x.count(6);
        Check.due("3 / 1", read(x), 3);
        Check.due("count(6), LINK 0 lacks", x.count(6), findings + 1);
        SortWorks y = loaded("Q1=1:5;Q1=0:4;:9;");
        Check.links(y, 1, 3, 4, 3);
        y.door(3, true);
        Check.due("3 / 2, a DOOR counts by LINKS", read(y), 5);
        SortWorks z = loaded("Q1=1:5;:9;");
        Check.links(z, 1, 3, 4, 5);
        z.door(3, true);
        z.door(4, true);
        z.door(5, true);
        Check.due("3 / 3", read(z), 5);
        Check.about("QUOTIENT of a HOLD, and of LINKS that lead to no DOOR");
        SortWorks h = loaded("Q2=0:6;:9;");
        Check.links(h, 2, -1, 39, 5);
        h.door(5, true);
        Check.due("0 / 1", read(h), 6);
        Check.about("QUOTIENT by DOOR 0");
        SortWorks d = new SortWorks();
        d.gear(9, 0);
        d.gear(3, 1);
        d.gear(8, 1);
        Check.links(d, 2, 0);
        Check.load(d, "Q2=0:6;:9;");
        d.door(0, true);
        d.come(1, 1, 1);
        d.tag(1, 1, 1);
        d.step();
        Check.due("parcel(1, 4)", d.parcel(1, 4), 6);
        Check.due("finding(0, 2), just the LINK that lacks", d.finding(0, 2), 1);
        Check.due("count(6)", d.count(6), 1);
    }

    private static void quotientFaults() {
        String[] rules = {"Q40=1:1;:9;", "Q9999=1:1;:9;", "Q39=1:1;:9;", "Q6=1:1;:9;", "Q0=1:1;:9;", "Q3=1:1;:9;",
            "Q1=1:1;:9;", "Q2=1:1;:9;"};
        int[] faults = {INDEX, INDEX, NULL, NULL, CAST, CAST, ZERO, ZERO};
        for (int i = 0; i < rules.length; i++) {
            Check.about("QUOTIENT, " + rules[i]);
            SortWorks x = loaded(rules[i]);
            x.links(0, 1);
            int before = x.count(6);
            Check.due("TARGET, a RULE with a FAULT does not hold", read(x), 9);
            Check.due("count(6)", x.count(6) - before, 3);
            Check.due("finding(2, 1), the SCANNER's", x.finding(2, 1), 0);
            Check.due("finding(2, 2)", x.finding(2, 2), 3);
            Check.due("finding(2, 3)", x.finding(2, 3), faults[i]);
            Check.due("finding(2, 4)", x.finding(2, 4), 0);
            Check.due("finding(1, 2), it is GIVEN all the same", x.finding(1, 2), 1);
            Check.due("told(0, 4)", x.told(0, 4), 3);
        }
        Check.about("QUOTIENT, ZERO");
        SortWorks x = loaded("Q1=1:1;Q2=0:2;:9;");
        Check.links(x, 1, 3, 0, -1);
        x.links(2, 0);
        int before = x.count(6);
        Check.due("closed DOORS and others count 0", read(x), 9);
        Check.due("finding", x.finding(x.count(6) - before - 1, 3), ZERO);
        Check.due("finding", x.finding(x.count(6) - before - 2, 3), ZERO);
        Check.due("finding", x.finding(x.count(6) - before - 2, 4), 1);
    }

    private static void unused() {
        Check.about("promise 39");
        SortWorks x = new SortWorks();
        Check.due("unused(0)", x.unused(0), NONE);
        x.gear(3, 1);
        Check.load(x, "D=1:1;D=2:2;D=3:3;");
        for (int i = 0; i < 3; i++) {
            Check.due("unused(" + i + ")", x.unused(i), i);
        }
        Check.due("unused(3)", x.unused(3), NONE);
        Check.due("unused(-1)", x.unused(-1), NONE);
        x.come(0, 1, 1);
        x.tag(1, 0, 2);
        x.step();
        Check.due("rule(1, 2)", x.rule(1, 2), 1);
        Check.due("unused(0)", x.unused(0), 0);
        Check.due("unused(1)", x.unused(1), 2);
        Check.due("unused(2)", x.unused(2), NONE);
        x.step();
        Check.due("rule(1, 2), just once", x.rule(1, 2), 1);
        x.label(1, -1);
        x.works(1);
        x.copy(0);
        Check.due("rule(1, 2) of a copy", x.rule(1, 2), 0);
        x.works(0);
        Check.due("load()", Check.load(x, "D=1:1;D=2:2;"), 2);
        Check.due("rule(1, 2) behind load()", x.rule(1, 2), 0);
        Check.due("UNREAD", SortWorks.UNREAD, UNREAD);
    }
}
