/** The edges of part 3, RULES, each under the words of the document that name it. */
final class EdgeRulesTest {
    private static final int NONE = Edge.NONE;
    /** FAULTS as FINDINGS tell them. */
    private static final int NULL = 1, CAST = 2, INDEX = 3, ZERO = 6;
    private static final String DIGITS = "0123456789", SIGNS = "<=>", SUBJECTS = "DWSTQ";

    public static void main(String[] args) {
        lettersThatCanCome();
        manyRules();
        manyTests();
        fourDigits();
        numbersBehindColons();
        endsTooEarly();
        testsOfNumbers();
        lastOfFour();
        lastOfTwelve();
        upToTheFirst();
        quotientBounds();
        quotientZero();
        Edge.hasTested("Part ", 3, 3);
        Check.end();
    }

    // ---- how a text is judged

    private static void right(String text, int rules) {
        new House("load::5;", "type:" + text).does("load()", rules).is("count(4)", rules).is("count(10)", 0);
    }

    private static void wrong(String text, int place) {
        House h = new House("load::5;");
        if (!text.isEmpty()) {
            h.then("type:" + text);
        }
        h.is("load()", -100 - place).is("status()", -100 - place).is("count(4)", 1).is("said(1)", '5').is("count(10)", 0);
        h.is("count(7)", 0);
    }

    /** Behind these letters, of all 94 just those may come: then the place that is told is a later one. */
    private static void mayCome(String before, String letters) {
        for (char c = 33; c <= 126; c++) {
            House h = new House("type:" + before + c);
            long answer = h.ask("load()");
            boolean isTaken = answer > 0 || answer < -100 - before.length();
            Check.due("'" + c + "' behind " + before + " may come", isTaken ? 1 : 0, letters.indexOf(c) >= 0 ? 1 : 0);
            if (!isTaken) {
                Check.due("the place of '" + c + "' behind " + before, answer, -100 - before.length());
            }
        }
    }

    private static void lettersThatCanCome() {
        Edge.part(3, "RULES are typed as letters: text: rule {rule}. rule: [test {',' test}] ':' number ';'. test: ('D' | 'W' "
                + "| 'S' | 'T') sign number | 'Q' number sign number. sign: '<' | '=' | '>'.");
        Edge.part(3, "(No other letters. [x] is x or nothing, {x} any number of x, x | y one of both.)");
        Edge.part(3, "A text is judged from its first letter on: the first letter that can't come tells its place (from 0;");
        mayCome("", SUBJECTS + ":");
        mayCome(":1;", SUBJECTS + ":");
        mayCome(":1;:2;", SUBJECTS + ":");
        mayCome("D", SIGNS);
        mayCome("W", SIGNS);
        mayCome("S", SIGNS);
        mayCome("T", SIGNS);
        mayCome("Q", DIGITS);
        mayCome("Q1", DIGITS + SIGNS);
        mayCome("Q123", DIGITS + SIGNS);
        mayCome("Q1234", SIGNS);
        mayCome("D<", DIGITS);
        mayCome("Q1>", DIGITS);
        mayCome("D=1", DIGITS + ",:");
        mayCome("D=123", DIGITS + ",:");
        mayCome("D=1234", ",:");
        mayCome("Q1=1", DIGITS + ",:");
        mayCome("D=1,", SUBJECTS);
        mayCome("D=1,W=1,S=1,", SUBJECTS);
        mayCome("D=1,W=1,S=1,T=1", DIGITS + ",:");
        mayCome(":", DIGITS);
        mayCome("D=1:", DIGITS);
        mayCome(":0", DIGITS + ";");
        mayCome(":39", DIGITS + ";");
        mayCome(":0039", ";");
    }

    private static void manyRules() {
        Edge.part(3, "At most 12 rules, 4 tests in one;");
        right(":1;".repeat(11), 11);
        right(":1;".repeat(12), 12);
        right("D<1,W<1,S<1,T<1:1;".repeat(10) + ":1;:1;", 12);
        Edge.part(3, "the first letter of the 13th rule");
        wrong(":1;".repeat(13), 36);
        for (char c : (SUBJECTS + ":;x0").toCharArray()) {
            wrong(":1;".repeat(12) + c, 36);
        }
        wrong(":1;".repeat(11) + ":1;D<1:1;", 36);
        wrong(":1;".repeat(11) + ":40;:1;", 34);
        wrong("", 0);
    }

    private static void manyTests() {
        Edge.part(3, "of the 5th test");
        String four = "D<1,W<1,S<1,T<1";
        right(four + ":1;", 1);
        right(four + ":1;" + four + ":1;", 2);
        right("Q1<1,Q1<1,Q1<1,Q1<1:1;", 1);
        for (char c : (SUBJECTS + ":;,x0").toCharArray()) {
            wrong(four + "," + c, 16);
        }
        wrong(four + ",D<1:1;", 16);
        wrong("D<1:1;" + four + ",D<1:1;", 22);
        wrong(four + ",", 16);
        wrong(four + "<", 15);
        wrong(four + ";", 15);
    }

    private static void fourDigits() {
        Edge.part(3, "number: one to four digits.");
        right("D<0:0;", 1);
        right("D<9999:0;", 1);
        right("D<0000:0000;", 1);
        right("Q0<0:0;", 1);
        right("Q9999<9999:0039;", 1);
        wrong("D<:0;", 2);
        wrong("D<10000:0;", 6);
        wrong("D<00001:0;", 6);
        wrong("Q<1:0;", 1);
        wrong("Q10000<1:0;", 5);
        wrong("Q1<10000:0;", 7);
        wrong(":;", 1);
        wrong(":00000;", 5);
        wrong(":00001;", 5);
    }

    private static void numbersBehindColons() {
        Edge.part(3, "the number behind ':' is at most 39.");
        for (int n : new int[] {0, 1, 9, 10, 38, 39}) {
            right(":" + n + ";", 1);
            right(":" + String.format("%04d", n) + ";", 1);
            new House("load:D=1:" + n + ";").tells("rule(0,0)", n);
        }
        Edge.part(3, "and of a number above 39 behind ':' among these");
        for (int n : new int[] {40, 41, 99, 100, 390, 999, 1000, 3900, 9999}) {
            wrong(":" + n + ";", 1);
            wrong("D=1:" + n + ";", 4);
            wrong(":39;:" + n + ";", 5);
        }
        Edge.part(3, "(a number is judged when it has four digits, or a letter stands behind it that is no digit, ahead of "
                + "that;");
        for (String text : new String[] {"0040", "1000", "9999", "00400", "40x", "40:", "40,", "40D", "040;", "400<", "400!"}) {
            wrong(":" + text, 1);
        }
        for (String text : new String[] {"39x", "39:", "39,"}) {
            wrong(":" + text, 3);
        }
        wrong(":0039x", 5);
        wrong(":00390", 5);
        wrong(":039x", 4);
        Edge.part(3, "where the text ends behind fewer digits, its end is told).");
        wrong(":4", 2);
        wrong(":40", 3);
        wrong(":99", 3);
        wrong(":040", 4);
        wrong(":400", 4);
        wrong(":999", 4);
        wrong(":39;:400", 8);
        wrong(":0039", 5);
    }

    private static void endsTooEarly() {
        Edge.part(3, "the text's end, if it ends too early)");
        String text = "D<12,Q3=4:0039;Q39>9999,T=0:1;";
        for (int n = 0; n < text.length(); n++) {
            if (n == 15) {
                right(text.substring(0, n), 1);
            } else {
                wrong(text.substring(0, n), n);
            }
        }
        right(text, 2);
    }

    // ---- which RULES HOLD

    /** The TARGET of what SCANNER 0 reads at TIME 1: PLACE 50, WEIGHT 500, SIZE 5. */
    private static void target(String rules, int want) {
        House h = new House("gear(3,1) row:0> load:" + rules, "come(0,500,5) tag(1,0,50) step()");
        h.is("count(4)", rules.chars().filter(c -> c == ';').count()).is("parcel(1,4)", want).is("count(6)", 1);
    }

    private static void testsOfNumbers() {
        Edge.part(3, "D the PLACE, W the WEIGHT, S the SIZE that were read, T the TIME, Q k the QUOTIENT of GEAR k, is less "
                + "than (<), is (=), is more than (>) the number.");
        int[] values = {50, 500, 5, 1};
        for (int i = 0; i < 4; i++) {
            char subject = SUBJECTS.charAt(i);
            for (int than = values[i] - 1; than <= values[i] + 1; than++) {
                target(subject + "<" + than + ":7;", values[i] < than ? 7 : NONE);
                target(subject + "=" + than + ":7;", values[i] == than ? 7 : NONE);
                target(subject + ">" + than + ":7;", values[i] > than ? 7 : NONE);
            }
            target(subject + "<0:7;", NONE);
            target(subject + "<9999:7;", 7);
            target(subject + ">9999:7;", NONE);
            target(subject + ">0:7;", 7);
        }
        // HOLD 1 has LOAD 2 and one DOOR that is OPEN.
        for (int than = 1; than <= 3; than++) {
            for (int s = 0; s < 3; s++) {
                House h = new House("gear(3,1) gear(8,2) gear(9,0) row:0>1 row:1>2 door(2,true) come(0,1,1) step()*3 "
                        + "come(0,1,1)");
                h.then("step()*2").tells("told(1,9)", 2).then("load:Q1" + SIGNS.charAt(s) + than + ":7;");
                h.then("come(0,1,1) tag(3,0,0) step()");
                h.tells("parcel(3,4)", (s == 0 ? 2 < than : s == 1 ? 2 == than : 2 > than) ? 7 : NONE);
            }
        }
        Edge.part(3, "[x] is x or nothing");
        target(":39;", 39);
        target(":0;", 0);
    }

    private static void lastOfFour() {
        Edge.part(3, "4 tests in one;");
        target("D=50,W=500,S=5,T=1:7;:8;", 7);
        target("D=50,W=500,S=5,T=2:7;:8;", 8);
        target("D=50,W=500,S=6,T=1:7;:8;", 8);
        target("D=50,W=501,S=5,T=1:7;:8;", 8);
        target("D=51,W=500,S=5,T=1:7;:8;", 8);
        // Nothing is left of tests that were there before.
        House h = new House("gear(3,1) row:0> load:D=51,D=51,D=51,D=51:1;D=51,D=51,D=51,D=51:2; load:D=50:7;D=50,W=500:6;");
        h.then("come(0,500,5) tag(1,0,50) step()").tells("parcel(1,4)", 7).tells("rule(0,1)", 1).tells("rule(1,1)", 2);
        h.then("load:D=51,D=51:1;:9; load::4; gear(0,1) carry(1,1) carry(1,0) step()").tells("parcel(1,4)", 4);
    }

    private static void lastOfTwelve() {
        Edge.part(3, "At most 12 rules");
        target("D=0:1;".repeat(11) + "D=50:39;", 39);
        target("D=0:1;".repeat(11) + "D=51:39;", NONE);
        target("D=0:1;".repeat(10) + "D=50:8;D=50:39;", 8);
        target("D=0:1;".repeat(11) + "D=50,W=500,S=5,T=1:39;", 39);
        target("D=0:1;".repeat(11) + "D=50,W=500,S=5,T=2:39;", NONE);
        House h = new House("gear(3,1) row:0> load:" + "D=0:1;".repeat(11) + ":2;", "come(0,1,1) tag(1,0,1) step()");
        h.tells("rule(11,2)", 1).tells("rule(10,2)", 0).tells("unused(10)", 10).tells("unused(11)", NONE);
    }

    private static void upToTheFirst() {
        Edge.part(3, "A RULE HOLDS for what was read, if its tests, in order, up to the first that is not so, are");
        target("D=51,Q40=1:7;:8;", 8);
        target("D=50,W=1,Q40=1:7;:8;", 8);
        House h = new House("gear(3,1) row:0> load:D=50,Q40=1,D=51:7;Q39=1:6;:8; come(0,500,5) tag(1,0,50) step()");
        h.tells("parcel(1,4)", 8).isRow("finding", 2, 1, 0, 3, INDEX, 0).isRow("finding", 1, 1, 0, 3, NULL, 1)
                .tells("count(6)", 3);
        h.tells("rule(0,2)", 0).tells("rule(1,2)", 0).tells("rule(2,2)", 1);
    }

    /** RULE 0 of SCANNER 0 comes to that FAULT by the QUOTIENT of GEAR k. */
    private static void quotient(String built, String k, int fault) {
        House h = new House("gear(3,1) row:0>", built, "load:Q" + k + "=0:7;:8; come(0,1,1) tag(1,0,0) step()");
        h.tells("parcel(1,4)", fault == 0 ? 7 : 8).tells("rule(0,2)", fault == 0 ? 1 : 0);
        // The ROW of the SCANNER itself is too short: its FINDING comes next.
        h.is("told(0,7)", fault == 0 ? 1 : 2);
        for (int i = 0; fault != 0 && i < 40; i++) {
            if (h.ask("finding(" + i + ",2)") == 3) {
                h.isRow("finding", i, 1, 0, 3, fault, 0);
                return;
            }
        }
        Check.due("a FINDING of a RULE", fault, 0);
    }

    private static void quotientBounds() {
        Edge.part(3, "QUOTIENT: INDEX: k is above 39; NULL: there is no GEAR k; CAST: it is no CHUTE;");
        String door = "gear(9,0) door(1,true) ";
        quotient(door, "40", INDEX);
        quotient(door, "41", INDEX);
        quotient(door, "9999", INDEX);
        quotient(door, "0040", INDEX);
        quotient(door, "39", NULL);
        quotient(door, "2", NULL);
        quotient(door, "0", CAST);
        quotient(door, "0000", CAST);
        quotient(door, "1", CAST);
        for (int kind = 0; kind <= 10; kind++) {
            quotient(door + "gear(" + kind + ",1) row:2>1", "2", kind == 7 || kind == 8 ? 0 : CAST);
        }
        quotient(door + "gear(9,0)*37 gear(8,1) row:39>1", "39", 0);
        quotient(door + "gear(9,0)*36 gear(8,1) row:38>1", "39", NULL);
    }

    private static void quotientZero() {
        Edge.part(3, "its LOAD / how many of its LINKS lead to a DOOR that is OPEN (others, and NOTHING, count 0): ZERO.");
        String built = "gear(9,0) gear(7,1) gear(9,0) gear(10,0) links(4,0) door(3,true) ";
        quotient(built, "2", ZERO);
        quotient(built + "links(2,0)", "2", ZERO);
        quotient(built + "links(2,3)", "2", ZERO);
        quotient(built + "row:2>1,1,1", "2", ZERO);
        quotient(built + "row:2>0,2,4", "2", ZERO);
        quotient(built + "row:2>39,5,-1", "2", ZERO);
        quotient(built + "row:2>3", "2", 0);
        quotient(built + "row:2>39,-1,3", "2", 0);
        quotient(built + "row:2>1,0,3", "2", 0);
        House zero = new House("gear(9,0) gear(3,1) gear(8,1) row:1> row:2>0 load:Q2=0:7;:8; door(0,true) come(1,1,1) "
                + "tag(1,0,0)");
        zero.then("step()").tells("parcel(1,4)", 7).tells("count(6)", 1);
        quotient("gear(9,0) gear(8,1)", "2", ZERO);
        quotient("gear(9,0) gear(8,1) row:2>1", "2", ZERO);
    }
}
