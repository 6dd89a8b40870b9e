/** What the project's tests share: counting wrong answers, typing rules, building common layouts. */
final class Check {
    private static int asked = 0;
    private static int wrong = 0;
    private static String part = "";

    private Check() {
    }

    /** Names what the next rows are about, so that a wrong one can be found. */
    static void about(String what) {
        part = what;
    }

    static void due(String call, long got, long want) {
        asked++;
        if (got != want) {
            wrong++;
            System.out.println(part + ": " + call + " answered " + got + ", due is " + want);
        }
    }

    /** A call that is refused or meets a FAULT: its answer, its status, and how many FAULTS it may have made. */
    static void refused(SortWorks x, String call, long got, long want) {
        due(call, got, want);
        due(call + ", then status()", x.status(), want);
    }

    static void type(SortWorks x, String text) {
        for (int i = 0; i < text.length(); i++) {
            x.letter(text.charAt(i));
        }
    }

    static int load(SortWorks x, String text) {
        type(x, text);
        return x.load();
    }

    static String said(SortWorks x) {
        StringBuilder text = new StringBuilder();
        int letter = x.said(0);
        for (int i = 1; i <= 201 && letter != SortWorks.NONE; i++) {
            text.append((char) letter);
            letter = x.said(i);
        }
        return text.toString();
    }

    static void links(SortWorks x, int gear, int... to) {
        x.links(gear, to.length);
        for (int k = 0; k < to.length; k++) {
            x.link(gear, k, to[k]);
        }
    }

    /** SCANNER 0, CHUTE 1 and DOOR 2, which is OPEN: what can be read is OUT in the second STEP behind its coming. */
    static void buildSorter(SortWorks x) {
        x.gear(3, 1);
        x.gear(7, 1);
        x.gear(9, 0);
        links(x, 0, 1);
        links(x, 1, 2);
        load(x, ":1;");
        x.door(2, true);
    }

    static void steps(SortWorks x, int n) {
        for (int i = 0; i < n; i++) {
            x.step();
        }
    }

    /** Ends the test: with exit code 1 if an answer was wrong, or if nothing was asked. */
    static void end() {
        System.out.println(asked + " answers asked for, " + wrong + " wrong");
        if (wrong != 0 || asked == 0) {
            System.exit(1);
        }
    }
}
