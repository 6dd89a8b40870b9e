/** Part 2 of the terms: how a LABEL is READ. */
final class LabelTest {
    private static final int UNREAD = -8;
    private static final int NULL = 1, INDEX = 3, READ = 0, BAD = -1;

    public static void main(String[] args) {
        formA();
        formB();
        others();
        whatIsBehind();
        Check.end();
    }

    /** Reads a LABEL (null: NOTHING) of a PARCEL of WEIGHT 123 and SIZE 4: READ, BAD or the FAULT. */
    private static void reads(int want, int... bytes) {
        SortWorks x = new SortWorks();
        Check.about("LABEL " + java.util.Arrays.toString(bytes));
        x.gear(3, 1);
        Check.links(x, 0, 0);
        Check.load(x, "D=12,W=123,S=4:7;D=200,W=513,S=3:8;:9;");
        x.come(0, 123, 4);
        x.label(1, bytes == null ? -1 : bytes.length);
        for (int i = 0; bytes != null && i < bytes.length; i++) {
            x.put(1, i, bytes[i]);
        }
        x.step();
        Check.due("parcel(1, 4) is UNREAD", x.parcel(1, 4) == UNREAD ? 1 : 0, want == READ ? 0 : 1);
        Check.due("count(6)", x.count(6), want > 0 ? 1 : 0);
        if (want > 0) {
            Check.due("finding(0, 2)", x.finding(0, 2), 2);
            Check.due("finding(0, 3)", x.finding(0, 3), want);
            Check.due("finding(0, 4)", x.finding(0, 4), 1);
        }
        Check.due("parcel(1, 7)", x.parcel(1, 7), 1);
        if (want == READ) {
            int form = bytes == null ? 0 : bytes[0];
            Check.due("parcel(1, 4), all was read as it is told", x.parcel(1, 4), form == 65 ? 7 : form == 66 ? 8 : 0);
        }
    }

    private static void formA() {
        // 3 * 1 + 2 + 3 * 1 + 2 + 3 * 3 + 4 = 23: 7 is the CHECK.
        reads(READ, 'A', '1', '2', '1', '2', '3', '4', '7');
        for (int check = '0'; check <= '9'; check++) {
            if (check != '7') {
                reads(BAD, 'A', '1', '2', '1', '2', '3', '4', check);
            }
        }
        reads(BAD, 'A', '2', '1', '1', '2', '3', '4', '7');
        reads(BAD, 'A', '1', '2', '1', '3', '2', '4', '7');
        int[] whole = {'A', '1', '2', '1', '2', '3', '4', '7'};
        for (int n = 1; n < 8; n++) {
            reads(INDEX, java.util.Arrays.copyOf(whole, n));
        }
        int[] noDigits = {0, 47, 58, 65, 255, 128 + '1'};
        for (int i = 1; i < 8; i++) {
            for (int b : noDigits) {
                int[] bytes = whole.clone();
                bytes[i] = b;
                reads(BAD, bytes);
                reads(BAD, java.util.Arrays.copyOf(bytes, i + 1));
            }
        }
    }

    private static void formB() {
        // 7 * 200 + 5 * 2 + 3 * 1 + 3 = 1416 = 14 * 97 + 58; the WEIGHT is 513.
        reads(READ, 66, 200, 2, 1, 3, 58);
        reads(BAD, 66, 200, 2, 1, 3, 57);
        reads(BAD, 66, 200, 2, 1, 3, 59);
        reads(BAD, 66, 200, 2, 1, 3, 58 + 97);
        reads(BAD, 66, 200, 1, 2, 3, 58);
        reads(BAD, 66, 201, 2, 1, 3, 58);
        reads(BAD, 66, 200, 2, 1, 4, 58);
        int[] whole = {66, 200, 2, 1, 3, 58};
        for (int n = 1; n < 6; n++) {
            reads(INDEX, java.util.Arrays.copyOf(whole, n));
        }
        reads(INDEX, 66, 0, 0, 0, 0);
    }

    private static void others() {
        reads(NULL, (int[]) null);
        reads(INDEX);
        reads(BAD, 0);
        reads(BAD, 64, 1, 2, 3, 4, 5, 6, 7);
        reads(BAD, 67);
        reads(BAD, 'a', '1', '2', '1', '2', '3', '4', '7');
        reads(BAD, 65 + 128, '1', '2', '1', '2', '3', '4', '7');
    }

    private static void whatIsBehind() {
        reads(READ, 'A', '1', '2', '1', '2', '3', '4', '7', 0, 255, 'x', '9');
        reads(READ, 66, 200, 2, 1, 3, 58, 1, 2, 3, 4, 5, 6);
    }
}
