import java.util.Random;
import java.util.regex.Matcher;
import java.util.regex.Pattern;

/**
 * How texts of RULES are judged: all short ones of some letters, and many long ones with slips, as the machine of regular
 * expressions judges them, which tells where no more letters could make a text right.
 */
final class GrammarTest {
    private static final String NUMBER = "[0-9]{1,4}";
    private static final String A_TEST = "(?:[DWST][<=>]" + NUMBER + "|Q" + NUMBER + "[<=>]" + NUMBER + ")";
    /** Without the bounds of how many rules and tests there may be, and of the number behind ':'. */
    private static final Pattern RULES = Pattern.compile("(?:(?:" + A_TEST + "(?:," + A_TEST + ")*)?:" + NUMBER + ";)+");
    private static final Pattern TOLD = Pattern.compile(":([0-9]{1,4})");
    private static final int RULES_MOST = 12, TESTS_MOST = 4, TOLD_MOST = 39, DIGITS_MOST = 4, LETTERS_MOST = 200;
    private static final int CALLS_MOST = 512;
    private static final int RIGHT = -1;

    private SortWorks x = new SortWorks();
    private int calls;

    public static void main(String[] args) {
        GrammarTest test = new GrammarTest();
        Edge.part(3, "RULES are typed as letters: text: rule {rule}. rule: [test {',' test}] ':' number ';'.");
        Edge.part(3, "A text is judged from its first letter on: the first letter that can't come tells its place");
        test.allShort("D<4,:;", "", 6);
        test.allShort("Q=04,:;x", "", 5);
        test.allShort("049;:x", ":", 6);
        test.allShort("1,:;", "D<1,W<1,S<1,T<1", 5);
        test.allShort("1D:;", ":1;".repeat(11), 6);
        test.longOnes(new Random(3));
        Check.end();
    }

    // ---- what is due

    private static boolean canGoOn(String text) {
        Matcher m = RULES.matcher(text);
        return m.matches() || m.hitEnd();
    }

    /** The place where a text is no RULES, or RIGHT. */
    private static int wrongPlace(String text) {
        int good = 0;
        while (good < text.length() && canGoOn(text.substring(0, good + 1))) {
            good++;
        }
        boolean isWhole = good == text.length() && RULES.matcher(text).matches();
        int place = isWhole ? text.length() + 1 : good;
        place = Math.min(place, tooMany(text, good));
        Matcher told = TOLD.matcher(text.substring(0, good));
        while (told.find()) {
            boolean isJudged = told.group(1).length() == DIGITS_MOST || told.end() < text.length();
            if (isJudged && Integer.parseInt(told.group(1)) > TOLD_MOST) {
                place = Math.min(place, told.start(1));
            }
        }
        return place > text.length() ? RIGHT : place;
    }

    /** The first letter of the 13th rule or of a 5th test among the good ones, or that behind them. */
    private static int tooMany(String text, int good) {
        int rules = 0;
        int commas = 0;
        for (int i = 0; i < good; i++) {
            char c = text.charAt(i);
            commas = c == ',' ? commas + 1 : c == ';' ? 0 : commas;
            rules += c == ';' ? 1 : 0;
            boolean isMoreRules = c == ';' && rules == RULES_MOST && i + 1 < text.length();
            if (isMoreRules || commas == TESTS_MOST) {
                return i + 1;
            }
        }
        return Integer.MAX_VALUE;
    }

    // ---- what is answered

    private void judge(String text) {
        if (calls + text.length() + 3 > CALLS_MOST) {
            x = new SortWorks();
            calls = 0;
        }
        Check.type(x, text);
        int place = wrongPlace(text);
        long rules = text.chars().filter(c -> c == ';').count();
        long due = place == RIGHT ? rules : -100 - place;
        Check.due("load() of " + text, x.load(), due);
        Check.due("status() behind load() of " + text, x.status(), place == RIGHT ? 0 : due);
        calls += text.length() + 2;
    }

    private void allShort(String letters, String before, int most) {
        judge(before);
        if (most == 0) {
            return;
        }
        for (char c : letters.toCharArray()) {
            allShort(letters, before + c, most - 1);
        }
    }

    // ---- long ones

    private void longOnes(Random draw) {
        for (int i = 0; i < 6000; i++) {
            StringBuilder text = new StringBuilder(drawn(draw));
            for (int slips = i % 4; slips > 0; slips--) {
                slip(text, draw);
            }
            if (text.length() <= LETTERS_MOST) {
                judge(text.toString());
                isSaid(text.toString());
            }
        }
    }

    /** Right but for its bounds: up to 13 rules, 5 tests, numbers up to 43. */
    private static String drawn(Random draw) {
        StringBuilder text = new StringBuilder();
        int rules = 1 + draw.nextInt(draw.nextInt(4) == 0 ? 13 : 4);
        for (int k = 0; k < rules; k++) {
            int tests = draw.nextInt(draw.nextInt(6) == 0 ? 6 : 3);
            for (int t = 0; t < tests; t++) {
                char subject = "DWSTQ".charAt(draw.nextInt(5));
                text.append(t == 0 ? "" : ",").append(subject).append(subject == 'Q' ? number(draw, 9999) : "");
                text.append("<=>".charAt(draw.nextInt(3))).append(number(draw, 9999));
            }
            text.append(':').append(number(draw, draw.nextInt(9) == 0 ? 43 : 39)).append(';');
        }
        return text.toString();
    }

    private static String number(Random draw, int most) {
        String plain = "" + draw.nextInt(draw.nextInt(2) == 0 ? Math.min(most, 9) + 1 : most + 1);
        return "0".repeat(draw.nextInt(DIGITS_MOST + 1 - plain.length())) + plain;
    }

    private static void slip(StringBuilder text, Random draw) {
        int at = draw.nextInt(text.length());
        char c = draw.nextInt(3) == 0 ? (char) (33 + draw.nextInt(94)) : "DWSTQ<=>,:;0149".charAt(draw.nextInt(15));
        switch (draw.nextInt(4)) {
            case 0 -> text.insert(at, c);
            case 1 -> text.setCharAt(at, c);
            case 2 -> text.setLength(at + 1);
            default -> text.deleteCharAt(at).append(text.length() == 0 ? ":" : "");
        }
    }

    /** What was right is told, without zeros before its numbers. */
    private void isSaid(String text) {
        if (wrongPlace(text) != RIGHT) {
            return;
        }
        SortWorks fresh = new SortWorks();
        Check.load(fresh, text);
        String said = text.replaceAll("(?<![0-9])0+(?=[0-9])", "");
        Check.due("said() of " + text + " tells " + said, Check.said(fresh).equals(said) ? 1 : 0, 1);
    }
}
