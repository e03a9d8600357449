import java.util.Random;
import java.util.regex.Matcher;
import java.util.regex.Pattern;

/**
 * The place at which a text is WRONG, found without reading it word by word: the right rules are one
 * pattern, and the first sign that does not fit is the one behind the longest beginning of a right rule.
 */
public final class LoanRulesGrammar extends Checks {
    private static final int TEXTS = 300000;
    private static final String N = " [0-9]{1,3}";
    private static final Pattern RULE = Pattern.compile(
        "(kind [0-9] )?(type [0-9] )?(person [0-4]?[0-9] )?"
        + "(lend (term|[0-9]{1,3})( renew" + N + ")?( gap" + N + ")?( recall" + N + ")?|refuse|fail)"
        + "( rank" + N + ")?");
    private static final String[] WORDS = {"kind", "type", "person", "lend", "term", "refuse", "fail", "renew",
        "gap", "recall", "rank"};
    private static final String SIGNS = " abcdefghijklmnopqrstuvwxyzAXZ0123456789.\0\u00ff";

    private final Random random = new Random(1719);

    private static boolean isRule(String text) {
        return RULE.matcher(text).matches();
    }

    private static boolean beginsRule(String text) {
        Matcher matcher = RULE.matcher(text);
        return matcher.matches() || matcher.hitEnd();
    }

    private static boolean isLetter(char sign) {
        return (sign >= 'a' && sign <= 'z') || (sign >= 'A' && sign <= 'Z');
    }

    private static boolean isDigit(char sign) {
        return sign >= '0' && sign <= '9';
    }

    private static int firstUnfit(String text) {
        int place = 0;
        while (place < text.length() && beginsRule(text.substring(0, place + 1))) {
            place++;
        }
        return place;
    }

    /** Where the letters, or the digits, that end just before a place begin. */
    private static int runStart(String text, int end, boolean ofLetters) {
        int start = end;
        while (start > 0 && (ofLetters ? isLetter(text.charAt(start - 1)) : isDigit(text.charAt(start - 1)))) {
            start--;
        }
        return start;
    }

    private static int wrongPlace(String text) {
        int unfit = firstUnfit(text);
        String before = text.substring(0, unfit);
        char sign = unfit < text.length() ? text.charAt(unfit) : '\n';
        if (sign == ' ' && isRule(before)) {
            // Only behind a rank does no space fit; README.md says why it is not the wrong sign itself.
            return unfit + 1;
        }
        boolean wordIsWhole = isRule(before) || beginsRule(before + " ");
        if (isLetter(sign) || !wordIsWhole) {
            return runStart(text, unfit, true);
        }
        return isDigit(sign) ? runStart(text, unfit, false) : unfit;
    }

    private String anyWords() {
        StringBuilder text = new StringBuilder();
        int words = 1 + random.nextInt(7);
        for (int i = 0; i < words; i++) {
            text.append(i == 0 ? "" : " ");
            if (random.nextBoolean()) {
                text.append(WORDS[random.nextInt(WORDS.length)]);
            } else {
                text.append(random.nextInt(random.nextBoolean() ? 60 : 1200));
            }
        }
        return text.toString();
    }

    private String maybe(String before, int below, String behind) {
        return random.nextBoolean() ? before + random.nextInt(below) + behind : "";
    }

    private String nearlyRule() {
        String conditions = maybe("kind ", 11, " ") + maybe("type ", 11, " ") + maybe("person ", 55, " ");
        String rank = maybe(" rank ", 1050, "");
        switch (random.nextInt(4)) {
            case 0:
                return conditions + "refuse" + rank;
            case 1:
                return conditions + "fail" + rank;
            default:
                String length = random.nextBoolean() ? "term" : "" + random.nextInt(1050);
                return conditions + "lend " + length + maybe(" renew ", 1050, "") + maybe(" gap ", 1050, "")
                    + maybe(" recall ", 1050, "") + rank;
        }
    }

    private String changed(String text) {
        StringBuilder signs = new StringBuilder(text);
        for (int changes = random.nextInt(4); changes > 0; changes--) {
            char sign = SIGNS.charAt(random.nextInt(SIGNS.length()));
            int at = random.nextInt(signs.length() + 1);
            switch (random.nextInt(4)) {
                case 0:
                    signs.insert(at, sign);
                    break;
                case 1:
                    signs.setLength(at);
                    break;
                case 2:
                    signs.replace(at, Math.min(at + 1, signs.length()), "" + sign);
                    break;
                default:
                    signs.delete(at, Math.min(at + 1, signs.length()));
            }
        }
        return signs.toString();
    }

    private void compare() {
        for (int i = 0; i < TEXTS; i++) {
            String text = changed(random.nextInt(3) == 0 ? anyWords() : nearlyRule());
            int want = isRule(text) ? 0 : -1 - wrongPlace(text);
            due("the rule '" + text + "'", tell(new LoanRules(), text), want);
        }
    }

    public static void main(String[] args) {
        new LoanRulesGrammar().compare();
        end(TEXTS + " texts are as due");
    }
}
