/** The boundary cases that the document's "Terms" name: a method for each sentence, which stands above it. */
public final class LoanRulesTermsEdges extends Checks {
    private static final int[] NO_PERSONS_OR_ITEMS = {-1, 50, 51, 100, Integer.MIN_VALUE, Integer.MAX_VALUE};
    private static final int[] NO_DAYS = {-1, -9999, 10000, 10001, 65536, Integer.MIN_VALUE, Integer.MAX_VALUE};

    /** "DAYS are 0 .. 9999" */
    private static void daysAreTo9999() {
        for (int day : new int[] {0, 1, 9998, 9999}) {
            LoanRules x = with("lend 0 renew 1 recall 0");
            due("term " + day, x.term(day), 1);
            due("lend on " + day, lend(x, 0, 0, day), 1);
            due("due on " + day, x.due(1), day);
            due("renewed on " + day, x.renew(1, day), 1);
            due("recalled on " + day, x.recall(1, day), day);
            due("closed " + day, x.closed(day, true), false);
            due("was closed " + day, x.closed(day, false), true);
        }
        for (int day : NO_DAYS) {
            LoanRules x = with("lend 0 renew 1 recall 0");
            due("lend", lend(x, 0, 0, 5), 1);
            due("no term " + day, x.term(day), 0);
            due("no lending on " + day, lend(x, 0, 1, day), 0);
            due("no renewal on " + day, x.renew(1, day), 0);
            due("no recall on " + day, x.recall(1, day), 0);
            x.closed(day, true);
            due("never closed " + day, x.closed(day, true), false);
        }
    }

    /** "each open or CLOSED" */
    private static void eachDayIsOpenOrClosed() {
        for (int day = 0; day < 9999; day++) {
            LoanRules x = with("lend 0");
            x.closed(day, true);
            due("lend", lend(x, 0, 0, day), 1);
            due("closed " + day, x.due(1), day + 1);
            due("lend", lend(x, 0, 1, day + 1), 2);
            due("open behind " + day, x.due(2), day + 1);
        }
    }

    /** "some are ends of TERMS" */
    private static void anyDayMayEndATerm() {
        for (int day = 0; day < 9999; day++) {
            LoanRules x = with("lend term");
            x.term(day);
            due("lend", lend(x, 0, 0, day), 1);
            due("the end of the term", x.due(1), day);
            due("behind " + day, lend(x, 0, 1, day + 1), -101);
            due("lend", lend(x, 0, 2, 0), 2);
            due("from day 0", x.due(2), day);
        }
        LoanRules many = with("lend term");
        for (int day = 60; day < 200; day++) {
            many.term(day);
        }
        for (int i = 0; i < 50; i++) {
            due("lend", lend(many, 0, i, 60 + 2 * i), i + 1);
            due("an end every day", many.due(i + 1), 60 + 2 * i);
        }
    }

    /** "PERSONS are 0 .. 49" */
    private static void personsAreTo49() {
        for (int person = 0; person < 50; person++) {
            LoanRules x = with("person " + person + " lend 1");
            due("kind of " + person, x.row(0, person, 9), 1);
            due("block " + person, x.block(person, 1), 0);
            due("unblock " + person, x.block(person, 0), 1);
            due("except " + person, x.except(person, 0, -1), 1);
            due("lend to " + person, lend(x, person, 0, 0), 1);
            due("not to another", lend(x, (person + 1) % 50, 1, 0), -100);
        }
        for (int person : NO_PERSONS_OR_ITEMS) {
            LoanRules x = with("lend 1");
            due("no kind of " + person, x.row(0, person, 1), 0);
            due("no block of " + person, x.block(person, 1), NONE);
            due("no exception of " + person, x.except(person, 0, 9999), 0);
            due("no loan to " + person, lend(x, person, 0, 0), 0);
        }
    }

    /** "ITEMS are 0 .. 49" */
    private static void itemsAreTo49() {
        LoanRules x = with("lend 1");
        for (int item = 0; item < 50; item++) {
            due("type of " + item, x.row(1, item, 9), 1);
            due("lend " + item, lend(x, 0, item, 0), item + 1);
            due("it is out " + item, lend(x, 1, item, 0), 0);
        }
        for (int item : NO_PERSONS_OR_ITEMS) {
            due("no type of " + item, x.row(1, item, 1), 0);
            due("no item " + item, lend(x, 0, item, 0), 0);
        }
    }

    /** "each of a KIND, 0 .. 9 (0 at first)" */
    private static void kindsAreTo9() {
        for (int kind = 0; kind < 10; kind++) {
            LoanRules x = with("kind " + kind + " lend 1");
            due("kind 0 at first", lend(x, 49, 0, 0), kind == 0 ? 1 : -100);
            for (int other = 0; other < 10; other++) {
                due("kind " + other, x.row(0, 7, other), 1);
                due("rule of kind " + kind, lend(x, 7, 10 + other, 0) > 0, kind == other);
            }
            due("no kind -1", x.row(0, 7, -1), 0);
            due("no kind 10", x.row(0, 7, 10), 0);
            due("still of kind 9", lend(x, 7, 30, 0) > 0, kind == 9);
        }
    }

    /** "each of a TYPE, 0 .. 9 (0 at first)" */
    private static void typesAreTo9() {
        for (int type = 0; type < 10; type++) {
            LoanRules x = with("type " + type + " lend 1");
            due("type 0 at first", lend(x, 0, 49, 0), type == 0 ? 1 : -100);
            for (int other = 0; other < 10; other++) {
                due("type " + other, x.row(1, 10 + other, other), 1);
                due("rule of type " + type, lend(x, 0, 10 + other, 0) > 0, type == other);
            }
            due("type 9", x.row(1, 30, 9), 1);
            due("no type -1", x.row(1, 30, -1), 0);
            due("no type 10", x.row(1, 30, 10), 0);
            due("still of type 9", lend(x, 0, 30, 0) > 0, type == 9);
        }
    }

    /** "A RULE, 0 .. 39 in the order in which they are told" */
    private static void rulesAreTo39() {
        LoanRules x = new LoanRules();
        for (int rule = 0; rule < 40; rule++) {
            due("no rule " + rule + " yet", x.except(0, rule, -1), 0);
            due("rule " + rule, tell(x, "fail"), rule);
            due("there is rule " + rule, x.except(0, rule, -1), 1);
            due("never " + rule, x.never(rule), rule);
        }
        due("no rule 40", tell(x, "fail"), -200);
        due("no rule 40", x.except(0, 40, -1), 0);
        due("no rule 40", x.never(40), NONE);
        due("the first of all", lend(x, 0, 0, 0), -1);
        due("the last one fitted", x.explain(39), 39);
        due("no more fitted", x.explain(40), NONE);
    }

    /** "words with one space between" */
    private static void oneSpaceBetween() {
        String[] right = {
            "kind 1 type 2 person 3 lend 4 renew 5 gap 6 recall 7 rank 8",
            "kind 1 type 2 person 3 lend term renew 5 gap 6 recall 7 rank 8",
            "type 2 refuse rank 8", "person 3 fail rank 8"};
        for (String text : right) {
            rightRule(text);
            wrongAt(0, " " + text);
            for (int i = 0; i < text.length(); i++) {
                if (text.charAt(i) == ' ') {
                    // Without the space two words become one, that can't be there.
                    boolean joins = Character.isLetter(text.charAt(i - 1)) && Character.isLetter(text.charAt(i + 1));
                    wrongAt(joins ? text.lastIndexOf(' ', i - 1) + 1 : i, text.substring(0, i) + text.substring(i + 1));
                    wrongAt(i + 1, text.substring(0, i) + " " + text.substring(i));
                    wrongAt(i, text.substring(0, i) + "\t" + text.substring(i + 1));
                    wrongAt(i, text.substring(0, i) + "\u00a0" + text.substring(i + 1));
                }
            }
        }
        for (String text : new String[] {"lend 5", "lend term", "refuse", "fail", "lend 5 gap 1", "lend 5 recall 1"}) {
            wrongAt(text.length() + 1, text + " ");
            wrongAt(text.length() + 1, text + "  ");
        }
    }

    private static String joined(String[] parts, int set) {
        StringBuilder text = new StringBuilder();
        for (int i = 0; i < parts.length; i++) {
            if ((set >> i & 1) != 0) {
                text.append(parts[i]).append(' ');
            }
        }
        return text.toString();
    }

    /** "CONDITIONS, of these in this order what there is: kind K, type T, person P" */
    private static void conditionsInTheirOrder() {
        String[] conditions = {"kind 1", "type 2", "person 3"};
        for (int set = 0; set < 8; set++) {
            for (String deed : new String[] {"lend 5", "lend term", "refuse", "fail"}) {
                rightRule(joined(conditions, set) + deed);
            }
        }
        for (int first = 0; first < 3; first++) {
            for (int second = 0; second <= first; second++) {
                wrongAt(conditions[first].length() + 1, conditions[first] + " " + conditions[second] + " lend 5");
            }
        }
        for (String condition : conditions) {
            wrongAt(7, "lend 5 " + condition);
            wrongAt(7, "refuse " + condition);
            wrongAt(condition.length(), condition);
            wrongAt(condition.length() + 1, condition + " ");
        }
    }

    /** "then what it does: lend N (days), or lend term, or refuse, or fail" */
    private static void oneDeed() {
        for (String before : new String[] {"", "kind 1 ", "type 2 ", "person 3 "}) {
            wrongAt(before.length(), before);
            for (String word : new String[] {"term", "renew 1", "gap 1", "recall 1", "rank 1", "5", "lends 5"}) {
                wrongAt(before.length(), before + word);
            }
            wrongAt(before.length() + 4, before + "lend");
            wrongAt(before.length() + 5, before + "lend ");
            wrongAt(before.length() + 5, before + "lend refuse");
        }
        for (String deed : new String[] {"lend 5", "lend term", "refuse", "fail"}) {
            for (String more : new String[] {"lend 5", "lend term", "term", "refuse", "fail", "5"}) {
                wrongAt(deed.length() + 1, deed + " " + more);
            }
        }
    }

    /** "then, if it lends, of these in this order what there is: renew N .., gap N .., recall N .." */
    private static void optionsInTheirOrder() {
        String[] options = {"renew 1", "gap 2", "recall 3"};
        for (int set = 0; set < 8; set++) {
            for (String deed : new String[] {"lend 5 ", "lend term "}) {
                rightRule((deed + joined(options, set)).trim());
                rightRule(deed + joined(options, set) + "rank 4");
            }
        }
        for (int first = 0; first < 3; first++) {
            for (int second = 0; second <= first; second++) {
                wrongAt(8 + options[first].length(), "lend 5 " + options[first] + " " + options[second]);
                wrongAt(11 + options[first].length(), "lend term " + options[first] + " " + options[second]);
            }
            wrongAt(7, "refuse " + options[first]);
            wrongAt(5, "fail " + options[first]);
        }
    }

    /** "renew N (how often, 0 without it)" */
    private static void renewHowOften() {
        String[] texts = {"lend 5", "lend 5 renew 0", "lend 5 renew 1", "lend 5 renew 2", "lend 5 renew 100"};
        int[] often = {0, 0, 1, 2, 100};
        for (int i = 0; i < texts.length; i++) {
            LoanRules x = with(texts[i]);
            due("lend", lend(x, 0, 0, 10), 1);
            for (int n = 1; n <= often[i]; n++) {
                due(texts[i] + ": renewal " + n, x.renew(1, 10 + n), 1);
                due(texts[i] + ": due", x.due(1), 15 + n);
            }
            due(texts[i] + ": no more", x.renew(1, 200), -1);
        }
    }

    /** "gap N (days at least from one renewal, or the lending, to the next renewal, 0 without it)" */
    private static void gapAtLeast() {
        String[] texts = {"lend 5 renew 9", "lend 5 renew 9 gap 0", "lend 5 renew 9 gap 1", "lend 5 renew 9 gap 999"};
        int[] gaps = {0, 0, 1, 999};
        for (int i = 0; i < texts.length; i++) {
            LoanRules x = with(texts[i]);
            due("lend", lend(x, 0, 0, 10), 1);
            int latest = 10;
            for (int n = 0; n < 4; n++) {
                due(texts[i] + ": a day too early", x.renew(1, latest + gaps[i] - 1), -2);
                due(texts[i] + ": just long enough", x.renew(1, latest + gaps[i]), 1);
                latest += gaps[i];
            }
        }
    }

    /** "recall N (days, 7 without it)" */
    private static void recallDays() {
        String[] texts = {"lend 999", "lend 999 recall 0", "lend 999 recall 1", "lend 999 recall 7", "lend 999 recall 998"};
        int[] days = {7, 0, 1, 7, 998};
        for (int i = 0; i < texts.length; i++) {
            LoanRules x = with(texts[i]);
            due("lend", lend(x, 0, 0, 10), 1);
            due(texts[i], x.recall(1, 10), 10 + days[i]);
        }
    }

    /** "then, in each case, rank N (0 without it), if there is one" */
    private static void rankInEachCase() {
        for (String deed : new String[] {"lend 5", "lend term", "refuse", "fail", "lend 5 renew 1", "lend term recall 2"}) {
            rightRule(deed + " rank 0");
            rightRule(deed + " rank 999");
            wrongAt(deed.length() + 5, deed + " rank");
            wrongAt(deed.length() + 6, deed + " rank ");
            wrongAt(deed.length() + 8, deed + " rank 1 rank 2");
            for (String option : new String[] {"renew 1", "gap 2", "recall 3", "kind 1", "refuse"}) {
                wrongAt(deed.length() + 8, deed + " rank 1 " + option);
            }
        }
        wrongAt(0, "rank 1 lend 5");
        LoanRules x = with("lend 1", "lend 2 rank 0", "kind 1 lend 3 rank 1");
        due("lend", lend(x, 0, 0, 0), 1);
        due("0 without it: the first", x.due(1), 1);
        due("0 without it: a clash", x.clash(0, 1), 1);
        x.row(0, 0, 1);
        due("lend", lend(x, 0, 1, 0), 2);
        due("1 is above it", x.due(2), 3);
    }

    /** "K, T are one digit" */
    private static void kindAndTypeAreOneDigit() {
        for (String word : new String[] {"kind ", "type "}) {
            for (int digit = 0; digit < 10; digit++) {
                rightRule(word + digit + " fail");
            }
            for (String none : new String[] {"", " ", "x", "-1", "+1", "fail", "/", ":", "\u00b2"}) {
                wrongAt(5, word + none + " fail");
            }
            for (String many : new String[] {"00", "01", "10", "99", "123", "0000000000", "4294967297"}) {
                wrongAt(5, word + many + " fail");
                wrongAt(5, word + many);
            }
            wrongAt(6, word + "1. fail");
        }
    }

    /** "P 1 or 2 digits, 0 .. 49" */
    private static void personIsOneOrTwoDigits() {
        for (int person = 0; person < 100; person++) {
            if (person < 50) {
                rightRule("person " + person + " fail");
            } else {
                wrongAt(7, "person " + person + " fail");
            }
        }
        for (int person = 0; person < 10; person++) {
            LoanRules x = with("person 0" + person + " fail");
            due("person 0" + person, lend(x, person, 0, 0), -1);
        }
        for (String many : new String[] {"000", "001", "010", "049", "100", "499", "4294967297"}) {
            wrongAt(7, "person " + many + " fail");
        }
        for (String none : new String[] {"", " ", "x", "-1", "+1", "fail"}) {
            wrongAt(7, "person " + none + " fail");
        }
        wrongAt(8, "person 1x fail");
        wrongAt(9, "person 12x fail");
    }

    /** "N 1 to 3 digits" */
    private static void numbersAreOneToThreeDigits() {
        for (String before : new String[] {"lend ", "lend 5 renew ", "lend 5 gap ", "lend 5 recall ", "lend 5 rank ",
            "lend term renew ", "lend term gap ", "lend term recall ", "refuse rank ", "fail rank "}) {
            for (String number : new String[] {"0", "00", "000", "1", "01", "001", "9", "10", "99", "100", "999"}) {
                rightRule(before + number);
            }
            for (String number : new String[] {"0000", "0001", "1000", "9999", "00000000000", "4294967297",
                "", "-1", "+1", "x", " 1", "/", ":"}) {
                wrongAt(before.length(), before + number);
            }
            wrongAt(before.length() + 1, before + "1x");
            wrongAt(before.length() + 3, before + "123x");
            wrongAt(before.length(), before + "1234x");
        }
    }

    /** "N 1 to 3 digits": what they say. */
    private static void numbersAreRead() {
        String[] numbers = {"0", "00", "007", "70", "070", "700", "999"};
        int[] values = {0, 0, 7, 70, 70, 700, 999};
        for (int i = 0; i < numbers.length; i++) {
            LoanRules x = with("lend " + numbers[i] + " recall " + numbers[i]);
            due("lend", lend(x, 0, 0, 100), 1);
            due("lend " + numbers[i], x.due(1), 100 + values[i]);
            due("recall " + numbers[i], x.recall(1, 50), 50 + values[i]);
        }
    }

    /** "WRONG is the first sign that does not fit, or the end, told by its place" */
    private static void wrongSignOrEnd() {
        String text = "kind 1 type 2 person 3 lend 4 renew 5 gap 6 recall 7 rank 8";
        for (int length = 0; length < text.length(); length++) {
            String cut = text.substring(0, length);
            boolean ended = cut.endsWith(" ") || cut.isEmpty() || !Character.isLetter(cut.charAt(length - 1));
            boolean whole = !ended && text.charAt(length) == ' ';
            boolean isRule = length >= 29 && Character.isDigit(cut.charAt(length - 1));
            if (isRule) {
                rightRule(cut);
            } else {
                wrongAt(ended || whole ? length : cut.lastIndexOf(' ') + 1, cut);
            }
        }
        for (int sign = 0; sign < 256; sign++) {
            if (sign != ' ' && (sign < '0' || sign > '9')) {
                wrongAt(6, "lend 5" + (char) sign);
                wrongAt(6, "kind 1" + (char) sign + "lend 5");
                wrongAt(5, "kind " + (char) sign + " lend 5");
            }
        }
        wrongAt(5, "lend 1000 rank 5000");
        wrongAt(5, "kind 11 type 22 lenx");
    }

    /** "a word that can't be there at its first sign" */
    private static void wrongWord() {
        String[] words = {"kind", "type", "person", "lend", "term", "refuse", "fail", "renew", "gap", "recall", "rank"};
        for (String word : words) {
            for (String other : new String[] {word + "s", "x" + word, word.substring(1), word.toUpperCase(), word + word}) {
                wrongAt(0, other + " 1");
                wrongAt(7, "kind 1 " + other + " 1");
                wrongAt(7, "lend 5 " + other + " 1");
                wrongAt(5, "lend " + other);
                wrongAt(7, "refuse " + other + " 1");
            }
        }
        String[] right = {"kind 1 type 2 person 3 lend 4 renew 5 gap 6 recall 7 rank 8", "lend term", "refuse", "fail"};
        for (String text : right) {
            for (int i = 0; i < text.length(); i++) {
                if (Character.isLetter(text.charAt(i))) {
                    wrongAt(text.lastIndexOf(' ', i) + 1, text.substring(0, i) + "x" + text.substring(i + 1));
                    wrongAt(text.lastIndexOf(' ', i) + 1, text.substring(0, i) + text.substring(i + 1));
                    wrongAt(text.lastIndexOf(' ', i) + 1, text.substring(0, i) + "x" + text.substring(i));
                }
            }
        }
    }

    /** "a number with too many digits, or too great, at its first digit" */
    private static void wrongNumber() {
        wrongAt(5, "kind 12 type 123 person 99 lend 1000");
        wrongAt(12, "kind 1 type 123 person 99 lend 1000");
        wrongAt(21, "kind 1 type 2 person 99 lend 1000");
        wrongAt(29, "kind 1 type 2 person 49 lend 1000 renew 1000");
        wrongAt(39, "kind 1 type 2 person 49 lend 999 renew 1000 gap 1000");
        wrongAt(47, "kind 1 type 2 person 49 lend 999 renew 999 gap 1000 recall 1000");
        wrongAt(58, "kind 1 type 2 person 49 lend 999 renew 999 gap 999 recall 1000 rank 1000");
        wrongAt(67, "kind 1 type 2 person 49 lend 999 renew 999 gap 999 recall 999 rank 1000");
    }

    /** "A rule FITS a loan if all its CONDITIONS hold" */
    private static void fitsIfAllHold() {
        LoanRules x = with("kind 1 type 2 person 3 lend 1");
        for (int person : new int[] {3, 4}) {
            for (int kind : new int[] {0, 1, 2, 3}) {
                for (int type : new int[] {0, 1, 2, 3}) {
                    x.row(0, person, kind);
                    x.row(1, 0, type);
                    int loan = lend(x, person, 0, 0);
                    due("fits " + person + " " + kind + " " + type, loan > 0, person == 3 && kind == 1 && type == 2);
                    x.back(loan);
                }
            }
        }
    }

    /** "THE RULE of a loan is the one that fits of the highest rank, of several the first" */
    private static void highestRankThenFirst() {
        LoanRules x = with("lend 1 rank 998", "lend 2 rank 999", "lend 3 rank 999", "kind 1 lend 4 rank 999", "lend 5");
        due("lend", lend(x, 0, 0, 0), 1);
        due("the first of rank 999", x.due(1), 2);
        due("by ranks, then numbers", x.explain(0) * 1000 + x.explain(1) * 100 + x.explain(2) * 10 + x.explain(3), 1204);
        LoanRules y = with("kind 1 lend 1 rank 999", "lend 2 rank 9", "lend 3 rank 10", "lend 4 rank 100", "lend 5 rank 99");
        due("lend", lend(y, 0, 0, 0), 1);
        due("ranks are numbers", y.due(1), 4);
    }

    /** "if there are several of that rank, that is a CLASH: the first two of them" */
    private static void clashOfTheFirstTwo() {
        LoanRules x = with("lend 1 rank 4", "lend 2 rank 5", "lend 3 rank 4", "kind 1 lend 4 rank 6", "lend 5 rank 5",
            "lend 6 rank 5");
        due("lend", lend(x, 0, 0, 0), 1);
        due("the first", x.clash(0, 0), 1);
        due("the second", x.clash(0, 1), 4);
        due("no other", x.clash(1, 0), NONE);
        x.row(0, 0, 1);
        due("lend", lend(x, 0, 1, 0), 2);
        due("one of the highest rank is none", x.clash(1, 0), NONE);
    }

    /** "A rule is MET when it is THE RULE of a loan that is asked for" */
    private static void metWhenTheRule() {
        LoanRules x = with("lend 1", "lend 2", "kind 1 refuse rank 1", "kind 2 fail rank 1", "kind 3 lend term rank 1");
        due("none is met", x.never(0), 0);
        due("lend", lend(x, 0, 0, 0), 1);
        due("a clashing one is not met", x.never(0), 1);
        for (int kind = 1; kind <= 3; kind++) {
            due("not met", x.never(1), 1 + kind);
            x.row(0, 0, kind);
            lend(x, 0, 1, 0);
            due("met", x.never(1), kind == 3 ? NONE : 2 + kind);
        }
        due("never met", x.never(0), 1);
    }

    /** "THE DUE DAY of N days from a day: that day and N" */
    private static void dueDayOfDays() {
        for (int days : new int[] {0, 1, 63, 64, 65, 998, 999}) {
            LoanRules x = with("lend " + days);
            due("lend", lend(x, 0, 0, 0), 1);
            due("from day 0", x.due(1), days);
            due("to the last day", lend(x, 0, 1, 9999 - days), 2);
            due("to the last day", x.due(2), 9999);
            due("a day beyond", lend(x, 0, 2, 10000 - days), days == 0 ? 0 : -101);
        }
    }

    /** "of a term: the first end of a TERM that is not before the day" */
    private static void dueDayOfATerm() {
        LoanRules x = with("lend term");
        for (int end : new int[] {500, 100, 101, 9999, 0}) {
            due("term", x.term(end), 1);
        }
        int[] days = {0, 1, 99, 100, 101, 102, 500, 501, 9998, 9999};
        int[] ends = {0, 100, 100, 100, 101, 500, 500, 9999, 9999, 9999};
        for (int i = 0; i < days.length; i++) {
            due("lend", lend(x, 0, i, days[i]), i + 1);
            due("the first end not before " + days[i], x.due(i + 1), ends[i]);
        }
        due("a term behind the lending changes no due day", x.term(50), 1);
        due("a term behind the lending changes no due day", x.due(2), 100);
    }

    /** "A due day that is CLOSED becomes the next open day" */
    private static void closedBecomesTheNextOpen() {
        LoanRules x = with("lend 10 renew 9 recall 10", "type 1 lend term rank 1");
        for (int day = 20; day < 90; day++) {
            x.closed(day, true);
        }
        x.row(1, 1, 1);
        due("term", x.term(19) + x.term(89) + x.term(95), 3);
        due("lend", lend(x, 0, 0, 9), 1);
        due("ahead of the closed days", x.due(1), 19);
        due("renewed", x.renew(1, 10), 1);
        due("the first closed day", x.due(1), 90);
        due("lend", lend(x, 0, 1, 20), 2);
        due("a term's end, closed: the next open day, not the next end", x.due(2), 90);
        due("lend", lend(x, 0, 2, 80), 3);
        due("the first open day", x.due(3), 90);
        due("renewed", x.renew(3, 85), 1);
        due("later", x.due(3), 95);
        due("recalled", x.recall(3, 79), 90);
        due("lending on a closed day", lend(x, 0, 3, 50), 4);
    }

    /** "A due day that is CLOSED becomes the next open day": from each day ahead of, in and behind a long closing. */
    private static void nextOpenBehindALongClosing() {
        LoanRules x = with("lend 0");
        for (int day = 60; day <= 260; day++) {
            x.closed(day, true);
        }
        for (int open : new int[] {64, 127, 192}) {
            due("open " + open, x.closed(open, false), true);
        }
        int[] days = {59, 60, 63, 64, 65, 126, 127, 128, 129, 190, 191, 192, 193, 255, 256, 259, 260, 261};
        int[] dueDays = {59, 64, 64, 64, 127, 127, 127, 192, 192, 192, 192, 192, 261, 261, 261, 261, 261, 261};
        for (int i = 0; i < days.length; i++) {
            due("lend", lend(x, 0, i, days[i]), i + 1);
            due("the next open day from " + days[i], x.due(i + 1), dueDays[i]);
        }
    }

    /** "If there is no such day to 9999: none" */
    private static void noneBehind9999() {
        LoanRules x = with("lend 10 renew 9 recall 10", "type 1 lend term rank 1");
        x.row(1, 1, 1);
        due("no term at all", lend(x, 0, 1, 0), -101);
        due("term", x.term(9990), 1);
        due("behind the last term", lend(x, 0, 1, 9991), -101);
        for (int day = 9990; day <= 9999; day++) {
            x.closed(day, true);
        }
        due("a term's end, closed to the last day", lend(x, 0, 1, 9990), -101);
        due("closed to the last day", lend(x, 0, 0, 9980), -101);
        due("lend", lend(x, 0, 0, 9979), 1);
        due("the last open day", x.due(1), 9989);
        due("no renewal", x.renew(1, 9980), -4);
        due("no recall", x.recall(1, 9980), -4);
        x.closed(9999, false);
        due("renewal", x.renew(1, 9980), 1);
        due("the last day", x.due(1), 9999);
        due("beyond the last day", x.renew(1, 9990), -4);
        due("beyond the last day", x.recall(1, 9990), -4);
        due("to the last day", x.recall(1, 9989), 9999);
    }

    public static void main(String[] args) {
        daysAreTo9999();
        eachDayIsOpenOrClosed();
        anyDayMayEndATerm();
        personsAreTo49();
        itemsAreTo49();
        kindsAreTo9();
        typesAreTo9();
        rulesAreTo39();
        oneSpaceBetween();
        conditionsInTheirOrder();
        oneDeed();
        optionsInTheirOrder();
        renewHowOften();
        gapAtLeast();
        recallDays();
        rankInEachCase();
        kindAndTypeAreOneDigit();
        personIsOneOrTwoDigits();
        numbersAreOneToThreeDigits();
        numbersAreRead();
        wrongSignOrEnd();
        wrongWord();
        wrongNumber();
        fitsIfAllHold();
        highestRankThenFirst();
        clashOfTheFirstTwo();
        metWhenTheRule();
        dueDayOfDays();
        dueDayOfATerm();
        closedBecomesTheNextOpen();
        nextOpenBehindALongClosing();
        noneBehind9999();
        end("all edges of the terms hold");
    }
}
