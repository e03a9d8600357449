import java.util.ArrayList;
import java.util.Comparator;
import java.util.HashMap;
import java.util.LinkedHashSet;
import java.util.List;
import java.util.Map;
import java.util.Random;
import java.util.TreeSet;

/** Runs of up to 512 calls from a fixed seed, against a second and plainer writing of the document. */
public final class LoanRulesAgainstModel {
    private static final int RUNS = 4000;
    private static final int CALLS = 512;
    private static final long THROWN = Long.MIN_VALUE;
    private static final int[] EDGES = {Integer.MIN_VALUE, -10000, -1, 0, 1, 9, 10, 39, 40, 49, 50, 200, 201,
        9999, 10000, Integer.MAX_VALUE};
    private static final String[] WORDS = {"kind", "type", "person", "lend", "term", "refuse", "fail", "renew",
        "gap", "recall", "rank", "x", "", "5", "12", "050", "1000"};

    /** Stages of a rule: a word may come if its stage is behind the one before it. */
    private static final List<String> STAGES =
        List.of("kind", "type", "person", "DEED", "renew", "gap", "recall", "rank");

    private static final class ModelRule {
        final Map<String, Integer> numbers = new HashMap<>();
        String deed;
        boolean met;
        boolean through;

        int number(String name, int without) {
            return numbers.getOrDefault(name, without);
        }
    }

    private static final class ModelLoan {
        int person;
        int item;
        ModelRule rule;
        int day;
        int due;
        int renewals;
        boolean recalled;
        boolean back;
    }

    private static final class Model {
        final StringBuilder text = new StringBuilder();
        final List<ModelRule> rules = new ArrayList<>();
        final TreeSet<Integer> closed = new TreeSet<>();
        final TreeSet<Integer> terms = new TreeSet<>();
        final Map<Integer, Integer> kinds = new HashMap<>();
        final Map<Integer, Integer> types = new HashMap<>();
        final Map<Integer, Integer> causes = new HashMap<>();
        final Map<String, Integer> exceptions = new HashMap<>();
        final List<ModelLoan> loans = new ArrayList<>();
        List<Integer> fitted = new ArrayList<>();
        final LinkedHashSet<List<Integer>> clashes = new LinkedHashSet<>();

        static boolean in(int v, int below) {
            return v >= 0 && v < below;
        }

        void sign(int c) {
            if (text.length() < 120) {
                text.append((char) (c & 0xff));
            }
        }

        int rule() {
            String t = text.toString();
            text.setLength(0);
            ModelRule r = new ModelRule();
            int wrong = wrongPlace(t, r);
            if (wrong >= 0) {
                return -1 - wrong;
            }
            if (rules.size() == 40) {
                return -200;
            }
            rules.add(r);
            return rules.size() - 1;
        }

        /** Part by part of the text, split at its spaces; -1 if all is right. */
        static int wrongPlace(String t, ModelRule r) {
            String[] words = t.split(" ", -1);
            int place = 0;
            int stage = -1;
            for (int w = 0; w < words.length; w++) {
                String word = letters(words[w]);
                boolean deed = word.equals("lend") || word.equals("refuse") || word.equals("fail");
                int mine = STAGES.indexOf(deed ? "DEED" : word);
                boolean early = mine < 4;
                boolean optionOfLending = mine >= 4 && mine <= 6;
                if (mine <= stage || word.equals("DEED") || (!early && r.deed == null)
                        || (optionOfLending && !r.deed.startsWith("lend"))) {
                    return place;
                }
                stage = mine;
                place += word.length();
                if (words[w].length() > word.length()) {
                    return place;
                }
                if (deed) {
                    r.deed = word;
                }
                if (!word.equals("refuse") && !word.equals("fail")) {
                    w++;
                    if (w == words.length) {
                        return place;
                    }
                    place++;
                    int bad = wrongNumber(word, words[w], r);
                    if (bad >= 0) {
                        return place + bad;
                    }
                    place += words[w].length();
                }
                place++;
            }
            return r.deed == null ? t.length() : -1;
        }

        /** The letters at its head: only they are the word. */
        static String letters(String part) {
            return part.replaceFirst("(?s)[^A-Za-z].*", "");
        }

        static int wrongNumber(String name, String word, ModelRule r) {
            if (name.equals("lend") && letters(word).equals("term")) {
                r.deed = "lend term";
                return word.length() > 4 ? 4 : -1;
            }
            String digits = word.replaceFirst("(?s)[^0-9].*", "");
            int most = name.equals("kind") || name.equals("type") ? 1 : name.equals("person") ? 2 : 3;
            if (digits.isEmpty() || digits.length() > most) {
                return 0;
            }
            if (name.equals("person") && Integer.parseInt(digits) > 49) {
                return 0;
            }
            if (digits.length() < word.length()) {
                return digits.length();
            }
            r.numbers.put(name, Integer.parseInt(digits));
            return -1;
        }

        long closed(int day, boolean on) {
            if (!in(day, 10000)) {
                return 0;
            }
            boolean was = on ? !closed.add(day) : closed.remove(day);
            return was ? 1 : 0;
        }

        int term(int day) {
            return in(day, 10000) && terms.add(day) ? 1 : 0;
        }

        int row(int what, int which, int v) {
            if (!in(what, 2) || !in(which, 50) || !in(v, 10)) {
                return 0;
            }
            (what == 0 ? kinds : types).put(which, v);
            return 1;
        }

        int open(int day) {
            int at = day;
            while (closed.contains(at)) {
                at++;
            }
            return at > 9999 ? -1 : at;
        }

        int dueDay(ModelRule r, int day) {
            if (r.deed.equals("lend term")) {
                Integer end = terms.ceiling(day);
                return end == null ? -1 : open(end);
            }
            return open(day + r.number("lend", 0));
        }

        boolean fits(int number, int person, int item, int day) {
            ModelRule r = rules.get(number);
            int kind = kinds.getOrDefault(person, 0);
            int type = types.getOrDefault(item, 0);
            return r.number("kind", kind) == kind && r.number("type", type) == type
                && r.number("person", person) == person
                && day > exceptions.getOrDefault(person + "/" + number, -1);
        }

        long lend(int person, int item, int day) {
            if (!in(person, 50) || !in(item, 50) || !in(day, 10000) || loans.size() == 200) {
                return 0;
            }
            for (ModelLoan l : loans) {
                if (l.item == item && !l.back) {
                    return 0;
                }
            }
            if (causes.getOrDefault(person, 0) > 0) {
                return -102 - causes.get(person);
            }
            fitted = new ArrayList<>();
            for (int i = 0; i < rules.size(); i++) {
                if (fits(i, person, item, day)) {
                    fitted.add(i);
                }
            }
            fitted.sort(Comparator.comparing((Integer i) -> -rules.get(i).number("rank", 0)).thenComparing(i -> i));
            if (fitted.isEmpty()) {
                return -100;
            }
            return lendBy(fitted.get(0), person, item, day);
        }

        long lendBy(int number, int person, int item, int day) {
            ModelRule r = rules.get(number);
            r.met = true;
            if (fitted.size() > 1 && rules.get(fitted.get(1)).number("rank", 0) == r.number("rank", 0)) {
                clashes.add(List.of(number, fitted.get(1)));
            }
            if (r.deed.equals("fail") && r.through) {
                return THROWN;
            }
            if (!r.deed.startsWith("lend")) {
                return -1 - number;
            }
            int due = dueDay(r, day);
            if (due < 0) {
                return -101;
            }
            ModelLoan l = new ModelLoan();
            l.person = person;
            l.item = item;
            l.rule = r;
            l.day = day;
            l.due = due;
            loans.add(l);
            return loans.size();
        }

        ModelLoan held(int loan) {
            return loan < 1 || loan > loans.size() || loans.get(loan - 1).back ? null : loans.get(loan - 1);
        }

        int due(int loan) {
            return held(loan) == null ? -1 : held(loan).due;
        }

        int renew(int loan, int day) {
            ModelLoan l = held(loan);
            if (l == null || !in(day, 10000)) {
                return 0;
            }
            if (causes.getOrDefault(l.person, 0) > 0) {
                return -102 - causes.get(l.person);
            }
            if (l.renewals == l.rule.number("renew", 0)) {
                return -1;
            }
            if (day < l.day || day < l.day + l.rule.number("gap", 0)) {
                return -2;
            }
            if (l.recalled) {
                return -3;
            }
            int due = dueDay(l.rule, day);
            if (due < 0) {
                return -4;
            }
            l.renewals++;
            l.day = day;
            if (due > l.due) {
                l.due = due;
            }
            return 1;
        }

        int recall(int loan, int day) {
            ModelLoan l = held(loan);
            if (l == null || !in(day, 10000)) {
                return 0;
            }
            if (l.recalled) {
                return -1;
            }
            int due = open(day + l.rule.number("recall", 7));
            if (due < 0) {
                return -4;
            }
            l.recalled = true;
            if (due < l.due) {
                l.due = due;
            }
            return l.due;
        }

        int back(int loan) {
            ModelLoan l = held(loan);
            if (l == null) {
                return 0;
            }
            l.back = true;
            return 1;
        }

        int block(int person, int cause) {
            if (!in(person, 50) || !in(cause, 10)) {
                return -1;
            }
            Integer before = causes.put(person, cause);
            return before == null ? 0 : before;
        }

        int except(int person, int rule, int until) {
            if (!in(person, 50) || !in(rule, rules.size())) {
                return 0;
            }
            exceptions.put(person + "/" + rule, until);
            return 1;
        }

        int throwsUp(int rule, boolean on) {
            if (!in(rule, rules.size()) || !rules.get(rule).deed.equals("fail")) {
                return 0;
            }
            boolean was = rules.get(rule).through;
            rules.get(rule).through = on;
            return was ? 1 : 0;
        }

        int explain(int i) {
            return in(i, fitted.size()) ? fitted.get(i) : -1;
        }

        int never(int i) {
            List<Integer> unmet = new ArrayList<>();
            for (int r = 0; r < rules.size(); r++) {
                if (!rules.get(r).met) {
                    unmet.add(r);
                }
            }
            return in(i, unmet.size()) ? unmet.get(i) : -1;
        }

        int clash(int i, int side) {
            List<List<Integer>> all = new ArrayList<>(clashes);
            return in(i, all.size()) && in(side, 2) ? all.get(i).get(side) : -1;
        }
    }

    private final Random random;
    private final LoanRules real = new LoanRules();
    private final Model model = new Model();
    private final StringBuilder story = new StringBuilder();
    private final int dayRange;
    private final int wildness;
    private int calls = 0;

    private LoanRulesAgainstModel(long seed) {
        random = new Random(seed);
        dayRange = random.nextBoolean() ? 40 : 9990;
        wildness = random.nextInt(3) * 20;
    }

    private int pick(int below) {
        if (random.nextInt(200) < wildness) {
            return EDGES[random.nextInt(EDGES.length)];
        }
        return random.nextInt(below);
    }

    private int day() {
        int day = pick(30);
        return Model.in(day, 30) ? day + (dayRange > 40 && random.nextBoolean() ? 9970 : 0) : day;
    }

    private String number(int most) {
        return String.valueOf(random.nextInt(most + 1));
    }

    private String ruleText() {
        StringBuilder t = new StringBuilder();
        String[] conditions = {"kind " + number(2), "type " + number(2), "person " + number(4)};
        for (String c : conditions) {
            if (random.nextInt(4) == 0) {
                t.append(c).append(' ');
            }
        }
        String[] deeds = {"lend " + number(15), "lend " + number(15), "lend term", "refuse", "fail"};
        String deed = deeds[random.nextInt(deeds.length)];
        t.append(deed);
        String[] options = {" renew " + number(3), " gap " + number(4), " recall " + number(5)};
        for (String o : options) {
            if (deed.startsWith("lend") && random.nextBoolean()) {
                t.append(o);
            }
        }
        if (random.nextInt(3) > 0) {
            t.append(" rank ").append(number(2));
        }
        return random.nextInt(3) == 0 ? spoilt(t) : t.toString();
    }

    private String spoilt(StringBuilder t) {
        int at = random.nextInt(t.length());
        switch (random.nextInt(6)) {
            case 0: t.deleteCharAt(at); break;
            case 1: t.insert(at, (char) random.nextInt(256)); break;
            case 2: t.insert(at, " 0123456789x".charAt(random.nextInt(12))); break;
            case 3: t.setLength(at); break;
            case 4: t.append(' ').append(WORDS[random.nextInt(WORDS.length)]); break;
            default:
                String[] words = t.toString().split(" ");
                words[random.nextInt(words.length)] = WORDS[random.nextInt(WORDS.length)];
                return String.join(" ", words);
        }
        return t.toString();
    }

    private boolean same(String call, long got, long want) {
        calls++;
        story.append(call).append(" -> ").append(want).append('\n');
        if (got != want) {
            System.out.print(story);
            System.out.println("the last call answered " + got);
        }
        return got == want;
    }

    private boolean tell(String text) {
        for (char c : text.toCharArray()) {
            int sign = c + (random.nextInt(20) == 0 ? 256 * (random.nextInt(9) - 4) : 0);
            real.sign(sign);
            model.sign(sign);
            calls++;
        }
        return same("rule '" + text + "'", real.rule(), model.rule());
    }

    private long realLend(int person, int item, int day) {
        try {
            return real.lend(person, item, day);
        } catch (IllegalStateException e) {
            return THROWN;
        }
    }

    private boolean change() {
        int a = pick(5);
        int b = pick(4);
        int c = pick(4);
        int d = day();
        boolean on = random.nextInt(3) > 0;
        switch (random.nextInt(8)) {
            case 0: return same("closed " + d + " " + on, real.closed(d, on) ? 1 : 0, model.closed(d, on));
            case 1: return same("term " + d, real.term(d), model.term(d));
            case 2:
                int what = pick(2);
                return same("row " + what + " " + a + " " + b, real.row(what, a, b), model.row(what, a, b));
            case 3:
                int cause = on ? 0 : c;
                return same("block " + a + " " + cause, real.block(a, cause), model.block(a, cause));
            case 4: return same("except " + a + " " + b + " " + d, real.except(a, b, d), model.except(a, b, d));
            case 5: return same("throwsUp " + b + " " + on, real.throwsUp(b, on) ? 1 : 0, model.throwsUp(b, on));
            case 6: return tell(ruleText());
            default: return same("rule", real.rule(), model.rule());
        }
    }

    private boolean ask() {
        int loan = pick(model.loans.size() + 2);
        int a = pick(5);
        int b = pick(5);
        int d = day();
        switch (random.nextInt(9)) {
            case 0:
            case 1:
                return same("lend " + a + " " + b + " " + d, realLend(a, b, d), model.lend(a, b, d));
            case 2: return same("due " + loan, real.due(loan), model.due(loan));
            case 3: return same("renew " + loan + " " + d, real.renew(loan, d), model.renew(loan, d));
            case 4: return same("recall " + loan + " " + d, real.recall(loan, d), model.recall(loan, d));
            case 5: return same("back " + loan, real.back(loan), model.back(loan));
            case 6: return same("explain " + a, real.explain(a), model.explain(a));
            case 7: return same("never " + a, real.never(a), model.never(a));
            default:
                int side = pick(2);
                return same("clash " + a + " " + side, real.clash(a, side), model.clash(a, side));
        }
    }

    private boolean run() {
        int rules = random.nextInt(8);
        for (int i = 0; i < rules; i++) {
            if (!tell(ruleText())) {
                return false;
            }
        }
        // A rule's signs are calls too, so room is left for one more text.
        while (calls < CALLS - 121) {
            if (random.nextInt(4) == 0 ? !change() : !ask()) {
                return false;
            }
        }
        return true;
    }

    public static void main(String[] args) {
        int wrong = 0;
        for (int seed = 0; seed < RUNS && wrong < 3; seed++) {
            if (!new LoanRulesAgainstModel(seed).run()) {
                System.out.println("the run of seed " + seed + " is not as due");
                wrong++;
            }
        }
        System.out.println(wrong == 0 ? RUNS + " runs are as due" : wrong + " runs are not as due");
        if (wrong != 0) {
            System.exit(1);
        }
    }
}
