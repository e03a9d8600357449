import java.util.Arrays;

/** Loan rules as texts: who may have what for how long. The promises are those of the document. */
public final class LoanRules {
    public static final int NONE = -1;

    private static final int DAYS = 10000;
    private static final int PERSONS = 50;
    private static final int ITEMS = 50;
    private static final int GREATEST_CLASS = 9;
    private static final int GREATEST_CAUSE = 9;
    private static final int MOST_RULES = 40;
    private static final int MOST_LOANS = 200;
    private static final int MOST_CLASHES = MOST_RULES * (MOST_RULES - 1) / 2;

    private static final int RULES_ARE_FULL = -200;
    private static final int NO_RULE_FITS = -100;
    private static final int NO_DUE_DAY_TO_LEND = -101;
    private static final int BLOCKED = -102;
    private static final int RENEWED_TOO_OFTEN = -1;
    private static final int GAP_NOT_OVER = -2;
    private static final int IS_RECALLED = -3;
    private static final int NO_DUE_DAY = -4;
    private static final int RECALLED_ALREADY = -1;

    private final RuleText text = new RuleText();
    private final Rule[] rules = new Rule[MOST_RULES];
    private int ruleCount = 0;

    private final DaySet closedDays = new DaySet();
    private final DaySet termEnds = new DaySet();

    private final int[] kinds = new int[PERSONS];
    private final int[] causes = new int[PERSONS];
    private final int[] types = new int[ITEMS];
    private final boolean[] isOut = new boolean[ITEMS];

    /** By person, then by rule: the last day on which the rule does not count. */
    private final int[] exceptUntil = new int[PERSONS * MOST_RULES];

    private final Loan[] loans = new Loan[MOST_LOANS];
    private int loanCount = 0;

    /** The rules that fitted the latest loan asked for: kept, as kinds and exceptions change later. */
    private final int[] fitting = new int[MOST_RULES];
    private int fittingCount = 0;

    /** Each clash is one number: the first rule times MOST_RULES, and the second. */
    private final int[] clashes = new int[MOST_CLASHES];
    private int clashCount = 0;

    public LoanRules() {
        Arrays.fill(exceptUntil, NONE);
    }

    public void sign(int c) {
        text.collect(c);
    }

    public int rule() {
        Rule told = new Rule();
        int wrongPlace = text.readInto(told);
        text.forget();
        if (wrongPlace != NONE) {
            return -1 - wrongPlace;
        }
        if (ruleCount >= rules.length) {
            return RULES_ARE_FULL;
        }
        rules[ruleCount] = told;
        ruleCount++;
        return ruleCount - 1;
    }

    public boolean closed(int day, boolean on) {
        if (!isDay(day)) {
            return false;
        }
        boolean was = closedDays.holds(day);
        closedDays.put(day, on);
        return was;
    }

    public int term(int day) {
        if (!isDay(day) || termEnds.holds(day)) {
            return 0;
        }
        termEnds.put(day, true);
        return 1;
    }

    public int row(int what, int which, int v) {
        if (v < 0 || v > GREATEST_CLASS) {
            return 0;
        }
        if (what == 0 && isPerson(which)) {
            kinds[which] = v;
            return 1;
        }
        if (what == 1 && isItem(which)) {
            types[which] = v;
            return 1;
        }
        return 0;
    }

    public int lend(int person, int item, int day) throws IllegalStateException {
        if (!isPerson(person) || !isItem(item) || !isDay(day)) {
            return 0;
        }
        if (isOut[item] || loanCount >= MOST_LOANS) {
            return 0;
        }
        if (causes[person] != 0) {
            return BLOCKED - causes[person];
        }
        gatherFitting(person, item, day);
        Rule rule = ruleAt(fittingAt(0));
        if (rule == null) {
            return NO_RULE_FITS;
        }
        rule.met = true;
        noteClash();
        if (rule.deed == Rule.FAIL && rule.letThrough) {
            throw new IllegalStateException("the rule of the loan fails");
        }
        if (!rule.lends()) {
            return -1 - fittingAt(0);
        }
        int dueDay = dueDayByRule(rule, day);
        if (dueDay == NONE) {
            return NO_DUE_DAY_TO_LEND;
        }
        return addLoan(new Loan(person, item, rule, day, dueDay));
    }

    public int due(int loan) {
        Loan held = heldLoan(loan);
        return held == null ? NONE : held.dueDay;
    }

    public int renew(int loan, int day) {
        Loan held = heldLoan(loan);
        if (held == null || !isDay(day)) {
            return 0;
        }
        int cause = causeOf(held.person);
        if (cause != 0) {
            return BLOCKED - cause;
        }
        if (held.renewals >= held.rule.renewals) {
            return RENEWED_TOO_OFTEN;
        }
        // A gap is never below 0, so this refuses days before the latest one too.
        if (day - held.latestDay < held.rule.gap) {
            return GAP_NOT_OVER;
        }
        if (held.recalled) {
            return IS_RECALLED;
        }
        int dueDay = dueDayByRule(held.rule, day);
        if (dueDay == NONE) {
            return NO_DUE_DAY;
        }
        held.renewals++;
        held.latestDay = day;
        held.dueDay = Math.max(held.dueDay, dueDay);
        return 1;
    }

    public int recall(int loan, int day) {
        Loan held = heldLoan(loan);
        if (held == null || !isDay(day)) {
            return 0;
        }
        if (held.recalled) {
            return RECALLED_ALREADY;
        }
        int dueDay = openDayFrom(day + held.rule.recallDays);
        if (dueDay == NONE) {
            return NO_DUE_DAY;
        }
        held.recalled = true;
        held.dueDay = Math.min(held.dueDay, dueDay);
        return held.dueDay;
    }

    public int back(int loan) {
        Loan held = heldLoan(loan);
        if (held == null) {
            return 0;
        }
        held.givenBack = true;
        if (isItem(held.item)) {
            isOut[held.item] = false;
        }
        return 1;
    }

    public int block(int person, int cause) {
        if (!isPerson(person) || cause < 0 || cause > GREATEST_CAUSE) {
            return NONE;
        }
        int before = causes[person];
        causes[person] = cause;
        return before;
    }

    public int except(int person, int rule, int until) {
        if (!isPerson(person) || ruleAt(rule) == null) {
            return 0;
        }
        exceptUntil[person * MOST_RULES + rule] = until;
        return 1;
    }

    public boolean throwsUp(int rule, boolean on) {
        Rule told = ruleAt(rule);
        if (told == null || told.deed != Rule.FAIL) {
            return false;
        }
        boolean was = told.letThrough;
        told.letThrough = on;
        return was;
    }

    public int explain(int i) {
        return fittingAt(i);
    }

    public int never(int i) {
        int unmetBefore = 0;
        for (int number = 0; number < MOST_RULES; number++) {
            Rule told = ruleAt(number);
            if (told != null && !told.met) {
                if (unmetBefore == i) {
                    return number;
                }
                unmetBefore++;
            }
        }
        return NONE;
    }

    public int clash(int i, int side) {
        if (i < 0 || i >= clashCount || i >= clashes.length) {
            return NONE;
        }
        if (side == 0) {
            return clashes[i] / MOST_RULES;
        }
        return side == 1 ? clashes[i] % MOST_RULES : NONE;
    }

    private static boolean isDay(int day) {
        return day >= 0 && day < DAYS;
    }

    private static boolean isPerson(int person) {
        return person >= 0 && person < PERSONS;
    }

    private static boolean isItem(int item) {
        return item >= 0 && item < ITEMS;
    }

    private int causeOf(int person) {
        return isPerson(person) ? causes[person] : 0;
    }

    private Rule ruleAt(int number) {
        return number >= 0 && number < ruleCount && number < rules.length ? rules[number] : null;
    }

    private int fittingAt(int i) {
        return i >= 0 && i < fittingCount && i < fitting.length ? fitting[i] : NONE;
    }

    /** A loan that has not been given back, by its number from 1 on, or null. */
    private Loan heldLoan(int number) {
        if (number < 1 || number > loanCount || number > loans.length) {
            return null;
        }
        Loan loan = loans[number - 1];
        return loan == null || loan.givenBack ? null : loan;
    }

    private int addLoan(Loan loan) {
        if (loanCount >= loans.length || !isItem(loan.item)) {
            return 0;
        }
        loans[loanCount] = loan;
        loanCount++;
        isOut[loan.item] = true;
        return loanCount;
    }

    private void gatherFitting(int person, int item, int day) {
        fittingCount = 0;
        for (int number = 0; number < MOST_RULES; number++) {
            Rule told = ruleAt(number);
            if (told != null && fits(told, person, item) && !isExcepted(person, number, day)) {
                insertByRank(number, told.rank);
            }
        }
    }

    private boolean fits(Rule told, int person, int item) {
        return isPerson(person) && isItem(item)
                && (told.kind == NONE || told.kind == kinds[person])
                && (told.type == NONE || told.type == types[item])
                && (told.person == NONE || told.person == person);
    }

    private boolean isExcepted(int person, int number, int day) {
        int at = person * MOST_RULES + number;
        return at >= 0 && at < exceptUntil.length && day <= exceptUntil[at];
    }

    /** Rules come here by rising numbers, so one goes behind all others of its own rank. */
    private void insertByRank(int number, int rank) {
        if (fittingCount < 0 || fittingCount >= fitting.length) {
            return;
        }
        int at = fittingCount;
        while (at > 0 && rankOf(fitting[at - 1]) < rank) {
            fitting[at] = fitting[at - 1];
            at--;
        }
        fitting[at] = number;
        fittingCount++;
    }

    private int rankOf(int number) {
        Rule told = ruleAt(number);
        return told == null ? NONE : told.rank;
    }

    private void noteClash() {
        int first = fittingAt(0);
        int second = fittingAt(1);
        if (second == NONE || rankOf(first) != rankOf(second)) {
            return;
        }
        int pair = first * MOST_RULES + second;
        for (int i = 0; i < clashCount && i < clashes.length; i++) {
            if (clashes[i] == pair) {
                return;
            }
        }
        if (clashCount < clashes.length) {
            clashes[clashCount] = pair;
            clashCount++;
        }
    }

    private int dueDayByRule(Rule told, int day) {
        if (told.deed == Rule.LEND_DAYS) {
            return openDayFrom(day + told.days);
        }
        int end = termEnds.firstFrom(day, true);
        return end == NONE ? NONE : openDayFrom(end);
    }

    private int openDayFrom(int day) {
        return closedDays.firstFrom(day, false);
    }

    /** What one rule says, and what has become of it. */
    private static final class Rule {
        static final int LEND_DAYS = 0;
        static final int LEND_TERM = 1;
        static final int REFUSE = 2;
        static final int FAIL = 3;

        int kind = NONE;
        int type = NONE;
        int person = NONE;
        int deed = REFUSE;
        int days = 0;
        int renewals = 0;
        int gap = 0;
        int recallDays = 7;
        int rank = 0;
        boolean met = false;
        boolean letThrough = false;

        boolean lends() {
            return deed == LEND_DAYS || deed == LEND_TERM;
        }
    }

    /** One loan, with the rule by which it was lent. */
    private static final class Loan {
        final int person;
        final int item;
        final Rule rule;
        int latestDay;
        int dueDay;
        int renewals = 0;
        boolean recalled = false;
        boolean givenBack = false;

        Loan(int person, int item, Rule rule, int day, int dueDay) {
            this.person = person;
            this.item = item;
            this.rule = rule;
            this.latestDay = day;
            this.dueDay = dueDay;
        }
    }

    /** A set of days, a bit each, so that a new object stays small and empty stretches are skipped. */
    private static final class DaySet {
        private static final int BITS = 64;
        private static final int LAST_BIT = BITS - 1;

        private final long[] words = new long[DAYS / BITS + 1];

        boolean holds(int day) {
            return isDay(day) && (words[day / BITS] >>> (day % BITS) & 1L) != 0L;
        }

        void put(int day, boolean in) {
            if (!isDay(day)) {
                return;
            }
            long bit = 1L << (day % BITS);
            if (in) {
                words[day / BITS] |= bit;
            } else {
                words[day / BITS] &= ~bit;
            }
        }

        /** The first day not before this one that is in the set, or that is not in it. */
        int firstFrom(int day, boolean in) {
            long nothingHere = in ? 0L : -1L;
            int at = Math.max(day, 0);
            while (at < DAYS) {
                if (words[at / BITS] == nothingHere) {
                    at = (at | LAST_BIT) + 1;
                } else if (holds(at) == in) {
                    return at;
                } else {
                    at++;
                }
            }
            return NONE;
        }
    }

    /** The signs that are collected, and their reading. */
    private static final class RuleText {
        private static final int MOST_SIGNS = 120;
        private static final int SIGN_BITS = 255;
        private static final int END = -1;
        private static final int GREATEST_NUMBER = 999;
        private static final int NUMBER_DIGITS = 3;

        private final char[] signs = new char[MOST_SIGNS];
        private int length = 0;
        private int place = 0;
        private int wrongPlace = NONE;

        void collect(int sign) {
            if (length < signs.length) {
                signs[length] = (char) (sign & SIGN_BITS);
                length++;
            }
        }

        void forget() {
            length = 0;
        }

        /** Where the text is WRONG, or NONE. Behind a fault the reading goes on, but only the first is kept. */
        int readInto(Rule told) {
            place = 0;
            wrongPlace = NONE;
            told.kind = readCondition("kind", 1, GREATEST_CLASS);
            told.type = readCondition("type", 1, GREATEST_CLASS);
            told.person = readCondition("person", 2, PERSONS - 1);
            readDeed(told);
            readRest(told);
            return wrongPlace;
        }

        private int readCondition(String name, int mostDigits, int greatest) {
            if (!takesWord(name)) {
                return NONE;
            }
            int value = takeNumber(mostDigits, greatest);
            takeSpace();
            return value;
        }

        private void readDeed(Rule told) {
            if (takesWord("lend")) {
                readLength(told);
            } else if (takesWord("refuse")) {
                told.deed = Rule.REFUSE;
            } else if (takesWord("fail")) {
                told.deed = Rule.FAIL;
            } else {
                markWrong(place);
            }
        }

        private void readLength(Rule told) {
            if (takesWordBehindSpace("term")) {
                told.deed = Rule.LEND_TERM;
            } else {
                told.deed = Rule.LEND_DAYS;
                told.days = takeNumber(NUMBER_DIGITS, GREATEST_NUMBER);
            }
        }

        private void readRest(Rule told) {
            if (told.lends()) {
                told.renewals = readOption("renew", told.renewals);
                told.gap = readOption("gap", told.gap);
                told.recallDays = readOption("recall", told.recallDays);
            }
            told.rank = readOption("rank", told.rank);
            if (signAt(place) != END) {
                takeSpace();
                markWrong(place);
            }
        }

        private int readOption(String name, int without) {
            return takesWordBehindSpace(name) ? takeNumber(NUMBER_DIGITS, GREATEST_NUMBER) : without;
        }

        /** A space and the word, or neither: the space may belong to another word. */
        private boolean takesWordBehindSpace(String word) {
            if (signAt(place) != ' ') {
                return false;
            }
            place++;
            if (takesWord(word)) {
                return true;
            }
            place--;
            return false;
        }

        /**
         * Only whole words count: one with a letter more can't be there. Any other sign behind a word is
         * no part of it, and is left to be told at its own place if it does not fit.
         */
        private boolean takesWord(String word) {
            for (int i = 0; i < word.length(); i++) {
                if (signAt(place + i) != word.charAt(i)) {
                    return false;
                }
            }
            if (isLetter(signAt(place + word.length()))) {
                return false;
            }
            place += word.length();
            return true;
        }

        private void takeSpace() {
            if (signAt(place) == ' ') {
                place++;
            } else {
                markWrong(place);
            }
        }

        /** A space and a number. */
        private int takeNumber(int mostDigits, int greatest) {
            takeSpace();
            int firstDigit = place;
            int value = 0;
            while (place < length && isDigit(signAt(place))) {
                // Digits beyond the most are wrong anyhow, and would only wrap the value round.
                if (place - firstDigit < mostDigits) {
                    value = value * 10 + (signAt(place) - '0');
                }
                place++;
            }
            int digits = place - firstDigit;
            if (digits == 0 || digits > mostDigits || value > greatest) {
                markWrong(firstDigit);
            }
            return value;
        }

        private void markWrong(int at) {
            if (wrongPlace == NONE) {
                wrongPlace = at;
            }
        }

        private int signAt(int at) {
            return at >= 0 && at < length && at < signs.length ? signs[at] : END;
        }

        private static boolean isLetter(int sign) {
            return (sign >= 'a' && sign <= 'z') || (sign >= 'A' && sign <= 'Z');
        }

        private static boolean isDigit(int sign) {
            return sign >= '0' && sign <= '9';
        }
    }
}
