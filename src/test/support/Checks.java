/** What the tests by hand share: they extend this class, as a class without a package can't be imported. */
abstract class Checks {
    static final int NONE = LoanRules.NONE;
    static final int THROWN = Integer.MIN_VALUE;
    static final int[] WILD = {Integer.MIN_VALUE, -10000, -1, 10000, 1 << 20, Integer.MAX_VALUE};

    private static int wrong = 0;

    static void due(String call, int got, int want) {
        if (got != want) {
            wrong++;
            System.out.println(call + " answered " + got + ", due is " + want);
        }
    }

    static void due(String call, boolean got, boolean want) {
        due(call, got ? 1 : 0, want ? 1 : 0);
    }

    static void collect(LoanRules x, String text) {
        for (int i = 0; i < text.length(); i++) {
            x.sign(text.charAt(i));
        }
    }

    static int tell(LoanRules x, String text) {
        collect(x, text);
        return x.rule();
    }

    /** An object with these rules. */
    static LoanRules with(String... texts) {
        LoanRules x = new LoanRules();
        for (int i = 0; i < texts.length; i++) {
            due("rule of '" + texts[i] + "'", tell(x, texts[i]), i);
        }
        return x;
    }

    static int lend(LoanRules x, int person, int item, int day) {
        try {
            return x.lend(person, item, day);
        } catch (IllegalStateException e) {
            return THROWN;
        }
    }

    static void rightRule(String text) {
        with(text);
    }

    static void wrongAt(int place, String text) {
        LoanRules x = new LoanRules();
        due("the rule '" + text + "'", tell(x, text), -1 - place);
        due("no rule after '" + text + "'", x.never(0), NONE);
        due("a rule after '" + text + "'", tell(x, "fail"), 0);
    }

    static void end(String whenAllHold) {
        System.out.println(wrong == 0 ? whenAllHold : wrong + " answers are not as due");
        if (wrong != 0) {
            System.exit(1);
        }
    }
}
