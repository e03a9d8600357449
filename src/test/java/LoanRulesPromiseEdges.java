/** The boundary cases that the promises name: a method for each sentence, which stands above it. */
public final class LoanRulesPromiseEdges extends Checks {
    private static final String LONGEST = "kind 1 type 2 person 49 lend 999 renew 999 gap 999 recall 999 rank 999";

    /** Promise 1: "No rules, all days open, no terms, no loans; nothing is collected." */
    private static void newObject() {
        LoanRules x = new LoanRules();
        due("1: nothing is collected", x.rule(), -1);
        due("1: no rule is never met", x.never(0), NONE);
        due("1: no rule to except", x.except(0, 0, 9999), 0);
        due("1: no rule to let through", x.throwsUp(0, true), false);
        due("1: no rule fits", lend(x, 0, 0, 0), -100);
        due("1: no loan is due", x.due(1), NONE);
        due("1: no loan to renew", x.renew(1, 0), 0);
        due("1: no loan to recall", x.recall(1, 0), 0);
        due("1: no loan to give back", x.back(1), 0);
        due("1: none fitted", x.explain(0), NONE);
        due("1: no clash", x.clash(0, 0), NONE);
        due("1: nobody is blocked", x.block(0, 0), 0);
        due("1: the first rule", tell(x, "lend term"), 0);
        due("1: no terms", lend(x, 0, 0, 0), -101);
        due("1: the first end of a term", x.term(9999), 1);
        due("1: the first loan", lend(x, 0, 0, 0), 1);
    }

    /** Promise 2: "A sign (the lowest eight bits) of a rule is collected" */
    private static void lowestEightBits() {
        int[] above = {0, 256, 512, 65536, 1 << 30, Integer.MIN_VALUE, -256, 0x7fffff00};
        LoanRules x = new LoanRules();
        for (int i = 0; i < above.length; i++) {
            for (char c : "lend 5".toCharArray()) {
                x.sign(above[i] + c);
            }
            due("2: bits " + above[i], x.rule(), i);
        }
        for (char c : "fail".toCharArray()) {
            x.sign(c + 128);
        }
        due("2: the eighth bit counts", x.rule(), -1);
        collect(x, "fail");
        x.sign(256);
        due("2: 256 is sign 0", x.rule(), -5);
        collect(x, "fail");
        x.sign(-1);
        due("2: -1 is sign 255", x.rule(), -5);
    }

    /** Promise 2: "beyond 120 it is lost". No right rule is longer than 70, so no answer shows the 120th itself. */
    private static void lostBeyond120() {
        LoanRules x = new LoanRules();
        due("2: the longest rule", tell(x, LONGEST), 0);
        due("2: a sign more is not lost", tell(x, LONGEST + "x"), -71);
        due("2: a digit more is not lost", tell(x, LONGEST + "9"), -68);
        due("2: signs to the 120th", tell(x, LONGEST + "x".repeat(50)), -71);
        due("2: the next rule is whole", tell(x, LONGEST), 1);
        LoanRules y = new LoanRules();
        due("2: signs to the 121st", tell(y, LONGEST + "x".repeat(51)), -71);
        due("2: what was lost does not come back", y.rule(), -1);
        due("2: the next rule is whole", tell(y, LONGEST), 0);
    }

    /** Promise 2: "beyond 120 it is lost": it is no part of this rule, nor of the next. */
    private static void lostForGood() {
        LoanRules y = new LoanRules();
        collect(y, "x".repeat(120));
        collect(y, "fail");
        due("2: lost signs are no rule", y.rule(), -1);
        due("2: nor of the next", y.rule(), -1);
        due("2: a rule", tell(y, "fail"), 0);
        collect(y, "lend ");
        collect(y, "5".repeat(360));
        due("2: a long number", y.rule(), -6);
    }

    /** Promise 3: "What is collected is a rule more: its number; nothing is collected any more." */
    private static void nothingIsCollectedAnyMore() {
        LoanRules x = new LoanRules();
        due("3: empty", x.rule(), -1);
        due("3: a rule", tell(x, "lend 5"), 0);
        due("3: nothing behind a rule", x.rule(), -1);
        due("3: the next number", tell(x, "lend 5"), 1);
        due("3: wrong", tell(x, "lend 5 x"), -8);
        due("3: nothing behind a wrong one", x.rule(), -1);
        due("3: a wrong one takes no number", tell(x, "fail"), 2);
        due("3: a word in two parts", tell(x, "fa"), -1);
        due("3: a word in two parts", tell(x, "il"), -1);
        due("3: three rules", x.never(3), NONE);
    }

    /** Promise 3: "-1 less the place if it is WRONG" */
    private static void wrongLessThePlace() {
        due("3: place 0", tell(new LoanRules(), "x"), -1);
        due("3: place 4", tell(new LoanRules(), "lend"), -5);
        due("3: place 70", tell(new LoanRules(), LONGEST + "\u0000"), -71);
        due("3: place 71", tell(new LoanRules(), LONGEST + " gap 1"), -72);
    }

    /** Promise 3: "-200 if there are 40 (looked at last)" */
    private static void fullOfRules() {
        LoanRules x = new LoanRules();
        for (int i = 0; i < 39; i++) {
            due("3: rule " + i, tell(x, "fail"), i);
        }
        due("3: wrong, one place left", tell(x, "fails"), -1);
        due("3: the 40th", tell(x, "refuse"), 39);
        due("3: the 41st", tell(x, "refuse rank 9"), -200);
        due("3: nothing is collected any more", x.rule(), -1);
        due("3: wrong is looked at first", tell(x, "lend"), -5);
        due("3: wrong is looked at first", tell(x, "lend 1000"), -6);
        due("3: the 41st", tell(x, "lend 5"), -200);
        due("3: none of them counts", lend(x, 0, 0, 0), -1);
        due("3: forty fitted", x.explain(39), 39);
        due("3: not one more", x.explain(40), NONE);
    }

    /** Promise 4: "A day is CLOSED, or open: what it was" */
    private static void whatTheDayWas() {
        for (int day : new int[] {0, 63, 64, 127, 128, 9983, 9984, 9999}) {
            LoanRules x = new LoanRules();
            due("4: opened, was open", x.closed(day, false), false);
            due("4: closed, was open", x.closed(day, true), false);
            due("4: closed, was closed", x.closed(day, true), true);
            due("4: opened, was closed", x.closed(day, false), true);
            due("4: closed, was open again", x.closed(day, true), false);
            for (int other = Math.max(0, day - 2); other <= Math.min(9999, day + 2); other++) {
                due("4: only that day, not " + other, x.closed(other, false), other == day);
            }
        }
    }

    /** Promise 4: "false if there is no such day" */
    private static void noSuchDayToClose() {
        LoanRules x = with("lend 0");
        for (int day : WILD) {
            due("4: no day " + day, x.closed(day, true), false);
            due("4: still no day " + day, x.closed(day, true), false);
            due("4: nor to open " + day, x.closed(day, false), false);
        }
        due("4: lend", lend(x, 0, 0, 0) + lend(x, 0, 1, 9999), 3);
        due("4: day 0 is open", x.due(1), 0);
        due("4: the last day is open", x.due(2), 9999);
    }

    /** Promise 5: "A day is the end of a TERM: 1; 0 if there is no such day, or it is already." */
    private static void termOnce() {
        for (int day : new int[] {0, 1, 63, 64, 9998, 9999}) {
            LoanRules x = new LoanRules();
            due("5: term " + day, x.term(day), 1);
            due("5: already " + day, x.term(day), 0);
            due("5: still " + day, x.term(day), 0);
            due("5: another", x.term(day == 0 ? 1 : day - 1), 1);
        }
        LoanRules x = with("lend term");
        for (int day : WILD) {
            due("5: no day " + day, x.term(day), 0);
            due("5: still no day " + day, x.term(day), 0);
        }
        due("5: none of them is an end", lend(x, 0, 0, 0), -101);
        x.closed(30, true);
        due("5: a closed day may be an end", x.term(30), 1);
    }

    /** Promise 6: "What 0: a person's KIND, 1: an item's TYPE is v, 0 .. 9, from now on: 1" */
    private static void rowFromNowOn() {
        LoanRules x = with("kind 9 lend 9 renew 1 rank 1", "type 9 lend 99 renew 1 rank 2", "lend 1");
        due("6: lend", lend(x, 49, 49, 0), 1);
        due("6: kind", x.row(0, 49, 9), 1);
        due("6: a loan keeps its rule", x.renew(1, 5), -1);
        due("6: lend", lend(x, 49, 48, 0), 2);
        due("6: from now on", x.due(2), 9);
        due("6: type", x.row(1, 47, 9), 1);
        due("6: lend", lend(x, 49, 47, 0), 3);
        due("6: from now on", x.due(3), 99);
        due("6: the kind of item 47's number", lend(x, 47, 46, 0), 4);
        due("6: is not touched", x.due(4), 1);
        due("6: the type it has already", x.row(1, 47, 9), 1);
        due("6: back to 0", x.row(0, 49, 0), 1);
        due("6: lend", lend(x, 49, 45, 0), 5);
        due("6: back to 0", x.due(5), 1);
    }

    /** Promise 6: "0 if there is none such, v can't be, or for another what" */
    private static void rowRefused() {
        LoanRules x = with("kind 0 type 0 lend 1");
        for (int w : new int[] {-1, 50, Integer.MIN_VALUE, Integer.MAX_VALUE}) {
            due("6: no person " + w, x.row(0, w, 5), 0);
            due("6: no item " + w, x.row(1, w, 5), 0);
        }
        for (int v : new int[] {-1, 10, Integer.MIN_VALUE, Integer.MAX_VALUE}) {
            due("6: no kind " + v, x.row(0, 0, v), 0);
            due("6: no type " + v, x.row(1, 0, v), 0);
        }
        for (int what : new int[] {-1, 2, 256, Integer.MIN_VALUE, Integer.MAX_VALUE}) {
            due("6: no what " + what, x.row(what, 0, 5), 0);
        }
        due("6: nothing has changed", lend(x, 0, 0, 0), 1);
    }

    /** Promise 7: "of an item that nobody has, on a day: the loan's number, 1, 2, .." */
    private static void loansAreNumbered() {
        LoanRules x = with("lend 5", "kind 1 refuse rank 1");
        x.row(0, 1, 1);
        due("7: the first", lend(x, 0, 0, 0), 1);
        due("7: refused, no number", lend(x, 1, 1, 0), -2);
        due("7: 0, no number", lend(x, 0, 0, 0), 0);
        due("7: no due day, no number", lend(x, 0, 1, 9995), -101);
        due("7: the second", lend(x, 0, 1, 0), 2);
        due("7: back", x.back(2), 1);
        due("7: a number is not used again", lend(x, 0, 1, 0), 3);
    }

    /** Promise 7: "0 if there is no such person, item or day" */
    private static void noSuchPersonItemOrDay() {
        LoanRules x = with("fail");
        x.throwsUp(0, true);
        for (int w : new int[] {-1, 50, Integer.MIN_VALUE, Integer.MAX_VALUE}) {
            due("7: no person " + w, lend(x, w, 0, 0), 0);
            due("7: no item " + w, lend(x, 0, w, 0), 0);
        }
        for (int w : WILD) {
            due("7: no day " + w, lend(x, 0, 0, w), 0);
            due("7: none of them " + w, lend(x, w, w, w), 0);
        }
        x.block(0, 1);
        due("7: 0 is ahead of blocked", lend(x, 0, 50, 0), 0);
        due("7: 0 is ahead of blocked", lend(x, 0, 0, 10000), 0);
        due("7: none is met", x.never(0), 0);
        due("7: the last of each", lend(x, 49, 49, 9999), THROWN);
    }

    /** Promise 7: "or somebody has it" */
    private static void somebodyHasIt() {
        LoanRules x = with("lend 5", "kind 1 fail rank 1");
        due("7: lend", lend(x, 0, 0, 0), 1);
        x.throwsUp(1, true);
        x.row(0, 1, 1);
        x.block(2, 3);
        due("7: oneself has it", lend(x, 0, 0, 0), 0);
        due("7: ahead of the rules", lend(x, 1, 0, 0), 0);
        due("7: ahead of blocked", lend(x, 2, 0, 0), 0);
        due("7: long behind the due day", lend(x, 3, 0, 9000), 0);
        due("7: recalled, but not back", x.recall(1, 0), 5);
        due("7: recalled, but not back", lend(x, 3, 0, 9000), 0);
        due("7: the rule is not met", x.never(0), 1);
        due("7: given back", x.back(1), 1);
        due("7: nobody has it", lend(x, 3, 0, 0), 2);
    }

    /** Promise 7: "or there were 200 loans" */
    private static void twoHundredLoans() {
        LoanRules x = with("lend 5", "kind 1 fail rank 1");
        x.row(0, 1, 1);
        x.throwsUp(1, true);
        for (int i = 1; i <= 199; i++) {
            due("7: loan " + i, lend(x, 0, 0, 0), i);
            due("7: back " + i, x.back(i), 1);
        }
        due("7: one that is not lent does not count", lend(x, 0, 0, 9995), -101);
        due("7: the 200th", lend(x, 0, 0, 0), 200);
        due("7: its due day", x.due(200), 5);
        due("7: the 201st", lend(x, 0, 1, 0), 0);
        due("7: ahead of the rules", lend(x, 1, 1, 0), 0);
        x.block(0, 9);
        due("7: ahead of blocked", lend(x, 0, 1, 0), 0);
        due("7: the 200th is given back", x.back(200), 1);
        due("7: there were 200 all the same", lend(x, 2, 2, 0), 0);
        due("7: no loan 201", x.due(201) + x.renew(201, 0) + x.recall(201, 0) + x.back(201), NONE);
        due("7: the rule is not met", x.never(0), 1);
        due("7: the latest asked for is the 200th", x.explain(0), 0);
    }

    /** Promise 7: "-1 less THE RULE's number if that refuses, or FAILS" */
    private static void refusesOrFails() {
        for (String deed : new String[] {"refuse", "fail"}) {
            LoanRules x = new LoanRules();
            for (int i = 0; i < 40; i++) {
                due("7: rule " + i, tell(x, deed), i);
            }
            for (int i = 0; i < 40; i++) {
                due("7: rule " + i + ", " + deed, lend(x, 0, 0, 0), -1 - i);
                x.except(0, i, 0);
            }
            due("7: none of them counts", lend(x, 0, 0, 0), -100);
            due("7: a refused item is free", x.due(1), NONE);
        }
    }

    /** Promise 7: "-100 if no rule fits" */
    private static void noRuleFits() {
        LoanRules x = new LoanRules();
        due("7: there is none", lend(x, 0, 0, 0), -100);
        tell(x, "kind 1 lend 5");
        tell(x, "type 1 lend 5");
        tell(x, "person 1 lend 5");
        due("7: none fits", lend(x, 0, 0, 0), -100);
        due("7: no rule of rank -1 either", x.clash(0, 0), NONE);
        due("7: none is met", x.never(2), 2);
        due("7: none fits, ahead of no due day", lend(x, 0, 0, 9999), -100);
    }

    /** Promise 7: "-101 if there is no due day" */
    private static void noDueDay() {
        LoanRules x = with("lend 1", "lend 0", "type 1 lend term rank 1");
        x.row(1, 1, 1);
        due("7: behind the last day", lend(x, 0, 0, 9999), -101);
        due("7: the item is free", lend(x, 0, 0, 9998), 1);
        due("7: no end of a term", lend(x, 0, 1, 0), -101);
        due("7: met all the same", x.never(1), NONE);
        due("7: a clash all the same", x.clash(0, 0) * 10 + x.clash(0, 1), 1);
        due("7: explained all the same", x.explain(0), 2);
        LoanRules y = with("refuse rank 1", "lend 1");
        due("7: a refusal needs no due day", lend(y, 0, 0, 9999), -1);
    }

    /** Promise 7: "-102 less the cause if the person is blocked (looked at behind 0, ahead of the rules ..)" */
    private static void blockedBorrower() {
        LoanRules x = with("fail", "fail", "kind 1 lend 1 rank 1");
        x.throwsUp(0, true);
        for (int cause = 1; cause <= 9; cause++) {
            x.block(0, cause);
            due("7: cause " + cause, lend(x, 0, 0, 0), -102 - cause);
        }
        due("7: no rule is met then", x.never(0), 0);
        due("7: nor a clash", x.clash(0, 0), NONE);
        due("7: nor explained", x.explain(0), NONE);
        due("7: behind 0", lend(x, 0, 50, 0), 0);
        x.row(0, 1, 1);
        due("7: lent to another", lend(x, 1, 0, 0), 1);
        due("7: behind 0", lend(x, 0, 0, 0), 0);
        LoanRules none = new LoanRules();
        none.block(0, 1);
        due("7: ahead of no rule", lend(none, 0, 0, 0), -103);
        x.block(0, 0);
        due("7: by none", lend(x, 0, 1, 0), THROWN);
    }

    /** Promise 7: "IllegalStateException if THE RULE FAILS and is let through (MET, and a CLASH, all the same)" */
    private static void failsAndIsLetThrough() {
        LoanRules x = with("fail rank 5", "fail rank 5", "kind 1 lend 5 rank 6");
        x.throwsUp(1, true);
        due("7: only another one is let through", lend(x, 0, 0, 0), -1);
        LoanRules y = with("fail rank 5", "lend 5 rank 5", "kind 1 lend 5 rank 6", "lend 4");
        y.throwsUp(0, true);
        y.row(0, 1, 1);
        due("7: not THE RULE", lend(y, 1, 0, 0), 1);
        due("7: not met yet", y.never(0), 0);
        due("7: THE RULE", lend(y, 0, 1, 0), THROWN);
        due("7: met all the same", y.never(0), 1);
        due("7: a clash all the same", y.clash(0, 0), 0);
        due("7: a clash all the same", y.clash(0, 1), 1);
        due("7: the latest that was asked for", y.explain(0) * 100 + y.explain(1) * 10 + y.explain(2), 13);
        due("7: no loan came of it", y.due(2), NONE);
        due("7: it has no due day to look for", lend(y, 0, 1, 9999), THROWN);
        due("7: the item is free", lend(y, 1, 1, 0), 2);
        due("7: 0 is ahead of it", lend(y, 0, 1, 0), 0);
    }

    /** Promise 8: "A loan's due day; NONE if there is none such, or it has been given back." */
    private static void dueOrNone() {
        LoanRules x = with("lend 0");
        due("8: none yet", x.due(1), NONE);
        due("8: lend", lend(x, 0, 0, 0) + lend(x, 0, 1, 9999), 3);
        due("8: day 0", x.due(1), 0);
        due("8: the last day", x.due(2), 9999);
        for (int w : new int[] {Integer.MIN_VALUE, -1, 0, 3, 200, 201, Integer.MAX_VALUE}) {
            due("8: no loan " + w, x.due(w), NONE);
        }
        due("8: back", x.back(1), 1);
        due("8: given back", x.due(1), NONE);
        due("8: the other is not", x.due(2), 9999);
        due("8: lent again", lend(x, 0, 0, 7), 3);
        due("8: the old loan stays given back", x.due(1), NONE);
        due("8: the new one", x.due(3), 7);
    }

    /** Promise 9: "its due day is that of the rule from that day, if that is later" */
    private static void renewedIfLater() {
        LoanRules x = with("lend 5 renew 9", "type 1 lend term renew 9 rank 1");
        x.closed(15, true);
        due("9: lend", lend(x, 0, 0, 10), 1);
        due("9: over a closed day", x.due(1), 16);
        x.closed(15, false);
        due("9: earlier", x.renew(1, 10), 1);
        due("9: does not count", x.due(1), 16);
        due("9: the same", x.renew(1, 11), 1);
        due("9: the same", x.due(1), 16);
        due("9: a day later", x.renew(1, 12), 1);
        due("9: a day later", x.due(1), 17);
        x.row(1, 1, 1);
        x.term(100);
        due("9: lend", lend(x, 0, 1, 0), 2);
        x.term(50);
        due("9: an earlier term", x.renew(2, 1), 1);
        due("9: does not count", x.due(2), 100);
    }

    /** Promise 9: "by the rule by which it was lent" */
    private static void renewedByItsRule() {
        LoanRules x = with("lend 5 renew 2 gap 3", "kind 1 refuse rank 1");
        due("9: lend", lend(x, 0, 0, 0), 1);
        x.row(0, 0, 1);
        x.except(0, 0, 9999);
        tell(x, "lend 99 renew 99 rank 9");
        due("9: its gap", x.renew(1, 2), -2);
        due("9: renewed", x.renew(1, 3), 1);
        due("9: its days", x.due(1), 8);
        due("9: renewed", x.renew(1, 6), 1);
        due("9: as often", x.renew(1, 9), -1);
    }

    /** Promise 9: "0 if there is no such loan or day, or it has been given back" */
    private static void noSuchRenewal() {
        LoanRules x = with("lend 5 renew 9");
        due("9: none yet", x.renew(1, 0), 0);
        due("9: lend", lend(x, 0, 0, 0) + lend(x, 0, 1, 0), 3);
        x.block(0, 1);
        for (int w : new int[] {Integer.MIN_VALUE, -1, 0, 3, 200, 201, Integer.MAX_VALUE}) {
            due("9: no loan " + w, x.renew(w, 0), 0);
        }
        for (int w : WILD) {
            due("9: no day " + w, x.renew(1, w), 0);
        }
        due("9: back", x.back(1), 1);
        due("9: given back", x.renew(1, 0), 0);
        due("9: blocked behind 0", x.renew(2, 0), -103);
    }

    /** Promise 9: "-1 if it was renewed as often as may be" */
    private static void renewedAsOften() {
        for (int often : new int[] {0, 1, 50}) {
            LoanRules x = with("lend 5 renew " + often);
            due("9: lend", lend(x, 0, 0, 10), 1);
            for (int i = 0; i < often; i++) {
                due("9: no due day is no renewal", x.renew(1, 9999), -4);
                due("9: too early is no renewal", x.renew(1, 9), -2);
                due("9: renewal " + i, x.renew(1, 10), 1);
            }
            due("9: as often as may be", x.renew(1, 10), -1);
            due("9: ahead of -2", x.renew(1, 0), -1);
            due("9: ahead of -4", x.renew(1, 9999), -1);
            x.recall(1, 0);
            due("9: ahead of -3", x.renew(1, 10), -1);
            due("9: the count is a loan's own", lend(x, 0, 1, 10), 2);
            due("9: the count is a loan's own", x.renew(2, 10), often == 0 ? -1 : 1);
        }
    }

    /** Promise 9: "-2 if the gap is not over, or the day is before the latest renewal or lending" */
    private static void gapNotOver() {
        LoanRules x = with("lend 5 renew 9", "type 1 lend 5 renew 9 gap 4 rank 1");
        x.row(1, 1, 1);
        due("9: lend", lend(x, 0, 0, 100) + lend(x, 0, 1, 100), 3);
        due("9: before the lending", x.renew(1, 99), -2);
        due("9: on its day", x.renew(1, 100), 1);
        due("9: later", x.renew(1, 200), 1);
        due("9: before the latest renewal", x.renew(1, 199), -2);
        due("9: far before it", x.renew(1, 0), -2);
        due("9: before the lending", x.renew(2, 99), -2);
        due("9: a day before the gap is over", x.renew(2, 103), -2);
        due("9: the gap is over", x.renew(2, 104), 1);
        due("9: a day before the gap is over", x.renew(2, 107), -2);
        x.recall(2, 107);
        due("9: ahead of -3", x.renew(2, 107), -2);
        due("9: the gap is over", x.renew(2, 108), -3);
        due("9: lend", lend(x, 0, 2, 9997), -101);
        x.row(1, 2, 1);
        due("9: lend", lend(x, 0, 2, 9994), 3);
        due("9: ahead of -4", x.renew(3, 9997), -2);
        due("9: the gap is over", x.renew(3, 9998), -4);
    }

    /** Promise 9: "-3 if it was RECALLED" */
    private static void renewalOfARecalled() {
        LoanRules x = with("lend 5 renew 9");
        due("9: lend", lend(x, 0, 0, 10) + lend(x, 0, 1, 10), 3);
        due("9: a recall without a due day is none", x.recall(1, 9999), -4);
        due("9: renewed", x.renew(1, 10), 1);
        due("9: recalled, not earlier", x.recall(1, 10), 15);
        due("9: is recalled", x.renew(1, 11), -3);
        due("9: is recalled, long ago", x.renew(1, 5000), -3);
        due("9: ahead of -4", x.renew(1, 9999), -3);
        due("9: the due day stays", x.due(1), 15);
        due("9: the other is not", x.renew(2, 11), 1);
    }

    /** Promise 9: "-4 if there is no due day" */
    private static void renewalWithoutDueDay() {
        LoanRules x = with("lend 5 renew 1", "type 1 lend term renew 1 rank 1");
        x.row(1, 1, 1);
        x.term(20);
        due("9: lend", lend(x, 0, 0, 10) + lend(x, 0, 1, 10), 3);
        due("9: a day too late", x.renew(1, 9995), -4);
        due("9: the due day stays", x.due(1), 15);
        due("9: just in time", x.renew(1, 9994), 1);
        due("9: the last day", x.due(1), 9999);
        due("9: behind the last term", x.renew(2, 21), -4);
        due("9: the due day stays", x.due(2), 20);
        due("9: on its last day", x.renew(2, 20), 1);
    }

    /** Promise 9: "-102 less the cause if the person is blocked (looked at behind 0)" */
    private static void renewalOfABlocked() {
        LoanRules x = with("lend 5 renew 1");
        due("9: lend", lend(x, 0, 0, 10) + lend(x, 1, 1, 10), 3);
        for (int cause = 1; cause <= 9; cause++) {
            x.block(0, cause);
            due("9: cause " + cause, x.renew(1, 11), -102 - cause);
        }
        due("9: another's loan", x.renew(2, 11), 1);
        due("9: ahead of -2", x.renew(1, 0), -111);
        due("9: ahead of -4", x.renew(1, 9999), -111);
        due("9: behind 0", x.renew(1, 10000), 0);
        due("9: behind 0", x.renew(3, 11), 0);
        due("9: it was no renewal", x.due(1), 15);
        x.block(0, 0);
        due("9: by none", x.renew(1, 11), 1);
        x.recall(1, 11);
        x.block(0, 1);
        due("9: ahead of -1 and -3", x.renew(1, 11), -103);
    }

    /** Promise 10: "its due day, which is that of its rule's recall days from that day, if that is earlier" */
    private static void recalledIfEarlier() {
        int[] days = {0, 2, 3, 4, 5, 100};
        int[] dueDays = {7, 9, 10, 10, 10, 10};
        for (int i = 0; i < days.length; i++) {
            LoanRules x = with("lend 10");
            due("10: lend", lend(x, 0, 0, 0), 1);
            due("10: on day " + days[i], x.recall(1, days[i]), dueDays[i]);
            due("10: on day " + days[i], x.due(1), dueDays[i]);
        }
        LoanRules x = with("lend 10 recall 3");
        due("10: lend", lend(x, 0, 0, 50), 1);
        x.closed(5, true);
        due("10: before the lending, over a closed day", x.recall(1, 2), 6);
        LoanRules y = with("lend 10");
        due("10: lend", lend(y, 0, 0, 0), 1);
        for (int day = 7; day < 12; day++) {
            y.closed(day, true);
        }
        due("10: over closed days not earlier", y.recall(1, 0), 10);
    }

    /** Promise 10: "0 as in renew" */
    private static void noSuchRecall() {
        LoanRules x = with("lend 5");
        due("10: none yet", x.recall(1, 0), 0);
        due("10: lend", lend(x, 0, 0, 0) + lend(x, 0, 1, 0), 3);
        for (int w : new int[] {Integer.MIN_VALUE, -1, 0, 3, 200, 201, Integer.MAX_VALUE}) {
            due("10: no loan " + w, x.recall(w, 0), 0);
        }
        for (int w : WILD) {
            due("10: no day " + w, x.recall(1, w), 0);
        }
        due("10: recalled", x.recall(1, 0), 5);
        due("10: 0 is ahead of -1", x.recall(1, 10000), 0);
        due("10: back", x.back(1), 1);
        due("10: given back", x.recall(1, 0), 0);
        due("10: given back, ahead of -4", x.recall(1, 9999), 0);
    }

    /** Promise 10: "-1 if it was already; -4 if there is no such due day" */
    private static void recalledAlreadyOrNoDay() {
        LoanRules x = with("lend 5");
        due("10: lend", lend(x, 0, 0, 0) + lend(x, 0, 1, 0), 3);
        due("10: a day too late", x.recall(1, 9993), -4);
        due("10: the due day stays", x.due(1), 5);
        due("10: just in time, not earlier", x.recall(1, 9992), 5);
        due("10: already", x.recall(1, 0), -1);
        due("10: already, ahead of -4", x.recall(1, 9993), -1);
        due("10: the other is not", x.recall(2, 0), 5);
        due("10: given back", x.back(1), 1);
        due("10: lent again", lend(x, 0, 0, 0), 3);
        due("10: the new loan is not recalled", x.recall(3, 0), 5);
    }

    /** Promise 11: "A loan is given back: 1; 0 if there is none such, or it has been." */
    private static void backOnce() {
        LoanRules x = with("lend 5");
        due("11: none yet", x.back(1), 0);
        due("11: lend", lend(x, 0, 0, 0) + lend(x, 0, 49, 0), 3);
        for (int w : new int[] {Integer.MIN_VALUE, -1, 0, 3, 200, 201, Integer.MAX_VALUE}) {
            due("11: no loan " + w, x.back(w), 0);
        }
        due("11: back", x.back(2), 1);
        due("11: it has been", x.back(2), 0);
        due("11: lent again", lend(x, 0, 49, 0), 3);
        due("11: the old loan has been", x.back(2), 0);
        due("11: and gives nothing back", lend(x, 0, 49, 0), 0);
        due("11: recalled", x.recall(1, 0), 5);
        x.block(0, 1);
        due("11: recalled and blocked", x.back(1), 1);
    }

    /** Promise 12: "A person is blocked by a cause, 1 .. 9, or by none (0): the cause before" */
    private static void causeBefore() {
        for (int person : new int[] {0, 49}) {
            LoanRules x = new LoanRules();
            for (int cause = 0; cause <= 9; cause++) {
                due("12: the cause before " + cause, x.block(person, cause), Math.max(0, cause - 1));
            }
            due("12: the same again", x.block(person, 9), 9);
            due("12: by none", x.block(person, 0), 9);
            due("12: was by none", x.block(person, 0), 0);
            due("12: another", x.block(49 - person, 0), 0);
        }
    }

    /** Promise 12: "NONE if there is no such person or cause" */
    private static void noSuchPersonOrCause() {
        LoanRules x = new LoanRules();
        due("12: block", x.block(0, 5), 0);
        for (int w : new int[] {-1, 10, Integer.MIN_VALUE, Integer.MAX_VALUE}) {
            due("12: no cause " + w, x.block(0, w), NONE);
        }
        for (int w : new int[] {-1, 50, Integer.MIN_VALUE, Integer.MAX_VALUE}) {
            due("12: no person " + w, x.block(w, 5), NONE);
            due("12: nor by none " + w, x.block(w, 0), NONE);
        }
        due("12: nothing has changed", x.block(0, 0), 5);
    }

    /** Promise 13: "does not count in loans that are asked for on days up to one" */
    private static void exceptUpToADay() {
        int[] untils = {0, 1, 500, 9998, 9999};
        for (int until : untils) {
            LoanRules x = with("refuse rank 1", "lend 0");
            due("13: until " + until, x.except(7, 0, until), 1);
            due("13: on day 0", lend(x, 7, 0, 0), 1);
            due("13: on the day itself", lend(x, 7, 1, until), 2);
            due("13: the day behind", lend(x, 7, 2, until + 1), until == 9999 ? 0 : -1);
            due("13: of another person", lend(x, 8, 3, 0), -1);
        }
        LoanRules x = with("refuse rank 1", "lend 0");
        due("13: before all days", x.except(0, 0, -1), 1);
        due("13: counts on day 0", lend(x, 0, 0, 0), -1);
        due("13: far before", x.except(0, 0, Integer.MIN_VALUE), 1);
        due("13: counts on day 0", lend(x, 0, 0, 0), -1);
        due("13: far behind", x.except(0, 0, Integer.MAX_VALUE), 1);
        due("13: does not count on the last day", lend(x, 0, 0, 9999), 1);
    }

    /** Promise 13: a rule that does not count is not THE RULE, is not MET, makes no CLASH and has not fitted. */
    private static void exceptedDoesNotCount() {
        LoanRules x = with("lend 1 rank 1", "lend 2 rank 1", "lend 3");
        due("13: except", x.except(0, 0, 10), 1);
        due("13: lend", lend(x, 0, 0, 10), 1);
        due("13: by the next", x.due(1), 12);
        due("13: no clash", x.clash(0, 0), NONE);
        due("13: not met", x.never(0), 0);
        due("13: not explained", x.explain(0) * 10 + x.explain(1), 12);
        due("13: no more", x.explain(2), NONE);
        due("13: lend a day later", lend(x, 0, 1, 11), 2);
        due("13: the clash", x.clash(0, 0), 0);
    }

    /** Promise 13: "(in place of what was told before)" */
    private static void exceptInPlace() {
        LoanRules x = with("refuse rank 1", "refuse", "kind 1 lend 5 rank 9");
        due("13: until 100", x.except(0, 0, 100), 1);
        due("13: on day 100", lend(x, 0, 0, 100), -2);
        due("13: earlier", x.except(0, 0, 50), 1);
        due("13: on day 51", lend(x, 0, 0, 51), -1);
        due("13: on day 50", lend(x, 0, 0, 50), -2);
        due("13: later", x.except(0, 0, 60), 1);
        due("13: on day 60", lend(x, 0, 0, 60), -2);
        due("13: the same", x.except(0, 0, 60), 1);
        due("13: on day 61", lend(x, 0, 0, 61), -1);
        due("13: of another rule", x.except(0, 1, 10), 1);
        due("13: the first still holds", lend(x, 0, 0, 60), -2);
        due("13: both", lend(x, 0, 0, 10), -100);
        due("13: of another person", x.except(1, 0, 10), 1);
        due("13: the first still holds", lend(x, 0, 0, 60), -2);
        due("13: taken back", x.except(0, 0, -1), 1);
        due("13: on day 0", lend(x, 0, 0, 0), -1);
    }

    /** Promise 13: "0 if there is no such person or rule" */
    private static void exceptRefused() {
        LoanRules x = new LoanRules();
        due("13: no rule yet", x.except(0, 0, 9999), 0);
        due("13: a rule", tell(x, "refuse"), 0);
        due("13: what was refused does not count later", lend(x, 0, 0, 0), -1);
        for (int w : new int[] {-1, 1, 39, 40, Integer.MIN_VALUE, Integer.MAX_VALUE}) {
            due("13: no rule " + w, x.except(0, w, 9999), 0);
        }
        for (int w : new int[] {-1, 50, Integer.MIN_VALUE, Integer.MAX_VALUE}) {
            due("13: no person " + w, x.except(w, 0, 9999), 0);
        }
        due("13: nothing has changed", lend(x, 0, 0, 0) + lend(x, 49, 0, 0), -2);
        due("13: the second rule", tell(x, "refuse rank 1"), 1);
        due("13: counts", lend(x, 0, 0, 0), -2);
        due("13: the last person", x.except(49, 1, 9999), 1);
        due("13: the last person", lend(x, 49, 0, 0), -1);
    }

    /** Promise 14: "A rule that FAILS is let through, or not (at first): what it was" */
    private static void throwsUpWhatItWas() {
        LoanRules x = with("fail", "kind 1 fail rank 1");
        x.row(0, 1, 1);
        for (int rule = 0; rule < 2; rule++) {
            due("14: fails at first", lend(x, rule, 0, 0), -1 - rule);
            due("14: not at first", x.throwsUp(rule, false), false);
            due("14: still not", x.throwsUp(rule, true), false);
            due("14: let through", lend(x, rule, 0, 0), THROWN);
            due("14: it was", x.throwsUp(rule, true), true);
            due("14: it was", x.throwsUp(rule, false), true);
            due("14: no more", lend(x, rule, 0, 0), -1 - rule);
            due("14: it was not", x.throwsUp(rule, false), false);
        }
    }

    /** Promise 14: "false if there is none such" */
    private static void throwsUpNoneSuch() {
        LoanRules x = with("lend 5", "kind 1 refuse rank 1", "kind 2 lend term rank 1");
        for (int rule : new int[] {0, 1, 2, 3, 39, 40, -1, Integer.MIN_VALUE, Integer.MAX_VALUE}) {
            due("14: rule " + rule, x.throwsUp(rule, true), false);
            due("14: rule " + rule + " again", x.throwsUp(rule, true), false);
        }
        x.row(0, 1, 1);
        x.row(0, 2, 2);
        due("14: it lends", lend(x, 0, 0, 0), 1);
        due("14: it refuses", lend(x, 1, 1, 0), -2);
        due("14: it has no due day", lend(x, 2, 1, 0), -101);
        due("14: a rule told later", tell(x, "fail rank 2"), 3);
        due("14: is not let through at first", lend(x, 0, 1, 0), -4);
        due("14: is not let through at first", x.throwsUp(3, true), false);
    }

    /** Promise 15: "Of the latest loan that was asked for (not 0, not blocked)" */
    private static void explainTheLatest() {
        LoanRules x = with("kind 0 lend 5", "kind 1 fail", "kind 2 refuse", "kind 3 lend term");
        for (int kind = 0; kind <= 4; kind++) {
            x.row(0, kind, kind);
        }
        due("15: lend", lend(x, 0, 0, 0), 1);
        due("15: it lent", x.explain(0), 0);
        due("15: fail", lend(x, 1, 1, 0), -2);
        due("15: it failed", x.explain(0), 1);
        due("15: refuse", lend(x, 2, 1, 0), -3);
        due("15: it refused", x.explain(0), 2);
        due("15: no due day", lend(x, 3, 1, 0), -101);
        due("15: it had no due day", x.explain(0), 3);
        due("15: 0", lend(x, 0, 0, 0) + lend(x, 50, 1, 0) + lend(x, 0, 50, 0) + lend(x, 0, 1, 10000), 0);
        due("15: 0 is not asked for", x.explain(0), 3);
        x.block(0, 1);
        due("15: blocked", lend(x, 0, 1, 0), -103);
        due("15: blocked is not asked for", x.explain(0), 3);
        due("15: no rule fits", lend(x, 4, 1, 0), -100);
        due("15: none fitted", x.explain(0), NONE);
        x.throwsUp(1, true);
        due("15: throws", lend(x, 1, 1, 0), THROWN);
        due("15: it was let through", x.explain(0), 1);
        due("15: back, renew and recall ask for none", x.renew(1, 0) + x.recall(1, 0) + x.back(1), -103 + 5 + 1);
        due("15: the same", x.explain(0), 1);
    }

    /** Promise 15: "the i-th rule that fitted, from 0 on, by ranks, the highest first, then by numbers" */
    private static void explainByRanks() {
        LoanRules x = with("lend 1", "lend 2 rank 999", "lend 3 rank 1", "kind 1 lend 4 rank 5", "lend 5 rank 999",
            "lend 6 rank 1", "lend 7", "lend 8 rank 998");
        due("15: lend", lend(x, 0, 0, 0), 1);
        int[] order = {1, 4, 7, 2, 5, 0, 6, NONE};
        for (int i = 0; i < order.length; i++) {
            due("15: " + i, x.explain(i), order[i]);
        }
    }

    /** Promise 15: "NONE if there is none such" */
    private static void explainNoneSuch() {
        LoanRules x = new LoanRules();
        due("15: nothing asked for", x.explain(0), NONE);
        due("15: none fits", lend(x, 0, 0, 0), -100);
        due("15: none fitted", x.explain(0), NONE);
        for (int i = 0; i < 40; i++) {
            tell(x, "fail");
        }
        due("15: none fitted then", x.explain(0), NONE);
        due("15: asked for", lend(x, 0, 0, 0), -1);
        due("15: the last", x.explain(39), 39);
        for (int w : new int[] {Integer.MIN_VALUE, -1, 40, 41, Integer.MAX_VALUE}) {
            due("15: none " + w, x.explain(w), NONE);
        }
    }

    /** Promise 16: "The i-th rule, from 0 on, that was never MET; NONE if there is none such." */
    private static void neverMet() {
        LoanRules x = new LoanRules();
        due("16: no rule", x.never(0), NONE);
        for (int i = 0; i < 40; i++) {
            tell(x, "fail");
        }
        due("16: the last", x.never(39), 39);
        for (int w : new int[] {Integer.MIN_VALUE, -1, 40, 41, Integer.MAX_VALUE}) {
            due("16: none " + w, x.never(w), NONE);
        }
        for (int i = 0; i < 40; i++) {
            due("16: the first that was never met", x.never(0), i);
            due("16: the last that was never met", x.never(39 - i), 39);
            due("16: no more of them", x.never(40 - i), NONE);
            due("16: asked for", lend(x, 0, 0, 0), -1 - i);
            x.except(0, i, 9999);
        }
        due("16: all were met", x.never(0), NONE);
    }

    /** Promise 16: a rule that was MET once is never again one that was never MET. */
    private static void metForGood() {
        LoanRules x = with("lend 5", "kind 1 lend 5 rank 1");
        due("16: lend", lend(x, 0, 0, 0), 1);
        due("16: met", x.never(0), 1);
        due("16: back", x.back(1), 1);
        due("16: excepted", x.except(0, 0, 9999), 1);
        x.row(0, 0, 1);
        due("16: lend", lend(x, 0, 0, 0), 2);
        due("16: all were met", x.never(0), NONE);
    }

    /** Promise 17: "Of the i-th CLASH, from 0 on (each pair of rules but once, as they came first)" */
    private static void clashesOnce() {
        LoanRules x = with("kind 1 lend 1", "kind 2 lend 1", "type 1 lend 1", "type 2 lend 1");
        int[][] asked = {{2, 2}, {1, 1}, {2, 2}, {1, 2}, {1, 1}, {2, 1}, {1, 2}};
        for (int[] loan : asked) {
            x.row(0, 0, loan[0]);
            x.row(1, 0, loan[1]);
            due("17: lend", lend(x, 0, 0, 0) > 0, true);
            for (int i = 1; i <= asked.length; i++) {
                x.back(i);
            }
        }
        int[][] clashes = {{1, 3}, {0, 2}, {0, 3}, {1, 2}, {NONE, NONE}};
        for (int i = 0; i < clashes.length; i++) {
            due("17: the first of " + i, x.clash(i, 0), clashes[i][0]);
            due("17: the second of " + i, x.clash(i, 1), clashes[i][1]);
        }
    }

    /** Promise 17: many pairs: the last two rules too. */
    private static void clashesOfForty() {
        LoanRules x = new LoanRules();
        for (int i = 0; i < 40; i++) {
            tell(x, "fail");
        }
        for (int i = 0; i < 40; i++) {
            due("17: asked for", lend(x, 0, 0, 0), -1 - i);
            due("17: asked for by another", lend(x, 1, 0, 0), -1);
            x.except(0, i, 9999);
        }
        for (int i = 0; i < 39; i++) {
            due("17: the first of " + i, x.clash(i, 0), i);
            due("17: the second of " + i, x.clash(i, 1), i + 1);
        }
        due("17: one alone is no clash", x.clash(39, 0), NONE);
    }

    /** Promise 17: as many pairs as two persons and forty rules make. */
    private static void manyClashes() {
        LoanRules x = new LoanRules();
        for (int i = 0; i < 40; i++) {
            tell(x, "fail");
        }
        for (int i = 0; i < 39; i++) {
            due("17: the next two", lend(x, 0, 0, 0), -1 - i);
            x.except(0, i, 9999);
        }
        for (int i = 1; i < 39; i++) {
            x.except(1, i, 9999);
            due("17: the first and a later one", lend(x, 1, 0, 0), -1);
        }
        for (int i = 0; i < 39; i++) {
            due("17: the second of " + i, x.clash(i, 1), i + 1);
        }
        for (int i = 39; i < 77; i++) {
            due("17: the second of " + i, x.clash(i, 1), i - 37);
            due("17: the first of " + i, x.clash(i, 0), 0);
        }
        due("17: no more", x.clash(77, 0), NONE);
    }

    /** Promise 17: "side 0 the first rule, 1 the second; NONE if there is none such, or for another side" */
    private static void clashSides() {
        LoanRules x = with("lend 1", "lend 2");
        due("17: none yet", x.clash(0, 0) + x.clash(0, 1), 2 * NONE);
        due("17: lend", lend(x, 0, 0, 0), 1);
        due("17: side 0", x.clash(0, 0), 0);
        due("17: side 1", x.clash(0, 1), 1);
        for (int w : new int[] {-1, 2, 3, Integer.MIN_VALUE, Integer.MAX_VALUE}) {
            due("17: side " + w, x.clash(0, w), NONE);
        }
        for (int w : new int[] {-1, 1, 779, 780, Integer.MIN_VALUE, Integer.MAX_VALUE}) {
            due("17: no clash " + w, x.clash(w, 0), NONE);
            due("17: no clash " + w, x.clash(w, 1), NONE);
        }
    }

    private static void promises1To6() {
        newObject();
        lowestEightBits();
        lostBeyond120();
        lostForGood();
        nothingIsCollectedAnyMore();
        wrongLessThePlace();
        fullOfRules();
        whatTheDayWas();
        noSuchDayToClose();
        termOnce();
        rowFromNowOn();
        rowRefused();
    }

    private static void promise7() {
        loansAreNumbered();
        noSuchPersonItemOrDay();
        somebodyHasIt();
        twoHundredLoans();
        refusesOrFails();
        noRuleFits();
        noDueDay();
        blockedBorrower();
        failsAndIsLetThrough();
    }

    private static void promises8To11() {
        dueOrNone();
        renewedIfLater();
        renewedByItsRule();
        noSuchRenewal();
        renewedAsOften();
        gapNotOver();
        renewalOfARecalled();
        renewalWithoutDueDay();
        renewalOfABlocked();
        recalledIfEarlier();
        noSuchRecall();
        recalledAlreadyOrNoDay();
        backOnce();
    }

    private static void promises12To17() {
        causeBefore();
        noSuchPersonOrCause();
        exceptUpToADay();
        exceptedDoesNotCount();
        exceptInPlace();
        exceptRefused();
        throwsUpWhatItWas();
        throwsUpNoneSuch();
        explainTheLatest();
        explainByRanks();
        explainNoneSuch();
        neverMet();
        metForGood();
        clashesOnce();
        clashesOfForty();
        manyClashes();
        clashSides();
    }

    public static void main(String[] args) {
        promises1To6();
        promise7();
        promises8To11();
        promises12To17();
        end("all edges of the promises hold");
    }
}
