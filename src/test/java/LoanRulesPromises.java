/** Each promise of the document by hand: ordinary inputs, the edges it names, wrong inputs. */
public final class LoanRulesPromises extends Checks {
    private static void promise1NewObject() {
        LoanRules x = new LoanRules();
        due("1: nothing is collected", x.rule(), -1);
        due("1: no rules", x.never(0), NONE);
        due("1: no clashes", x.clash(0, 0), NONE);
        due("1: nothing to explain", x.explain(0), NONE);
        due("1: no rule fits", lend(x, 0, 0, 0), -100);
        due("1: no loan", x.due(1), NONE);
        tell(x, "lend term");
        due("1: no terms", lend(x, 0, 0, 0), -101);
        for (int person = 0; person < 50; person++) {
            due("1: not blocked " + person, x.block(person, 0), 0);
        }
        LoanRules y = with("kind 0 type 0 lend 1");
        for (int i = 0; i < 50; i++) {
            due("1: kind and type 0 of " + i, lend(y, i, i, 0), i + 1);
        }
        for (int day = 0; day < 10000; day++) {
            due("1: open " + day, new LoanRules().closed(day, true), false);
        }
        LoanRules other = new LoanRules();
        due("1: objects share nothing", other.never(0), NONE);
    }

    private static void promise2Sign() {
        LoanRules x = new LoanRules();
        for (char c : "fail".toCharArray()) {
            x.sign(c + 256);
        }
        due("2: only eight bits", x.rule(), 0);
        for (char c : "fail".toCharArray()) {
            x.sign(c - 512);
        }
        due("2: only eight bits, below 0", x.rule(), 1);
        collect(x, "lend ");
        collect(x, "1".repeat(300));
        due("2: digits to the 120th", x.rule(), -6);
        collect(x, " ".repeat(120));
        collect(x, "fail");
        due("2: wrong at its first sign", x.rule(), -1);
        due("2: nothing left over", tell(x, "fail"), 2);
        x.sign(255);
        due("2: sign 255", x.rule(), -1);
    }

    /** The 120 signs are far more than a right rule has, so the limit shows by what is kept only. */
    private static void promise2Limit() {
        LoanRules x = new LoanRules();
        due("2: the longest rule", tell(x, "kind 1 type 2 person 49 lend 999 renew 999 gap 999 recall 999 rank 999"), 0);
        collect(x, "lend ");
        collect(x, "x".repeat(200));
        collect(x, " rank 5");
        due("2: 212 signs", x.rule(), -6);
        due("2: all are forgotten", tell(x, "lend 5"), 1);
    }

    private static void promise3Right() {
        String[] right = {
            "lend 0", "lend 7", "lend 007", "lend 999", "lend term", "refuse", "fail",
            "kind 0 refuse", "type 9 fail", "person 0 lend 1", "person 49 lend 1", "person 05 lend 1",
            "kind 1 type 2 person 3 refuse rank 999", "kind 1 person 3 fail rank 0", "type 1 person 3 fail",
            "lend 1 renew 0", "lend 1 gap 10", "lend 1 recall 100", "lend term rank 1",
            "lend term renew 1 gap 2 recall 3 rank 4", "lend 5 renew 1 recall 3", "lend 5 gap 1 rank 3",
            "lend 5 renew 999 rank 1", "lend 5 recall 000"};
        for (String text : right) {
            LoanRules x = with("fail");
            due("3: " + text, tell(x, text), 1);
            due("3: nothing is collected after " + text, x.rule(), -1);
        }
    }

    private static void promise3Wrong() {
        wrongAt(0, "");
        wrongAt(0, " ");
        wrongAt(0, " lend 5");
        wrongAt(0, "x");
        wrongAt(0, "Lend 5");
        wrongAt(0, "rank 5");
        wrongAt(0, "5");
        wrongAt(0, "lenx 5");
        wrongAt(0, "len");
        wrongAt(0, "lendx 5");
        wrongAt(4, "kind1 lend 5");
        wrongAt(4, "lend5");
        wrongAt(0, "len5");
        wrongAt(4, "lend");
        wrongAt(5, "lend ");
        wrongAt(5, "lend  5");
        wrongAt(5, "lend x");
        wrongAt(5, "lend -1");
        wrongAt(5, "lend terms");
        wrongAt(5, "lend ter");
        wrongAt(6, "lend 5x");
        wrongAt(6, "lend 5\t");
        wrongAt(5, "lend 1000");
        wrongAt(5, "lend 0001");
        wrongAt(5, "lend 1000x");
        wrongAt(5, "lend 4294967296");
        wrongAt(7, "lend 5 ");
        wrongAt(7, "lend 5  rank 1");
        wrongAt(7, "lend 5 renews 1");
        wrongAt(7, "lend 5 7");
        wrongAt(7, "lend 5 kind 1");
        wrongAt(10, "lend term 5");
        wrongAt(4, "fail\u0000");
        wrongAt(6, "lend 5\u0000");
        wrongAt(6, "lend 5\u00ff");
        wrongAt(6, "lend 5rank 1");
    }

    private static void promise3WrongParts() {
        wrongAt(4, "kind");
        wrongAt(5, "kind ");
        wrongAt(5, "kind x lend 5");
        wrongAt(5, "kind 10 lend 5");
        wrongAt(6, "kind 1");
        wrongAt(6, "kind 1lend 5");
        wrongAt(6, "kind 1type 2 fail");
        wrongAt(7, "kind 1 ");
        wrongAt(7, "kind 1 kind 1 lend 5");
        wrongAt(7, "kind 1 rank 2");
        wrongAt(7, "kind 1  lend 5");
        wrongAt(5, "type 00 lend 5");
        wrongAt(7, "person 50 lend 5");
        wrongAt(7, "person 99 lend 5");
        wrongAt(7, "person 001 lend 5");
        wrongAt(9, "person 1 type 1 lend 5");
        wrongAt(9, "person 1 kind 1 lend 5");
        wrongAt(7, "refuse 5");
        wrongAt(7, "refuse gap 5");
        wrongAt(5, "fail renew 5");
        wrongAt(5, "fail recall 5");
        wrongAt(5, "fail ");
        wrongAt(9, "fail rank");
        wrongAt(10, "fail rank ");
        wrongAt(10, "fail rank 1000");
        wrongAt(11, "fail rank 1x");
        wrongAt(15, "lend 5 renew 1 renew 1");
        wrongAt(16, "lend 5 recall 1 gap 1");
        wrongAt(16, "lend 5 recall 1 renew 1");
        wrongAt(13, "lend 5 gap 1 renew 1");
        wrongAt(11, "lend 5 gap 1000");
        wrongAt(14, "lend 5 rank 1 gap 2");
        wrongAt(14, "lend 5 rank 1 rank 2");
        wrongAt(14, "lend 5 rank 1 ");
    }

    /** Rules up to and with each of the words that a rule may have. */
    private static final String[] TO_EACH_WORD = {
        "kind", "type", "kind 1 type", "person", "type 2 person", "kind 1 type 2 person",
        "lend", "kind 1 lend", "person 3 lend", "lend term", "type 9 lend term",
        "refuse", "kind 1 refuse", "fail", "person 49 fail",
        "lend 5 renew", "lend term renew", "lend 5 gap", "lend term gap", "lend 5 renew 1 gap",
        "lend 5 recall", "lend term recall", "lend 5 renew 1 gap 2 recall",
        "lend 5 rank", "lend term rank", "lend 5 renew 1 gap 2 recall 3 rank", "refuse rank", "fail rank"};

    private static boolean isLetter(char sign) {
        return (sign >= 'a' && sign <= 'z') || (sign >= 'A' && sign <= 'Z');
    }

    /** Behind a word a letter makes another word of it; any other sign but a space is itself the wrong one. */
    private static void promise3BehindWords() {
        for (String text : TO_EACH_WORD) {
            int firstSign = text.lastIndexOf(' ') + 1;
            for (char sign = 0; sign < 256; sign++) {
                if (sign != ' ') {
                    wrongAt(isLetter(sign) ? firstSign : text.length(), text + sign);
                    wrongAt(isLetter(sign) ? firstSign : text.length(), text + sign + " 5");
                    wrongAt(isLetter(sign) ? firstSign : text.length(), text + sign + "x");
                }
            }
        }
    }

    /** A word that is not whole can't be there, whatever sign ends it. */
    private static void promise3CutWords() {
        for (String text : TO_EACH_WORD) {
            int firstSign = text.lastIndexOf(' ') + 1;
            for (int end = firstSign + 1; end < text.length(); end++) {
                String cut = text.substring(0, end);
                for (String behind : new String[] {"", " ", " 5", "\u0000", "5", ".", "x", "\u00ff"}) {
                    wrongAt(firstSign, cut + behind);
                }
            }
        }
    }

    private static void promise3Full() {
        LoanRules x = new LoanRules();
        for (int i = 0; i < 40; i++) {
            due("3: rule " + i, tell(x, "fail"), i);
        }
        due("3: the 41st", tell(x, "fail"), -200);
        due("3: the 41st is forgotten", tell(x, "refuse"), -200);
        due("3: wrong comes first", tell(x, "fail "), -6);
        due("3: none more", x.never(40), NONE);
        due("3: the last", x.never(39), 39);
    }

    private static void promise4Closed() {
        LoanRules x = with("lend 0");
        due("4: was open", x.closed(0, true), false);
        due("4: was closed", x.closed(0, true), true);
        due("4: was closed, opens", x.closed(0, false), true);
        due("4: was open again", x.closed(0, false), false);
        due("4: the last day", x.closed(9999, true), false);
        due("4: the last day was closed", x.closed(9999, false), true);
        for (int day : WILD) {
            x.closed(day, true);
            due("4: no day " + day, x.closed(day, true), false);
        }
        for (int day = 100; day < 300; day++) {
            x.closed(day, true);
        }
        x.closed(170, false);
        due("4: lend", lend(x, 0, 0, 100), 1);
        due("4: the next open day", x.due(1), 170);
        due("4: lend", lend(x, 0, 1, 171), 2);
        due("4: the next open day behind all", x.due(2), 300);
        x.closed(300, true);
        due("4: a due day once set stays", x.due(2), 300);
        x.closed(9998, true);
        x.closed(9999, true);
        due("4: no open day more", lend(x, 0, 2, 9998), -101);
        due("4: the last open day", lend(x, 0, 2, 9997), 3);
        due("4: the last open day", x.due(3), 9997);
    }

    private static void promise5Term() {
        LoanRules x = with("lend term");
        due("5: first", x.term(64), 1);
        due("5: again", x.term(64), 0);
        due("5: day 0", x.term(0), 1);
        due("5: the last day", x.term(9999), 1);
        due("5: the last day again", x.term(9999), 0);
        for (int day : WILD) {
            due("5: no day " + day, x.term(day), 0);
        }
        int[][] loans = {{0, 0}, {1, 64}, {63, 64}, {64, 64}, {65, 9999}, {9999, 9999}};
        for (int i = 0; i < loans.length; i++) {
            due("5: lend", lend(x, 0, i, loans[i][0]), i + 1);
            due("5: the first end not before " + loans[i][0], x.due(i + 1), loans[i][1]);
        }
        x.closed(9999, true);
        due("5: the end is closed, nothing behind it", lend(x, 0, 20, 65), -101);
        x.closed(64, true);
        due("5: lend", lend(x, 0, 21, 3), 7);
        due("5: a closed end becomes the next open day", x.due(7), 65);
        for (int day = 0; day < 300; day++) {
            LoanRules y = with("lend term");
            y.term(day);
            due("5: lend", lend(y, 0, 0, 0), 1);
            due("5: the only end", y.due(1), day);
            due("5: lend on the day behind it", lend(y, 0, 1, day + 1), -101);
        }
    }

    private static void promise6Row() {
        LoanRules x = with("kind 3 refuse rank 2", "type 4 refuse rank 1", "lend 1");
        due("6: kind", x.row(0, 49, 3), 1);
        due("6: kind 3", lend(x, 49, 0, 0), -1);
        due("6: kind of others", lend(x, 48, 0, 0), 1);
        due("6: type", x.row(1, 49, 4), 1);
        due("6: type 4", lend(x, 0, 49, 0), -2);
        due("6: type of others", lend(x, 0, 48, 0), 2);
        due("6: kind back", x.row(0, 49, 0), 1);
        due("6: kind 0", lend(x, 49, 1, 0), 3);
        due("6: type 9", x.row(1, 49, 9), 1);
        due("6: type 9 fits", lend(x, 49, 49, 0), 4);
        due("6: kind 10", x.row(0, 0, 10), 0);
        due("6: kind -1", x.row(0, 0, -1), 0);
        due("6: type 10", x.row(1, 0, 10), 0);
        due("6: no person 50", x.row(0, 50, 1), 0);
        due("6: no item 50", x.row(1, 50, 1), 0);
        due("6: what 2", x.row(2, 0, 1), 0);
        due("6: what -1", x.row(-1, 0, 1), 0);
        for (int w : WILD) {
            due("6: wild what", x.row(w, 1, 1), 0);
            due("6: wild person", x.row(0, w, 1), 0);
            due("6: wild item", x.row(1, w, 1), 0);
            due("6: wild v", x.row(0, 1, w) + x.row(1, 1, w), 0);
        }
    }

    private static void promise7Answers() {
        LoanRules x = with("kind 1 refuse", "kind 2 fail", "kind 3 lend 10", "kind 4 lend term");
        for (int i = 1; i < 5; i++) {
            x.row(0, i, i);
        }
        due("7: none fits", lend(x, 0, 0, 0), -100);
        due("7: refuses", lend(x, 1, 0, 0), -1);
        due("7: fails", lend(x, 2, 0, 0), -2);
        due("7: no term", lend(x, 4, 0, 0), -101);
        due("7: beyond the last day", lend(x, 3, 0, 9990), -101);
        due("7: to the last day", lend(x, 3, 0, 9989), 1);
        due("7: due on the last day", x.due(1), 9999);
        due("7: somebody has it", lend(x, 3, 0, 0), 0);
        due("7: he has it himself", lend(x, 1, 0, 0), 0);
        due("7: another item", lend(x, 3, 1, 0), 2);
        due("7: given back", x.back(1), 1);
        due("7: free again", lend(x, 3, 0, 5), 3);
        for (int w : WILD) {
            due("7: wild person", lend(x, w, 2, 0), 0);
            due("7: wild item", lend(x, 3, w, 0), 0);
            due("7: wild day", lend(x, 3, 2, w), 0);
        }
        due("7: person 50", lend(x, 50, 2, 0), 0);
        due("7: item 50", lend(x, 3, 50, 0), 0);
        due("7: no person", lend(x, -1, 2, 0), 0);
        due("7: edges", lend(x, 3, 49, 0), 4);
        due("7: due from day 0", x.due(4), 10);
    }

    private static void promise7Highest() {
        LoanRules x = with("lend 1 rank 5", "person 1 lend 2 rank 6", "type 1 lend 3 rank 6", "lend 4 rank 10");
        x.row(1, 1, 1);
        due("7: except", x.except(0, 3, 9999) + x.except(1, 3, 9999), 2);
        int[][] rows = {{0, 0, 1}, {1, 2, 2}, {0, 1, 3}, {2, 3, 4}};
        for (int i = 0; i < rows.length; i++) {
            due("7: lend", lend(x, rows[i][0], rows[i][1], 100), i + 1);
            due("7: by the highest rank", x.due(i + 1), 100 + rows[i][2]);
        }
        x.back(3);
        due("7: of the same rank the first", lend(x, 1, 1, 200), 5);
        due("7: of the same rank the first", x.due(5), 202);
    }

    private static void promise7Throws() {
        LoanRules x = with("fail rank 3", "fail rank 3", "lend 1");
        due("7: not let through", lend(x, 0, 0, 0), -1);
        due("7: let through", x.throwsUp(0, true), false);
        due("7: throws", lend(x, 0, 0, 0), THROWN);
        due("7: no loan came of it", x.due(1), NONE);
        due("7: a wrong loan is 0 all the same", lend(x, 0, 50, 0), 0);
        x.block(0, 1);
        due("7: blocked comes first", lend(x, 0, 0, 0), -103);
        x.block(0, 0);
        due("7: the item is still free", x.except(0, 0, 5) + x.except(0, 1, 5), 2);
        due("7: lent", lend(x, 0, 0, 5), 1);
        LoanRules y = with("fail rank 3", "fail rank 3", "lend 1");
        y.throwsUp(0, true);
        due("7: throws at once", lend(y, 0, 0, 0), THROWN);
        due("7: met all the same", y.never(0), 1);
        due("7: a clash all the same", y.clash(0, 0), 0);
        due("7: a clash all the same", y.clash(0, 1), 1);
        due("7: explained all the same", y.explain(2), 2);
    }

    private static void promise7Most() {
        LoanRules x = with("lend 1", "person 1 refuse rank 1");
        for (int i = 1; i <= 200; i++) {
            due("7: loan " + i, lend(x, 0, i % 50, 0), i);
            if (i < 200) {
                due("7: back " + i, x.back(i), 1);
            }
        }
        due("7: the 201st", lend(x, 0, 1, 0), 0);
        due("7: the 201st, given back or not", x.back(200), 1);
        due("7: the 201st", lend(x, 0, 1, 0), 0);
        due("7: no rule is looked at", lend(x, 1, 1, 0), 0);
        due("7: none met", x.never(0), 1);
        x.block(0, 4);
        due("7: 0 is ahead of blocked", lend(x, 0, 1, 0), 0);
        due("7: no loan 201", x.due(201), NONE);
    }

    private static void promise8Due() {
        LoanRules x = with("lend 5");
        due("8: none yet", x.due(1), NONE);
        due("8: lend", lend(x, 0, 0, 0), 1);
        due("8: due", x.due(1), 5);
        due("8: no loan 0", x.due(0), NONE);
        due("8: no loan 2", x.due(2), NONE);
        for (int w : WILD) {
            due("8: wild", x.due(w), NONE);
        }
        x.back(1);
        due("8: given back", x.due(1), NONE);
    }

    private static void promise9Renew() {
        LoanRules x = with("lend 10 renew 3 gap 4");
        due("9: lend", lend(x, 5, 0, 100), 1);
        due("9: before the lending", x.renew(1, 99), -2);
        due("9: the gap is not over", x.renew(1, 103), -2);
        due("9: the gap is over", x.renew(1, 104), 1);
        due("9: due", x.due(1), 114);
        due("9: the gap from the renewal", x.renew(1, 107), -2);
        due("9: the gap from the renewal", x.renew(1, 108), 1);
        due("9: no due day", x.renew(1, 9990), -4);
        due("9: -4 changed nothing", x.due(1), 118);
        due("9: the last one", x.renew(1, 9989), 1);
        due("9: due on the last day", x.due(1), 9999);
        due("9: often enough", x.renew(1, 9999), -1);
        due("9: often enough, ahead of the gap", x.renew(1, 0), -1);
        x.recall(1, 0);
        due("9: often enough, ahead of recalled", x.renew(1, 9999), -1);
        x.block(5, 9);
        due("9: blocked, ahead of often enough", x.renew(1, 9999), -111);
        due("9: 0 ahead of blocked", x.renew(1, 10000), 0);
        x.block(5, 0);
        for (int w : WILD) {
            due("9: wild loan", x.renew(w, 0), 0);
            due("9: wild day", x.renew(1, w), 0);
        }
        due("9: no loan 2", x.renew(2, 0), 0);
        x.back(1);
        due("9: given back", x.renew(1, 0), 0);
        x.block(5, 9);
        due("9: given back, ahead of blocked", x.renew(1, 0), 0);
    }

    private static void promise9More() {
        LoanRules x = with("lend term renew 9", "kind 1 lend 1 rank 1", "person 2 lend 20 renew 5 gap 2 rank 2");
        x.term(50);
        x.term(90);
        due("9: lend", lend(x, 0, 0, 10), 1);
        due("9: no gap", x.renew(1, 10), 1);
        due("9: not later", x.due(1), 50);
        x.row(0, 0, 1);
        due("9: by the rule by which it was lent", x.renew(1, 51), 1);
        due("9: the next term", x.due(1), 90);
        due("9: without a gap, before the latest", x.renew(1, 50), -2);
        due("9: no term more", x.renew(1, 91), -4);
        x.except(0, 0, 9999);
        due("9: exceptions change no loan", x.renew(1, 60), 1);
        due("9: lend", lend(x, 2, 1, 10), 2);
        x.closed(32, true);
        x.closed(33, true);
        due("9: renewed over closed days", x.renew(2, 12), 1);
        due("9: the next open day", x.due(2), 34);
        due("9: recalled", x.recall(2, 13), 20);
        due("9: the gap, ahead of recalled", x.renew(2, 13), -2);
        due("9: is recalled", x.renew(2, 14), -3);
        due("9: recalled, ahead of no due day", x.renew(2, 9999), -3);
        LoanRules y = with("lend 9 renew 2");
        due("9: lend", lend(y, 0, 0, 10), 1);
        due("9: -4", y.renew(1, 9995), -4);
        due("9: -4 is no renewal, its day no latest", y.renew(1, 11), 1);
        due("9: and again", y.renew(1, 11), 1);
        due("9: twice", y.renew(1, 11), -1);
        LoanRules z = with("lend 9");
        due("9: lend", lend(z, 0, 0, 10), 1);
        due("9: no renewals without the word", z.renew(1, 11), -1);
        due("9: due as before", z.due(1), 19);
    }

    /** A renewal whose due day is before the present one counts, and moves nothing. */
    private static void promise9NotLater() {
        LoanRules x = with("lend 2 renew 2 gap 1");
        for (int day = 12; day < 20; day++) {
            x.closed(day, true);
        }
        due("9: lend", lend(x, 0, 0, 10), 1);
        due("9: over the closed days", x.due(1), 20);
        for (int day = 12; day < 20; day++) {
            x.closed(day, false);
        }
        due("9: renewed", x.renew(1, 11), 1);
        due("9: an earlier due day does not count", x.due(1), 20);
        due("9: the renewal counts", x.renew(1, 11), -2);
        due("9: renewed", x.renew(1, 19), 1);
        due("9: later", x.due(1), 21);
        due("9: the renewal counted", x.renew(1, 30), -1);
    }

    private static void promise10Recall() {
        LoanRules x = with("lend 100 renew 1", "type 1 lend 100 recall 0 rank 1", "type 2 lend 3 recall 10 rank 1");
        x.row(1, 1, 1);
        x.row(1, 2, 2);
        due("10: lend", lend(x, 0, 0, 10), 1);
        due("10: lend", lend(x, 0, 1, 10), 2);
        due("10: lend", lend(x, 0, 2, 10), 3);
        due("10: no such due day", x.recall(1, 9993), -4);
        due("10: -4 recalls nothing", x.recall(1, 50), 57);
        due("10: due", x.due(1), 57);
        due("10: already", x.recall(1, 20), -1);
        due("10: already, ahead of no due day", x.recall(1, 9999), -1);
        due("10: unchanged", x.due(1), 57);
        x.closed(30, true);
        due("10: the same day, closed", x.recall(2, 30), 31);
        due("10: not earlier", x.recall(3, 12), 13);
        due("10: not earlier", x.due(3), 13);
        due("10: recalled all the same", x.recall(3, 0), -1);
        LoanRules y = with("lend 1 renew 1");
        due("10: lend", lend(y, 0, 0, 50), 1);
        y.block(0, 5);
        due("10: no such loan", y.recall(2, 0), 0);
        due("10: no loan 0", y.recall(0, 0), 0);
        for (int w : WILD) {
            due("10: wild loan", y.recall(w, 0), 0);
            due("10: wild day", y.recall(1, w), 0);
        }
        due("10: before the lending, and blocked", y.recall(1, 2), 9);
        y.block(0, 0);
        due("10: no renewal", y.renew(1, 51), -3);
        y.back(1);
        due("10: given back", y.recall(1, 0), 0);
    }

    private static void promise11Back() {
        LoanRules x = with("lend 1");
        due("11: none yet", x.back(1), 0);
        due("11: lend", lend(x, 0, 0, 0), 1);
        due("11: lend", lend(x, 0, 1, 0), 2);
        due("11: no loan 0", x.back(0), 0);
        due("11: no loan 3", x.back(3), 0);
        for (int w : WILD) {
            due("11: wild", x.back(w), 0);
        }
        due("11: back", x.back(1), 1);
        due("11: again", x.back(1), 0);
        due("11: the other is still out", lend(x, 0, 1, 0), 0);
        due("11: a new number", lend(x, 0, 0, 0), 3);
        due("11: the old loan frees nothing", x.back(1), 0);
        due("11: still out", lend(x, 0, 0, 0), 0);
    }

    private static void promise12Block() {
        LoanRules x = with("lend 5 renew 5");
        due("12: lend", lend(x, 49, 0, 0), 1);
        due("12: by 1", x.block(49, 1), 0);
        due("12: by 9", x.block(49, 9), 1);
        due("12: no cause 10", x.block(49, 10), NONE);
        due("12: no cause -1", x.block(49, -1), NONE);
        due("12: no person 50", x.block(50, 1), NONE);
        for (int w : WILD) {
            due("12: wild person", x.block(w, 1), NONE);
            due("12: wild cause", x.block(49, w), NONE);
        }
        due("12: no loan", lend(x, 49, 1, 0), -111);
        due("12: no renewal", x.renew(1, 1), -111);
        due("12: others are free", lend(x, 48, 1, 0), 2);
        due("12: given back all the same", x.back(1), 1);
        due("12: 0 comes first", lend(x, 49, 1, 0), 0);
        due("12: by none", x.block(49, 0), 9);
        due("12: free", lend(x, 49, 2, 0), 3);
        LoanRules y = with("lend 5", "lend 5");
        y.block(0, 2);
        due("12: blocked", lend(y, 0, 0, 0), -104);
        due("12: none is met", y.never(0), 0);
        due("12: no clash", y.clash(0, 0), NONE);
        due("12: nothing to explain", y.explain(0), NONE);
    }

    private static void promise13Except() {
        LoanRules x = with("refuse rank 2", "refuse rank 1", "lend 5");
        due("13: until 10", x.except(0, 0, 10), 1);
        due("13: the next rule", lend(x, 0, 0, 10), -2);
        due("13: the day behind", lend(x, 0, 0, 11), -1);
        due("13: another person", lend(x, 1, 0, 10), -1);
        due("13: the other rule too", x.except(0, 1, 5), 1);
        due("13: the first still holds", lend(x, 0, 0, 6), -2);
        due("13: both", lend(x, 0, 0, 5), 1);
        due("13: in place of it", x.except(0, 0, 3), 1);
        due("13: earlier", lend(x, 0, 1, 4), -1);
        due("13: in place of it, later", x.except(0, 0, Integer.MAX_VALUE), 1);
        due("13: the last day", lend(x, 0, 1, 9999), -2);
        due("13: none any more", x.except(0, 0, Integer.MIN_VALUE), 1);
        due("13: day 0", lend(x, 0, 1, 0), -1);
        due("13: person 49, day 0", x.except(49, 2, 0), 1);
        due("13: person 49", lend(x, 49, 1, 0), -1);
        due("13: only one left", x.explain(2), NONE);
        due("13: no person 50", x.except(50, 0, 1), 0);
        due("13: no rule 3", x.except(0, 3, 1), 0);
        for (int w : WILD) {
            due("13: wild person", x.except(w, 0, 1), 0);
            due("13: wild rule", x.except(0, w, 1), 0);
        }
        LoanRules y = with("lend 5");
        y.except(0, 0, 10);
        due("13: none is left", lend(y, 0, 0, 0), -100);
        due("13: the rule is not met", y.never(0), 0);
        due("13: a rule told later", tell(y, "lend 6"), 1);
        due("13: has no exception", lend(y, 0, 0, 0), 1);
    }

    private static void promise14ThrowsUp() {
        LoanRules x = with("fail", "fail", "lend 5", "refuse");
        due("14: not at first", x.throwsUp(1, false), false);
        due("14: let through", x.throwsUp(1, true), false);
        due("14: the other is not", lend(x, 0, 0, 0), -1);
        due("14: was let through", x.throwsUp(1, true), true);
        x.except(0, 0, 9999);
        due("14: throws", lend(x, 0, 0, 0), THROWN);
        due("14: throws again", lend(x, 0, 0, 0), THROWN);
        due("14: no more", x.throwsUp(1, false), true);
        due("14: answers", lend(x, 0, 0, 0), -2);
        due("14: no rule 4", x.throwsUp(4, true), false);
        due("14: no rule 4, again", x.throwsUp(4, true), false);
        for (int w : WILD) {
            x.throwsUp(w, true);
            due("14: wild", x.throwsUp(w, true), false);
        }
        for (int r = 2; r < 4; r++) {
            x.throwsUp(r, true);
            due("14: rule " + r + " does not fail", x.throwsUp(r, true), false);
        }
        x.except(0, 1, 9999);
        x.except(1, 0, 9999);
        x.except(1, 1, 9999);
        x.except(1, 2, 9999);
        due("14: it lends", lend(x, 0, 0, 0), 1);
        due("14: it refuses", lend(x, 1, 1, 0), -4);
        due("14: a rule told later", tell(x, "fail"), 4);
        due("14: is not let through", x.throwsUp(4, false), false);
    }

    private static void promise15Explain() {
        LoanRules x = with("lend 1", "refuse rank 5", "kind 1 fail rank 9", "lend 2 rank 5", "lend term rank 7", "fail");
        due("15: nothing asked yet", x.explain(0), NONE);
        due("15: asked", lend(x, 0, 0, 0), -101);
        int[] order = {4, 1, 3, 0, 5, NONE};
        for (int i = 0; i < order.length; i++) {
            due("15: " + i, x.explain(i), order[i]);
        }
        for (int w : WILD) {
            due("15: wild", x.explain(w), NONE);
        }
        due("15: 0 explains nothing", lend(x, 0, 0, 10000), 0);
        due("15: the same", x.explain(0), 4);
        x.row(0, 1, 1);
        x.block(1, 1);
        due("15: blocked explains nothing", lend(x, 1, 0, 0), -103);
        due("15: the same", x.explain(0), 4);
        x.row(0, 0, 1);
        due("15: what fitted then", x.explain(0), 4);
        x.except(0, 4, 9999);
        due("15: what counted then", x.explain(0), 4);
        tell(x, "refuse rank 999");
        due("15: what was told then", x.explain(0), 4);
        due("15: asked again", lend(x, 0, 0, 0), -7);
        int[] later = {6, 2, 1, 3, 0, 5, NONE};
        for (int i = 0; i < later.length; i++) {
            due("15: later " + i, x.explain(i), later[i]);
        }
        LoanRules y = with("kind 0 lend 1");
        due("15: lend", lend(y, 0, 0, 0), 1);
        due("15: it fitted", y.explain(0), 0);
        y.row(0, 0, 1);
        due("15: none fits", lend(y, 0, 1, 0), -100);
        due("15: none fitted", y.explain(0), NONE);
    }

    private static void promise16Never() {
        LoanRules x = with("lend 1", "kind 1 refuse rank 1", "kind 2 lend term rank 1", "kind 3 fail rank 1");
        for (int i = 0; i < 4; i++) {
            due("16: " + i, x.never(i), i);
            x.row(0, i, i);
        }
        due("16: no more", x.never(4), NONE);
        for (int w : WILD) {
            due("16: wild", x.never(w), NONE);
        }
        due("16: refuses", lend(x, 1, 0, 0), -2);
        due("16: met though it refuses", x.never(1), 2);
        due("16: no due day", lend(x, 2, 0, 0), -101);
        due("16: met though there is no due day", x.never(1), 3);
        due("16: fails", lend(x, 3, 0, 0), -4);
        due("16: met though it fails", x.never(1), NONE);
        due("16: fitting is not met", x.never(0), 0);
        due("16: a wrong loan", lend(x, 0, 50, 0), 0);
        due("16: is not asked for", x.never(0), 0);
        due("16: lend", lend(x, 0, 0, 0), 1);
        due("16: all met", x.never(0), NONE);
        tell(x, "lend 5");
        due("16: a new one", x.never(0), 4);
    }

    private static void promise17Clash() {
        LoanRules x = with("lend 1 rank 1", "lend 2 rank 1", "kind 1 lend 3 rank 1", "type 1 refuse rank 2",
                "type 1 fail rank 2", "lend 5");
        x.row(1, 1, 1);
        due("17: none yet", x.clash(0, 0), NONE);
        due("17: refused", lend(x, 0, 1, 0), -4);
        due("17: the first", x.clash(0, 0), 3);
        due("17: the second", x.clash(0, 1), 4);
        x.row(0, 0, 1);
        due("17: three of one rank", lend(x, 0, 0, 0), 1);
        due("17: the first two", x.clash(1, 0), 0);
        due("17: the first two", x.clash(1, 1), 1);
        due("17: but once", lend(x, 0, 1, 0), -4);
        due("17: but once", lend(x, 0, 2, 0), 2);
        due("17: no more", x.clash(2, 0), NONE);
        x.except(0, 1, 9999);
        due("17: without the second", lend(x, 0, 3, 0), 3);
        due("17: the first and the third", x.clash(2, 0), 0);
        due("17: the first and the third", x.clash(2, 1), 2);
        x.except(0, 0, 9999);
        x.except(0, 2, 9999);
        due("17: one alone is none", lend(x, 0, 4, 0), 4);
        due("17: no more", x.clash(3, 0), NONE);
        due("17: no side 2", x.clash(0, 2), NONE);
        due("17: no side -1", x.clash(0, -1), NONE);
        due("17: no clash -1", x.clash(-1, 0), NONE);
        for (int w : WILD) {
            due("17: wild", x.clash(w, 0), NONE);
            due("17: wild", x.clash(w, 1), NONE);
            due("17: wild side", x.clash(0, w), NONE);
        }
    }

    /** Rank 0 clashes too, and one below the highest does not. */
    private static void promise17Ranks() {
        LoanRules x = with("lend 1", "lend 2 rank 0");
        due("17: lend", lend(x, 0, 0, 0), 1);
        due("17: without a rank it is 0", x.clash(0, 1), 1);
        LoanRules y = with("lend 1", "lend 2", "lend 3 rank 1");
        due("17: lend", lend(y, 0, 0, 0), 1);
        due("17: only of the highest", y.clash(0, 0), NONE);
    }

    /** The calls that README.md shows, with the answers that stand behind them there. */
    private static void readmeExample() {
        LoanRules x = new LoanRules();
        due("README: rule", tell(x, "kind 1 lend 14 renew 2 gap 3 recall 5 rank 1"), 0);
        due("README: row", x.row(0, 7, 1), 1);
        due("README: closed", x.closed(24, true), false);
        due("README: lend", lend(x, 7, 3, 10), 1);
        due("README: due", x.due(1), 25);
        due("README: renew", x.renew(1, 13), 1);
        due("README: recall", x.recall(1, 14), 19);
        due("README: back", x.back(1), 1);
    }

    public static void main(String[] args) {
        due("the constant NONE", LoanRules.NONE, -1);
        promise1NewObject();
        promise2Sign();
        promise2Limit();
        promise3Right();
        promise3Wrong();
        promise3WrongParts();
        promise3BehindWords();
        promise3CutWords();
        promise3Full();
        promise4Closed();
        promise5Term();
        promise6Row();
        promise7Answers();
        promise7Highest();
        promise7Throws();
        promise7Most();
        promise8Due();
        promise9Renew();
        promise9More();
        promise9NotLater();
        promise10Recall();
        promise11Back();
        promise12Block();
        promise13Except();
        promise14ThrowsUp();
        promise15Explain();
        promise16Never();
        promise17Clash();
        promise17Ranks();
        readmeExample();
        end("all promises hold");
    }
}
