import java.util.ArrayList;
import java.util.List;

/** The first part of the document's terms (signs, chances, rules, sums, the text and its fault), sentence by sentence. */
public final class TextEdgeTest {
    private static final List<String> TOKENS = List.of("rule", "2", "3", "24", ";", "chance", "1", "2", "4", "2", "1",
        ";", "rule", "1", "1", "1", ";", "sums", "0", "9", ";");

    private TextEdgeTest() { }

    public static void main(String[] args) {
        told();
        letters();
        faults();
        Trials.end();
    }

    private static void told() {
        Trials.holds("SIGNS 0 to 4", TextEdgeTest::signs);
        Trials.holds("CHANCE of each: so many of 10 (0 to 10", TextEdgeTest::chanceOfEach);
        Trials.holds("10 together", TextEdgeTest::chancesTogether);
        Trials.holds("1, 2, 4, 2, 1 at first", () -> Trials.chancesAre(new RunWatch(), 1, 2, 4, 2, 1));
        Trials.holds("RULES 0 .. (3 at most", TextEdgeTest::threeRules);
        Trials.holds("none at first", () -> Trials.due("count(0)", new RunWatch().count(0), 0));
        Trials.holds("N 1 to 4", TextEdgeTest::boundsOfN);
        Trials.holds("M 1 to N", TextEdgeTest::boundsOfM);
        Trials.holds("SET 1 to 31: SIGNS as bits", TextEdgeTest::boundsOfSet);
        Trials.holds("of each RULE N less 1, all together, are 6 at most", TextEdgeTest::sixTogether);
        Trials.holds("SLACK (0 to 2", TextEdgeTest::boundsOfSlack);
        Trials.holds("1 at first", () -> Trials.due("count(4)", new RunWatch().count(4), 1));
        Trials.holds("LIMIT (1 to 9", TextEdgeTest::boundsOfLimit);
        Trials.holds("4 at first", () -> Trials.due("count(5)", new RunWatch().count(5), 4));
    }

    private static void letters() {
        Trials.holds("THE TEXT is told letter by letter (120 letters at most)", TextEdgeTest::longestText);
        Trials.holds("blanks (32) may stand ahead of, between and behind TOKENS", TextEdgeTest::blanks);
        Trials.holds("needed between two words, two NUMBERS alone", TextEdgeTest::blanksNeeded);
        Trials.holds("by ITEMS (none, too", TextEdgeTest::noItems);
        Trials.holds("what is not told is as at first", TextEdgeTest::notTold);
        Trials.holds("each ended by ;", TextEdgeTest::endedItems);
        Trials.holds("rule M N S (the next RULE)", TextEdgeTest::nextRule);
        Trials.holds("chance A B C D E (CHANCES)", TextEdgeTest::chancesInOrder);
        Trials.holds("sums K H (SLACK, LIMIT", TextEdgeTest::slackAheadOfLimit);
        Trials.holds("chance, sums once at most each", TextEdgeTest::onceAtMost);
        Trials.holds("words (rows of letters a to z: rule, chance, sums)", TextEdgeTest::words);
        Trials.holds("NUMBERS (rows of figures)", TextEdgeTest::numbers);
    }

    private static void faults() {
        Trials.holds("the place of the first letter of the first TOKEN that can't stand there", TextEdgeTest::firstWrongToken);
        Trials.holds("a fourth rule", TextEdgeTest::fourthRule);
        Trials.holds("an N by which that would be above 6", TextEdgeTest::aboveSix);
        Trials.holds("an E by which it is not 10", TextEdgeTest::notTen);
        Trials.holds("a NUMBER beyond what it may be", TextEdgeTest::beyond);
        Trials.holds("chance, sums again, too", TextEdgeTest::again);
        Trials.holds("of a word that is none of these", TextEdgeTest::otherWords);
        Trials.holds("of any other letter", TextEdgeTest::otherLetters);
        Trials.holds("of a NUMBER above 99", TextEdgeTest::above99);
        Trials.holds("or with a 0 ahead of others, that TOKEN's", TextEdgeTest::zeroAhead);
        Trials.holds("the text's length, if it ends too early", TextEdgeTest::endsTooEarly);
        Trials.holds("M is told ahead of N: M 1 to 4, N no less than M", TextEdgeTest::mAheadOfN);
    }

    private static void signs() {
        RunWatch x = Trials.watching("", 0, 4);
        Trials.rowsAre(x, 1, 0, 4);
        Trials.due("comes(9, -1)", x.comes(9, -1), Trials.BAD);
        Trials.due("comes(9, 5)", x.comes(9, 5), Trials.BAD);
        Trials.due("becomes(0, -1)", x.becomes(0, -1), Trials.BAD);
        Trials.due("becomes(0, 5)", x.becomes(0, 5), Trials.BAD);
        Trials.due("becomes(0, 4)", x.becomes(0, 4), 0);
        Trials.due("becomes(0, 0)", x.becomes(0, 0), 4);
        Trials.due("chance(-1)", x.chance(-1), Trials.BAD);
        Trials.due("chance(5)", x.chance(5), Trials.BAD);
        Trials.due("step(0, -1)", x.step(0, -1), Trials.BAD);
        Trials.due("step(0, 5)", x.step(0, 5), Trials.BAD);
    }

    private static void chanceOfEach() {
        Trials.chancesAre(Trials.watching("chance 10 0 0 0 0;"), 10, 0, 0, 0, 0);
        Trials.chancesAre(Trials.watching("chance 0 10 0 0 0;"), 0, 10, 0, 0, 0);
        Trials.chancesAre(Trials.watching("chance 0 0 10 0 0;"), 0, 0, 10, 0, 0);
        Trials.chancesAre(Trials.watching("chance 0 0 0 10 0;"), 0, 0, 0, 10, 0);
        Trials.chancesAre(Trials.watching("chance 0 0 0 0 10;"), 0, 0, 0, 0, 10);
        Trials.fault("chance ^11 0 0 0 0;");
        Trials.fault("chance 0 ^11 0 0 0;");
        Trials.fault("chance 0 0 ^11 0 0;");
        Trials.fault("chance 0 0 0 ^11 0;");
        Trials.fault("chance 0 0 0 0 ^11;");
    }

    private static void chancesTogether() {
        Trials.sound("chance 2 2 2 2 2;", 1);
        Trials.fault("chance 2 2 2 2 ^1;");
        Trials.fault("chance 2 2 2 2 ^3;");
        Trials.fault("chance 0 0 0 0 ^0;");
        Trials.fault("chance 0 0 0 0 ^9;");
        Trials.fault("chance 10 0 0 0 ^1;");
        Trials.fault("chance 10 10 10 10 ^10;");
    }

    private static void threeRules() {
        RunWatch x = Trials.watching("rule 1 1 1;rule 1 1 2;rule 1 1 4;");
        Trials.due("count(0)", x.count(0), 3);
        Trials.ruleIs(x, 2, 1, 1, 4);
        Trials.due("rule(3, 0)", x.rule(3, 0), Trials.BAD);
        Trials.fault("rule 1 1 1;rule 1 1 2;rule 1 1 4;^rule 1 1 8;");
    }

    private static void boundsOfN() {
        for (int n = 1; n <= 4; n++) {
            Trials.ruleIs(Trials.watching("rule 1 " + n + " 1;"), 0, 1, n, 1);
        }
        Trials.fault("rule 1 ^0 1;");
        Trials.fault("rule 1 ^5 1;");
        Trials.fault("rule 4 ^5 1;");
        Trials.fault("rule 1 ^99 1;");
    }

    private static void boundsOfM() {
        for (int n = 1; n <= 4; n++) {
            Trials.ruleIs(Trials.watching("rule " + n + " " + n + " 1;"), 0, n, n, 1);
            Trials.fault("rule ^0 " + n + " 1;");
        }
        Trials.fault("rule 2 ^1 1;");
        Trials.fault("rule 3 ^2 1;");
        Trials.fault("rule 4 ^3 1;");
        Trials.fault("rule ^5 4 1;");
    }

    private static void boundsOfSet() {
        for (int set = 1; set <= 31; set++) {
            RunWatch x = Trials.watching("rule 1 1 " + set + ";");
            Trials.due("rule(0, 2)", x.rule(0, 2), set);
            for (int sign = 0; sign < 5; sign++) {
                boolean in = (set >> sign) % 2 == 1;
                Trials.due("step(0, " + sign + "), SET " + set, x.step(0, sign), in ? Trials.ALARM : 0);
            }
        }
        Trials.fault("rule 1 1 ^0;");
        Trials.fault("rule 1 1 ^32;");
    }

    private static void sixTogether() {
        for (int number = 0; number < 64; number++) {
            int[] n = {1 + number / 16, 1 + number / 4 % 4, 1 + number % 4};
            StringBuilder text = new StringBuilder();
            int together = 0;
            boolean above = false;
            for (int r = 0; r < 3; r++) {
                together += n[r] - 1;
                boolean now = together > 6 && !above;
                above |= now;
                text.append("rule 1 ").append(now ? "^" : "").append(n[r]).append(" 1;");
            }
            if (above) {
                Trials.fault(text.toString());
            } else {
                Trials.sound(text.toString(), 3);
            }
        }
    }

    private static void boundsOfSlack() {
        for (int slack = 0; slack <= 2; slack++) {
            Trials.due("count(4)", Trials.watching("sums " + slack + " 1;").count(4), slack);
        }
        Trials.fault("sums ^3 1;");
        Trials.fault("sums ^10 1;");
    }

    private static void boundsOfLimit() {
        for (int limit = 1; limit <= 9; limit++) {
            Trials.due("count(5)", Trials.watching("sums 2 " + limit + ";").count(5), limit);
        }
        Trials.fault("sums 2 ^0;");
        Trials.fault("sums 2 ^10;");
    }

    private static void longestText() {
        String blanks = " ".repeat(109);
        Trials.sound(blanks + "rule 1 1 1;", 1);
        Trials.sound("rule 1 1 1;" + blanks, 1);
        Trials.fault(" ".repeat(119) + "^;");
        Trials.fault("rule" + " ".repeat(116) + "^");
        RunWatch x = new RunWatch();
        Trials.typeIn(x, blanks + "rule 1 1 1");
        Trials.due("type(59), the 120th", x.type(';'), 120);
        Trials.due("type(59), the 121st", x.type(';'), Trials.FULL);
        Trials.due("tells(), the 121st did not come", x.tells(), 1);
    }

    private static void blanks() {
        Trials.sound("   rule 1 1 1;", 1);
        Trials.sound("rule 1 1 1;   ", 1);
        Trials.sound("rule   1    1  1  ;  sums   0  9  ;  ", 2);
        Trials.sound("rule 1 1 1 ; chance 1 2 4 2 1 ; sums 0 9 ;", 3);
        // No other letter is a blank.
        Trials.fault("^\trule 1 1 1;");
        Trials.fault("rule 1 1 1;^\n");
        Trials.fault("rule^\u00a01 1 1;");
        Trials.fault("rule 1 1 1^\u0000;");
    }

    private static void blanksNeeded() {
        Trials.sound("rule1 1 1;chance1 2 4 2 1;sums0 9;", 3);
        Trials.sound("sums 0 9;rule 1 1 1;", 2);
        Trials.fault("^rulerule 1 1 1;");
        Trials.fault("^chancesums 0 9;");
        Trials.fault("rule 1 1^;");
        Trials.fault("rule ^11 1;");
        Trials.fault("sums ^09;");
        // Between a NUMBER and a word none is needed: the NUMBER stands, the word does not.
        Trials.fault("rule 1 1 1^sums 0 9;");
        Trials.fault("rule 1 1^x;");
    }

    private static void noItems() {
        Trials.sound("", 0);
        Trials.sound(" ", 0);
        Trials.sound(" ".repeat(120), 0);
    }

    private static void notTold() {
        String all = "rule 1 1 1;chance 2 2 2 2 2;sums 2 9;";
        asTold(all, "", 0, 1, 1, 4);
        asTold(all, "rule 1 2 3;rule 1 2 3;", 2, 1, 1, 4);
        asTold(all, "chance 0 0 10 0 0;", 0, 0, 1, 4);
        asTold(all, "sums 0 1;", 0, 1, 0, 1);
    }

    private static void asTold(String earlier, String text, int rules, int chance, int slack, int limit) {
        RunWatch x = Trials.watching(earlier);
        Trials.tell(x, text);
        Trials.due("count(0) behind '" + text + "'", x.count(0), rules);
        Trials.due("chance(0) behind '" + text + "'", x.chance(0), chance);
        Trials.due("count(4) behind '" + text + "'", x.count(4), slack);
        Trials.due("count(5) behind '" + text + "'", x.count(5), limit);
    }

    private static void endedItems() {
        Trials.fault("rule 1 1 1^");
        Trials.fault("chance 1 2 4 2 1^");
        Trials.fault("sums 0 9^");
        Trials.fault("rule 1 1 1 ^rule 1 1 1;");
        Trials.fault("chance 1 2 4 2 1 ^sums 0 9;");
        Trials.fault("sums 0 9 ^chance 1 2 4 2 1;");
        Trials.fault("sums 0 9;^;");
        Trials.fault("^;sums 0 9;");
    }

    private static void nextRule() {
        RunWatch x = Trials.watching("rule 1 2 3;chance 1 2 4 2 1;rule 2 3 5;sums 0 9;rule 3 4 31;");
        Trials.ruleIs(x, 0, 1, 2, 3);
        Trials.ruleIs(x, 1, 2, 3, 5);
        Trials.ruleIs(x, 2, 3, 4, 31);
        Trials.fault("rule 1 2^;");
        Trials.fault("rule 1 2 3 ^4;");
    }

    private static void chancesInOrder() {
        Trials.chancesAre(Trials.watching("chance 0 1 2 3 4;"), 0, 1, 2, 3, 4);
        Trials.chancesAre(Trials.watching("chance 4 3 2 1 0;"), 4, 3, 2, 1, 0);
        Trials.fault("chance 1 2 4 3^;");
        Trials.fault("chance 0 1 2 3 4 ^0;");
    }

    private static void slackAheadOfLimit() {
        RunWatch x = Trials.watching("sums 1 2;");
        Trials.due("count(4)", x.count(4), 1);
        Trials.due("count(5)", x.count(5), 2);
        Trials.fault("sums 1^;");
        Trials.fault("sums 1 2 ^3;");
    }

    private static void onceAtMost() {
        Trials.sound("chance 1 2 4 2 1;sums 1 4;", 2);
        Trials.fault("chance 1 2 4 2 1;^chance 1 2 4 2 1;");
        Trials.fault("sums 1 4;^sums 1 4;");
        Trials.fault("chance 1 2 4 2 1;sums 1 4;rule 1 1 1;^chance 1 2 4 2 1;");
        // Once in each text.
        RunWatch x = Trials.watching("chance 1 2 4 2 1;sums 1 4;");
        Trials.due("tells(), again", Trials.tell(x, "chance 1 2 4 2 1;sums 1 4;"), 2);
    }

    private static void words() {
        Trials.fault("^arule 1 1 1;");
        Trials.fault("^zrule 1 1 1;");
        Trials.fault("^rulea 1 1 1;");
        Trials.fault("^rulez 1 1 1;");
        Trials.fault("rule^` 1 1 1;");
        Trials.fault("rule^{ 1 1 1;");
        Trials.fault("rule^A 1 1 1;");
        Trials.fault("^Rule 1 1 1;");
        Trials.fault("^ru le 1 1 1;");
    }

    private static void numbers() {
        Trials.sound("rule 1 1 10;", 1);
        Trials.sound("rule 1 1 19;", 1);
        Trials.sound("rule 1 1 29;", 1);
        Trials.fault("rule 1 1 1^/;");
        Trials.fault("rule 1 1 1^:;");
        Trials.fault("rule ^-1 1 1;");
        Trials.fault("rule ^+1 1 1;");
        Trials.fault("rule 1^.0 1 1;");
    }

    /** Each token of a sound text in turn gives way to one that can't stand there. */
    private static void firstWrongToken() {
        List<String> others = List.of("rule", "chance", "sums", "rules", "x", ";", "0", "7", "99", "100", "01", "#");
        for (int at = 0; at < TOKENS.size(); at++) {
            boolean head = at == 0 || TOKENS.get(at - 1).equals(";");
            boolean number = Character.isDigit(TOKENS.get(at).charAt(0));
            for (String other : others) {
                boolean word = other.equals("rule") || other.equals("chance") || other.equals("sums");
                boolean figures = other.length() <= 2 && Character.isDigit(other.charAt(0)) && !other.equals("01");
                boolean semicolon = other.equals(";") && TOKENS.get(at).equals(";");
                if (head && word || number && figures || semicolon) {
                    continue;
                }
                List<String> tokens = new ArrayList<>(TOKENS);
                tokens.set(at, "^" + other);
                Trials.fault("  " + String.join(" ", tokens));
            }
        }
        // The first one alone counts, whatever stands behind it.
        Trials.fault("rule ^5 5 0;fifth 100 # 01");
        Trials.fault("sums 1 4;^sums 3 10;#");
    }

    private static void fourthRule() {
        Trials.fault("rule 1 1 1;rule 1 1 1;rule 1 1 1;^rule 1 1 1;");
        Trials.fault("rule 1 1 1;rule 1 1 1;rule 1 1 1; sums 1 4;  ^rule");
    }

    private static void aboveSix() {
        Trials.fault("rule 4 4 1;rule 4 4 1;rule 1 ^2 1;");
        Trials.fault("rule 4 4 1;rule 4 4 1;rule 2 ^2 1;");
        Trials.fault("rule 4 4 1;rule 3 3 1;rule 3 ^3 1;");
        Trials.fault("rule 2 2 1;rule 4 4 1;rule 4 ^4 1;");
        Trials.sound("rule 4 4 1;rule 4 4 1;rule 1 1 1;", 3);
        Trials.sound("rule 4 4 1;rule 3 3 1;rule 2 2 1;", 3);
        Trials.sound("rule 2 2 1;rule 3 3 1;rule 4 4 1;", 3);
        // By what this text tells, not an earlier one.
        RunWatch x = Trials.watching("rule 4 4 1;rule 4 4 1;");
        Trials.due("tells(), anew", Trials.tell(x, "rule 4 4 1;rule 4 4 1;"), 2);
    }

    private static void notTen() {
        Trials.fault("chance 1 2 4 2 ^0;");
        Trials.fault("chance 1 2 4 2 ^2;");
        Trials.fault("chance 9 9 0 0 ^0;");
        Trials.fault("chance 10 10 0 0 ^0");
    }

    private static void beyond() {
        Trials.fault("rule ^0 1 1;");
        Trials.fault("rule ^5 5 1;");
        Trials.fault("rule 1 ^0 1;");
        Trials.fault("rule 1 ^5 1;");
        Trials.fault("rule 1 1 ^0;");
        Trials.fault("rule 1 1 ^32;");
        Trials.fault("chance 1 ^11 4 2 1;");
        Trials.fault("sums ^3 4;");
        Trials.fault("sums 1 ^0;");
        Trials.fault("sums 1 ^10;");
    }

    private static void again() {
        Trials.fault("chance 1 2 4 2 1;  ^chance");
        Trials.fault("sums 1 4;  ^sums");
        Trials.fault("sums 1 4;chance 1 2 4 2 1;^sums 1 4;chance 1 2 4 2 1;");
        // A refused text is not told: what it had is not again.
        RunWatch x = new RunWatch();
        Trials.tell(x, "chance 1 2 4 2 1;sums 1 4;x");
        x.clear();
        Trials.due("tells()", Trials.tell(x, "chance 1 2 4 2 1;sums 1 4;"), 2);
    }

    private static void otherWords() {
        for (String word : List.of("rul", "rules", "chanc", "chances", "sum", "sumsx", "a", "z", "ruel", "sumz", "chanca")) {
            Trials.fault("^" + word + " 1 1 1;");
            Trials.fault("sums 1 4; ^" + word);
            Trials.fault("rule 1 ^" + word + " 1;");
            Trials.fault("rule 1 1 1 ^" + word);
        }
    }

    private static void otherLetters() {
        for (int letter = 0; letter < 256; letter++) {
            char each = (char) letter;
            if (each != ' ') {
                Trials.faultAt("" + each, 0);
            }
            boolean word = each >= 'a' && each <= 'z';
            boolean figure = each >= '0' && each <= '9';
            if (!word && !figure && each != ' ' && each != ';') {
                Trials.faultAt("sums 1 4;" + each, 9);
                Trials.faultAt("sums " + each + "1 4;", 5);
                Trials.faultAt("sums 1" + each + " 4;", 6);
                Trials.faultAt("sums 1 4" + each + ";", 8);
            }
        }
    }

    private static void above99() {
        Trials.fault("rule 1 1 ^99;");
        Trials.fault("rule 1 1 ^100;");
        Trials.fault("rule 1 1 ^101;");
        // Left over by 2 to the 8, 16, 32 or 64 these are 1.
        Trials.fault("rule 1 1 ^257;");
        Trials.fault("rule 1 1 ^65537;");
        Trials.fault("rule 1 1 ^4294967297;");
        Trials.fault("rule 1 1 ^18446744073709551617;");
        Trials.fault("rule 1 1 ^" + "1".repeat(110));
        Trials.fault("sums 1 4;^100");
        Trials.fault("sums 1 4 ^100");
    }

    private static void zeroAhead() {
        Trials.fault("rule ^01 1 1;");
        Trials.fault("rule 1 ^01 1;");
        Trials.fault("rule 1 1 ^01;");
        Trials.fault("rule 1 1 ^010;");
        Trials.fault("rule 1 1 ^001;");
        Trials.fault("chance ^00 2 4 2 2;");
        Trials.fault("chance 1 2 4 2 ^01;");
        Trials.fault("sums ^00 4;");
        Trials.fault("sums ^02 4;");
        Trials.fault("sums 0 ^04;");
        Trials.sound("chance 0 0 0 0 10;sums 0 1;", 2);
    }

    private static void endsTooEarly() {
        StringBuilder text = new StringBuilder();
        int items = 0;
        for (String token : TOKENS) {
            text.append(token);
            items += token.equals(";") ? 1 : 0;
            if (token.equals(";")) {
                Trials.sound(text.toString(), items);
            } else {
                Trials.fault(text + "^");
                Trials.fault(text + "   ^");
            }
            text.append(' ');
        }
    }

    private static void mAheadOfN() {
        for (int m = 0; m <= 5; m++) {
            for (int n = 0; n <= 5; n++) {
                if (m < 1 || m > 4) {
                    Trials.fault("rule ^" + m + " " + n + " 1;");
                } else if (n < m || n > 4) {
                    Trials.fault("rule " + m + " ^" + n + " 1;");
                } else {
                    Trials.ruleIs(Trials.watching("rule " + m + " " + n + " 1;"), 0, m, n, 1);
                }
            }
        }
    }
}
