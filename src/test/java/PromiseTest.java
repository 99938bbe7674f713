/** Each promise of the document by itself: ordinary inputs, the edges that it names, wrong inputs. */
public final class PromiseTest {
    private static final int BAD = -1, STATE = -2, FULL = -3, ALARM = -5, NONE = -9;
    private static final int LOW = Integer.MIN_VALUE, HIGH = Integer.MAX_VALUE;
    private static int wrong = 0;

    public static void main(String[] args) {
        aNewObject();
        type();
        clear();
        tellsSound();
        tellsFaults();
        tellsChanges();
        comes();
        comesLate();
        goes();
        becomes();
        undo();
        rule();
        chance();
        rowRules();
        rowSums();
        alarm();
        signal();
        step();
        soonest();
        odds();
        mean();
        same();
        keep();
        back();
        count();
        System.out.println(wrong == 0 ? "all promises hold" : wrong + " answers are not as due");
        if (wrong != 0) {
            System.exit(1);
        }
    }

    private static void aNewObject() {
        RunWatch x = new RunWatch();
        int[] counts = {0, 0, 1, 0, 1, 4, 0, 0, 0, 0};
        for (int what = 0; what < counts.length; what++) {
            due(1, "count(" + what + ")", x.count(what), counts[what]);
        }
        chancesAre(1, x, 1, 2, 4, 2, 1);
        due(1, "rule(0, 0)", x.rule(0, 0), BAD);
        due(1, "row(0, 0)", x.row(0, 0), BAD);
        due(1, "undo()", x.undo(), STATE);
        due(1, "back(0)", x.back(0), STATE);
        due(1, "back(1)", x.back(1), STATE);
        due(1, "tells()", x.tells(), 0);
        RunWatch other = new RunWatch();
        other.comes(7, 3);
        tell(other, "rule 1 1 1;");
        due(1, "count(1) of another", new RunWatch().count(1), 0);
        due(1, "count(0) of another", x.count(0), 0);
    }

    private static void type() {
        RunWatch x = new RunWatch();
        due(2, "type(-1)", x.type(-1), BAD);
        due(2, "type(256)", x.type(256), BAD);
        due(2, "type(LOW)", x.type(LOW), BAD);
        due(2, "type(HIGH)", x.type(HIGH), BAD);
        due(2, "type(0)", x.type(0), 1);
        due(2, "type(255)", x.type(255), 2);
        for (int i = 3; i <= 120; i++) {
            due(2, "type(97)", x.type('a'), i);
        }
        due(2, "type(97), full", x.type('a'), FULL);
        due(2, "type(256), full", x.type(256), BAD);
        due(2, "count(8)", x.count(8), 120);
        due(2, "tells(), of 120 letters", x.tells(), -10);
        due(2, "clear()", x.clear(), 120);
        typeIn(x, "sums 2 9;" + " ".repeat(111));
        due(2, "tells(), of 120 letters", x.tells(), 1);
    }

    private static void clear() {
        RunWatch x = new RunWatch();
        due(3, "clear()", x.clear(), 0);
        typeIn(x, "rule 1 1 1;");
        due(3, "clear()", x.clear(), 11);
        due(3, "clear(), again", x.clear(), 0);
        due(3, "count(8)", x.count(8), 0);
        due(3, "count(9)", x.count(9), 0);
        due(3, "type(32)", x.type(' '), 1);
        due(3, "tells(), nothing left of the old text", x.tells(), 0);
        due(3, "count(0)", x.count(0), 0);
    }

    private static void tellsSound() {
        told("", 0);
        told("    ", 0);
        told("rule 1 1 1;", 1);
        told("  rule  4  4  31  ;  ", 1);
        told("rule1 1 1;", 1);
        told("rule1 2 3;chance0 0 10 0 0;sums0 9;", 3);
        told("sums 2 1;chance 2 2 2 2 2;rule 1 1 10;rule 2 3 5;", 4);
        told("rule 1 4 1;rule 1 4 1;rule 1 1 1;", 3);
        told("rule 1 3 1;rule 1 3 1;rule 1 3 1;", 3);
        told("chance 10 0 0 0 0;", 1);
        told("chance 0 0 0 0 10;", 1);
        told("sums 0 1;", 1);
    }

    private static void tellsFaults() {
        told(";", -10);
        told(" ;", -11);
        told("5;", -10);
        told("rules 1 1 1;", -10);
        told("rul 1 1 1;", -10);
        told("Rule 1 1 1;", -10);
        told("rulerule", -10);
        told("rulez 1 1 1;", -10);
        told("arule 1 1 1;", -10);
        told("rule{ 1 1 1;", -14);
        told("rule` 1 1 1;", -14);
        told("rule 1/1 1;", -16);
        told("rule 1:1 1;", -16);
        told("  rulesums", -12);
        told("\trule 1 1 1;", -10);
        told("\u0000", -10);
        told("rule\u00a01 1 1;", -14);
        told("rule 1,1 1;", -16);
        told("rule -1 1 1;", -15);
        told("rule 0 1 1;", -15);
        told("rule 5 4 1;", -15);
        told("rule 01 1 1;", -15);
        told("rule 11 1;", -15);
        told("rule 4 5 1;", -17);
        told("rule 2 1 1;", -17);
        told("rule 1 0 1;", -17);
        told("rule 1 1 0;", -19);
        told("rule 1 1 00;", -19);
        told("rule 1 1 32;", -19);
        told("rule 1 1 99;", -19);
        told("rule 1 1 100;", -19);
        told("rule 1 1 4294967297;", -19);
        told("rule 1 1;", -18);
        told("rule;", -14);
        told("rule rule", -15);
        told("rule 1 sums 1;", -17);
        told("rule 1 1 1 1;", -21);
        told("rule 1 1 1 rule", -21);
        told("rule 1 1 1;;", -21);
        told("rule 1 1 1;x", -21);
        told("rule 1 1 1;sum", -21);
        told("rule", -14);
        told("rule ", -15);
        told("rule 1 1", -18);
        told("rule 1 1 1", -20);
        told("rule 1 1 1   ", -23);
        told("rule 1 1 1;rule 1 1 1;rule 1 1 1;rule 1 1 1;", -43);
        told("rule 1 1 1;rule 1 1 1;rule 1 1 1; rule", -44);
        told("rule 1 4 1;rule 1 4 1;rule 1 2 1;", -39);
        told("rule 1 4 1;rule 1 4 1;rule 2 2 1;", -39);
        told("rule 1 4 1;rule 1 3 1;rule 1 3 1;", -39);
        told("chance 11 0 0 0 0;", -17);
        told("chance 9 9 0 0 0;", -25);
        told("chance 1 2 4 2 0;", -25);
        told("chance 1 2 4 2;", -24);
        told("chance 1 2 4 2 1 1;", -27);
        told("chance 2 2 2 2 2;chance 2 2 2 2 2;", -27);
        told("chance 2 2 2 2 2", -26);
        told("sums 3 1;", -15);
        told("sums 0 0;", -17);
        told("sums 0 10;", -17);
        told("sums 00 1;", -15);
        told("sums 1 1 1;", -19);
        told("sums 1 1;sums 1 1;", -19);
        told("sums 1 1;rule 9 x", -24);
    }

    private static void tellsChanges() {
        RunWatch x = new RunWatch();
        x.comes(4, 4);
        x.keep(1);
        tell(x, "rule 1 1 16;rule 1 2 3;chance 2 2 2 2 2;sums 2 9;");
        due(4, "count(8), told", x.count(8), 0);
        due(4, "count(0)", x.count(0), 2);
        due(4, "count(1), rows stay", x.count(1), 1);
        due(4, "count(9)", x.count(9), 2);
        due(4, "alarm(0), gone through anew", x.alarm(0), 4);
        typeIn(x, "rule 1 1 1;sums 0 1;rule 1 9 1;");
        due(4, "tells()", x.tells(), -37);
        due(4, "count(8), the text stays", x.count(8), 31);
        due(4, "count(0), refused", x.count(0), 2);
        due(4, "rule(0, 2), refused", x.rule(0, 2), 16);
        due(4, "count(5), refused", x.count(5), 9);
        due(4, "count(9), refused", x.count(9), 2);
        chancesAre(4, x, 2, 2, 2, 2, 2);
        x.clear();
        due(4, "tells(), of nothing", x.tells(), 0);
        due(4, "count(0), as at first", x.count(0), 0);
        due(4, "count(4), as at first", x.count(4), 1);
        due(4, "count(5), as at first", x.count(5), 4);
        due(4, "count(9), of nothing", x.count(9), 3);
        chancesAre(4, x, 1, 2, 4, 2, 1);
        due(4, "alarm(-1), no rules", x.alarm(-1), 0);
        due(4, "back(1), images stay", x.back(1), 1);
    }

    private static void comes() {
        RunWatch x = new RunWatch();
        due(5, "comes(-1, 0)", x.comes(-1, 0), BAD);
        due(5, "comes(100, 0)", x.comes(100, 0), BAD);
        due(5, "comes(0, -1)", x.comes(0, -1), BAD);
        due(5, "comes(0, 5)", x.comes(0, 5), BAD);
        due(5, "comes(LOW, HIGH)", x.comes(LOW, HIGH), BAD);
        due(5, "comes(99, 4)", x.comes(99, 4), 0);
        due(5, "comes(0, 0)", x.comes(0, 0), 0);
        due(5, "comes(50, 2)", x.comes(50, 2), 1);
        due(5, "comes(50, 2), again", x.comes(50, 2), STATE);
        due(5, "comes(50, 5), again", x.comes(50, 5), BAD);
        due(5, "count(9)", x.count(9), 3);
        for (int i = 0; i < 37; i++) {
            due(5, "comes(" + (1 + i) + ", 2)", x.comes(1 + i, 2), 1 + i);
        }
        due(5, "count(1)", x.count(1), 40);
        due(5, "comes(98, 1), full", x.comes(98, 1), FULL);
        due(5, "comes(99, 1), full", x.comes(99, 1), STATE);
        due(5, "comes(98, 9), full", x.comes(98, 9), BAD);
        due(5, "row(39, 0)", x.row(39, 0), 99);
        due(5, "row(38, 0)", x.row(38, 0), 50);
        due(5, "row(0, 1)", x.row(0, 1), 0);
    }

    private static void comesLate() {
        RunWatch x = new RunWatch();
        tell(x, "rule 2 2 16;sums 0 3;");
        x.comes(10, 4);
        x.comes(30, 4);
        due(5, "alarm(0)", x.alarm(0), 30);
        due(5, "signal(0)", x.signal(0), 30);
        due(5, "comes(20, 0), late", x.comes(20, 0), 1);
        due(5, "alarm(-1), late", x.alarm(-1), 0);
        due(5, "signal(-1), late", x.signal(-1), 0);
        due(5, "comes(5, 4), late", x.comes(5, 4), 0);
        due(5, "alarm(0), late", x.alarm(0), 10);
        due(5, "alarm(1), late", x.alarm(1), NONE);
    }

    private static void goes() {
        RunWatch x = new RunWatch();
        due(6, "goes(0), none", x.goes(0), BAD);
        tell(x, "rule 2 2 16;");
        x.comes(10, 4);
        x.comes(20, 0);
        x.comes(30, 4);
        due(6, "goes(-1)", x.goes(-1), BAD);
        due(6, "goes(3)", x.goes(3), BAD);
        due(6, "goes(HIGH)", x.goes(HIGH), BAD);
        due(6, "alarm(-1)", x.alarm(-1), 0);
        due(6, "goes(1)", x.goes(1), 20);
        due(6, "alarm(0), gone through anew", x.alarm(0), 30);
        due(6, "row(1, 0)", x.row(1, 0), 30);
        due(6, "row(1, 1)", x.row(1, 1), 4);
        due(6, "goes(1)", x.goes(1), 30);
        due(6, "goes(0)", x.goes(0), 10);
        due(6, "goes(0), none left", x.goes(0), BAD);
        due(6, "count(1)", x.count(1), 0);
        for (int i = 0; i < 40; i++) {
            x.comes(i, 1);
        }
        due(6, "goes(39), of 40", x.goes(39), 39);
        due(6, "goes(0), of 39", x.goes(0), 0);
        due(6, "row(37, 0)", x.row(37, 0), 38);
        due(6, "comes(0, 1), room again", x.comes(0, 1), 0);
    }

    private static void becomes() {
        RunWatch x = new RunWatch();
        due(7, "becomes(0, 0), none", x.becomes(0, 0), BAD);
        tell(x, "rule 2 2 16;sums 0 3;");
        x.comes(10, 4);
        x.comes(30, 3);
        due(7, "becomes(2, 0)", x.becomes(2, 0), BAD);
        due(7, "becomes(-1, 0)", x.becomes(-1, 0), BAD);
        due(7, "becomes(0, 5)", x.becomes(0, 5), BAD);
        due(7, "becomes(0, -1)", x.becomes(0, -1), BAD);
        due(7, "becomes(0, 4), it is that", x.becomes(0, 4), STATE);
        due(7, "count(9)", x.count(9), 3);
        due(7, "becomes(1, 4)", x.becomes(1, 4), 3);
        due(7, "count(9)", x.count(9), 4);
        due(7, "row(1, 1)", x.row(1, 1), 4);
        due(7, "alarm(0), gone through anew", x.alarm(0), 30);
        due(7, "signal(0), gone through anew", x.signal(0), 30);
        due(7, "becomes(0, 0)", x.becomes(0, 0), 4);
        due(7, "alarm(-1), gone through anew", x.alarm(-1), 0);
        due(7, "row(0, 0), its time stays", x.row(0, 0), 10);
    }

    private static void undo() {
        RunWatch x = new RunWatch();
        due(8, "undo(), none", x.undo(), STATE);
        x.comes(1, 4);
        x.comes(1, 4);
        x.comes(2, 3);
        tell(x, "rule 1 1 8;sums 0 1;chance 0 0 0 0 10;");
        x.becomes(0, 0);
        x.goes(1);
        typeIn(x, "abc");
        due(8, "tells(), refused", x.tells(), -10);
        due(8, "count(9)", x.count(9), 5);
        due(8, "undo(), of goes", x.undo(), 4);
        due(8, "row(1, 1)", x.row(1, 1), 3);
        due(8, "alarm(0), gone through anew", x.alarm(0), 2);
        due(8, "undo(), of becomes", x.undo(), 3);
        due(8, "row(0, 1)", x.row(0, 1), 4);
        due(8, "signal(0)", x.signal(0), 1);
        due(8, "undo(), of tells", x.undo(), 2);
        due(8, "count(0)", x.count(0), 0);
        due(8, "count(2)", x.count(2), 1);
        due(8, "count(4)", x.count(4), 1);
        due(8, "count(5)", x.count(5), 4);
        chancesAre(8, x, 1, 2, 4, 2, 1);
        due(8, "alarm(-1)", x.alarm(-1), 0);
        due(8, "count(8), the text stays", x.count(8), 3);
        due(8, "undo(), of comes", x.undo(), 1);
        due(8, "count(1)", x.count(1), 1);
        due(8, "undo(), of comes", x.undo(), 0);
        due(8, "count(1)", x.count(1), 0);
        due(8, "undo(), none left", x.undo(), STATE);
        for (int i = 0; i < 8; i++) {
            x.comes(i, i % 5);
        }
        due(8, "count(9), 6 are known", x.count(9), 6);
        for (int left = 5; left >= 0; left--) {
            due(8, "undo()", x.undo(), left);
        }
        due(8, "undo(), older ones are lost", x.undo(), STATE);
        due(8, "count(1)", x.count(1), 2);
        due(8, "row(1, 1)", x.row(1, 1), 1);
        x.comes(50, 2);
        due(8, "undo(), behind others", x.undo(), 0);
        due(8, "count(1)", x.count(1), 2);
    }

    private static void rule() {
        RunWatch x = new RunWatch();
        due(9, "rule(0, 0), none", x.rule(0, 0), BAD);
        tell(x, "rule 2 3 24;rule 1 1 1;rule 3 4 31;");
        int[][] rules = {{2, 3, 24}, {1, 1, 1}, {3, 4, 31}};
        for (int r = 0; r < 3; r++) {
            for (int what = 0; what < 3; what++) {
                due(9, "rule(" + r + ", " + what + ")", x.rule(r, what), rules[r][what]);
            }
        }
        due(9, "rule(3, 0)", x.rule(3, 0), BAD);
        due(9, "rule(-1, 0)", x.rule(-1, 0), BAD);
        due(9, "rule(0, 3)", x.rule(0, 3), BAD);
        due(9, "rule(0, -1)", x.rule(0, -1), BAD);
        due(9, "rule(LOW, HIGH)", x.rule(LOW, HIGH), BAD);
        tell(x, "rule 1 2 5;");
        due(9, "rule(1, 0), of fewer", x.rule(1, 0), BAD);
    }

    private static void chance() {
        RunWatch x = new RunWatch();
        chancesAre(10, x, 1, 2, 4, 2, 1);
        tell(x, "chance 0 1 2 3 4;");
        chancesAre(10, x, 0, 1, 2, 3, 4);
        due(10, "chance(-1)", x.chance(-1), BAD);
        due(10, "chance(5)", x.chance(5), BAD);
        due(10, "chance(LOW)", x.chance(LOW), BAD);
    }

    private static void rowRules() {
        RunWatch x = new RunWatch();
        tell(x, "rule 2 3 24;rule 3 3 28;");
        int[] signs = {3, 2, 4, 4, 2, 3, 0, 2, 2, 2};
        int[] met = {0, 0, 3, 0, 0, 3, 0, 0, 0, 2};
        for (int i = 0; i < signs.length; i++) {
            x.comes(10 * i, signs[i]);
        }
        for (int i = 0; i < signs.length; i++) {
            due(11, "row(" + i + ", 0)", x.row(i, 0), 10 * i);
            due(11, "row(" + i + ", 1)", x.row(i, 1), signs[i]);
            due(11, "row(" + i + ", 2)", x.row(i, 2), met[i]);
        }
        due(11, "row(2, 3), behind an alarm", x.row(2, 3), 0);
        due(11, "row(0, 3)", x.row(0, 3), x.step(0, 3));
        due(11, "row(1, 3)", x.row(1, 3), x.step(x.row(0, 3), 2));
        due(11, "row(3, 3)", x.row(3, 3), x.step(0, 4));
        due(11, "row(6, 3), nothing counts", x.row(6, 3), 0);
        due(11, "row(10, 0)", x.row(10, 0), BAD);
        due(11, "row(-1, 0)", x.row(-1, 0), BAD);
        due(11, "row(0, 7)", x.row(0, 7), BAD);
        due(11, "row(0, -1)", x.row(0, -1), BAD);
        due(11, "row(HIGH, LOW)", x.row(HIGH, LOW), BAD);
    }

    private static void rowSums() {
        RunWatch x = new RunWatch();
        // slack 1, limit 4
        int[] signs = {4, 4, 2, 4, 4, 4, 4, 0, 0, 3, 0, 0, 0, 0};
        int[] up = {1, 2, 1, 2, 3, 4, 0, 0, 0, 0, 0, 0, 0, 0};
        int[] down = {0, 0, 0, 0, 0, 0, 0, 1, 2, 0, 1, 2, 3, 4};
        int[] signal = {0, 0, 0, 0, 0, 0, 1, 0, 0, 0, 0, 0, 0, 0};
        for (int i = 0; i < signs.length; i++) {
            x.comes(i, signs[i]);
        }
        for (int i = 0; i < signs.length; i++) {
            due(11, "row(" + i + ", 4)", x.row(i, 4), up[i]);
            due(11, "row(" + i + ", 5)", x.row(i, 5), down[i]);
            due(11, "row(" + i + ", 6)", x.row(i, 6), signal[i]);
        }
        tell(x, "rule 1 1 17;");
        due(11, "row(6, 4), alarms don't touch sums", x.row(5, 4), 4);
        tell(x, "sums 0 9;");
        due(11, "row(1, 4), slack 0", x.row(1, 4), 4);
        due(11, "row(2, 5), slack 0", x.row(2, 5), 0);
        due(11, "row(4, 4), slack 0", x.row(4, 4), 8);
        due(11, "row(5, 6), limit 9", x.row(5, 6), 1);
        tell(x, "sums 2 1;");
        due(11, "row(5, 4), slack 2", x.row(5, 4), 0);
    }

    private static void alarm() {
        RunWatch x = new RunWatch();
        due(12, "alarm(-1), no rows", x.alarm(-1), 0);
        due(12, "alarm(0), no rows", x.alarm(0), NONE);
        due(12, "alarm(-2)", x.alarm(-2), BAD);
        due(12, "alarm(LOW)", x.alarm(LOW), BAD);
        tell(x, "rule 2 2 16;");
        int[] times = {3, 5, 8, 13, 21};
        for (int time : times) {
            x.comes(time, 4);
        }
        due(12, "alarm(-1)", x.alarm(-1), 2);
        due(12, "alarm(0)", x.alarm(0), 5);
        due(12, "alarm(1)", x.alarm(1), 13);
        due(12, "alarm(2)", x.alarm(2), NONE);
        due(12, "alarm(HIGH)", x.alarm(HIGH), NONE);
        tell(x, "rule 3 4 16;");
        due(12, "alarm(0)", x.alarm(0), 8);
        due(12, "alarm(-1)", x.alarm(-1), 1);
        x.comes(4, 0);
        due(12, "alarm(0), 3 of 4", x.alarm(0), 8);
        x.comes(6, 0);
        due(12, "alarm(0), 2 of 4 alone", x.alarm(0), 13);
    }

    private static void signal() {
        RunWatch x = new RunWatch();
        due(13, "signal(-1), no rows", x.signal(-1), 0);
        due(13, "signal(0), no rows", x.signal(0), NONE);
        due(13, "signal(-2)", x.signal(-2), BAD);
        due(13, "signal(LOW)", x.signal(LOW), BAD);
        tell(x, "sums 0 3;");
        int[] signs = {4, 4, 4, 0, 0, 0, 3};
        for (int i = 0; i < signs.length; i++) {
            x.comes(2 * i, signs[i]);
        }
        due(13, "signal(-1)", x.signal(-1), 2);
        due(13, "signal(0)", x.signal(0), 2);
        due(13, "signal(1)", x.signal(1), 8);
        due(13, "signal(2)", x.signal(2), NONE);
        due(13, "signal(HIGH)", x.signal(HIGH), NONE);
        tell(x, "sums 0 4;");
        due(13, "signal(0), limit itself is none", x.signal(0), 4);
    }

    private static void step() {
        RunWatch x = new RunWatch();
        for (int sign = 0; sign < 5; sign++) {
            due(14, "step(0, " + sign + "), no rules", x.step(0, sign), 0);
        }
        due(14, "step(1, 0), no rules", x.step(1, 0), BAD);
        tell(x, "rule 2 3 24;rule 1 1 1;");
        int[][] steps = {{ALARM, 0, 0, 1, 1}, {ALARM, 2, 2, ALARM, ALARM}, {ALARM, 0, 0, ALARM, ALARM}};
        stepsAre(x, steps);
        due(14, "step(3, 0)", x.step(3, 0), BAD);
        due(14, "step(-1, 0)", x.step(-1, 0), BAD);
        due(14, "step(0, -1)", x.step(0, -1), BAD);
        due(14, "step(0, 5)", x.step(0, 5), BAD);
        due(14, "step(HIGH, LOW)", x.step(HIGH, LOW), BAD);
        tell(x, "rule 1 4 31;rule 4 4 1;rule 1 1 2;");
        stepsAre(x, new int[][] {{ALARM, ALARM, ALARM, ALARM, ALARM}});
        tell(x, "rule 2 2 1;rule 2 2 1;rule 4 4 1;");
        stepsAre(x, new int[][] {{1, 0, 0, 0, 0}, {ALARM, 0, 0, 0, 0}});
        tell(x, "rule 2 2 2;rule 2 2 1;");
        stepsAre(x, new int[][] {{1, 2, 0, 0, 0}, {ALARM, 2, 0, 0, 0}, {1, ALARM, 0, 0, 0}});
        // only M, then only N is another
        tell(x, "rule 1 3 24;");
        stepsAre(x, new int[][] {{0, 0, 0, ALARM, ALARM}});
        tell(x, "rule 2 3 24;");
        stepsAre(x, new int[][] {{0, 0, 0, 1, 1}, {2, 2, 2, ALARM, ALARM}, {0, 0, 0, ALARM, ALARM}});
        tell(x, "rule 2 2 24;");
        stepsAre(x, new int[][] {{0, 0, 0, 1, 1}, {0, 0, 0, ALARM, ALARM}});
        // 3 of 4: what can't come to an alarm any more by its oldest sign is one with what has none
        tell(x, "rule 3 4 16;");
        due(14, "count(2)", x.count(2), 6);
        stepsAre(x, new int[][] {{0, 0, 0, 0, 1}, {2, 2, 2, 2, 3}, {0, 0, 0, 0, 4},
            {5, 5, 5, 5, ALARM}, {2, 2, 2, 2, ALARM}, {0, 0, 0, 0, ALARM}});
    }

    private static void soonest() {
        RunWatch x = new RunWatch();
        due(15, "soonest(-1), no rules", x.soonest(-1), NONE);
        due(15, "soonest(0), no rules", x.soonest(0), NONE);
        due(15, "soonest(-2), no rules", x.soonest(-2), BAD);
        tell(x, "rule 4 4 26;rule 3 3 28;chance 0 0 10 0 0;");
        rowIs(x, 2, 2, 2);
        due(15, "soonest(-2)", x.soonest(-2), BAD);
        due(15, "soonest(LOW)", x.soonest(LOW), BAD);
        due(15, "soonest(HIGH)", x.soonest(HIGH), NONE);
        x.comes(1, 1);
        rowIs(x, 1, 1, 1);
        x.comes(2, 3);
        rowIs(x, 1, 1);
        x.comes(3, 4);
        rowIs(x, 1);
        x.comes(4, 0);
        rowIs(x, 2, 2, 2);
        x.comes(5, 2);
        x.comes(6, 2);
        x.comes(7, 2);
        rowIs(x, 2, 2, 2);
        tell(x, "rule 2 4 1;");
        rowIs(x, 0, 0);
        x.goes(5);
        rowIs(x, 0);
        due(15, "count(9), nothing is changed", x.count(9), 6);
    }

    private static void odds() {
        RunWatch x = new RunWatch();
        fraction(x, 0, 0, 1);
        fraction(x, 8, 0, 1);
        due(16, "odds(-1, 0)", x.odds(-1, 0), BAD);
        due(16, "odds(9, 0)", x.odds(9, 0), BAD);
        due(16, "odds(0, -1)", x.odds(0, -1), BAD);
        due(16, "odds(0, 2)", x.odds(0, 2), BAD);
        due(16, "odds(HIGH, 0)", x.odds(HIGH, 0), BAD);
        tell(x, "rule 1 1 1;");
        fraction(x, 0, 0, 1);
        fraction(x, 1, 1, 10);
        fraction(x, 2, 19, 100);
        fraction(x, 8, 56953279, 100000000);
        tell(x, "rule 2 2 4;");
        fraction(x, 1, 0, 1);
        fraction(x, 2, 4, 25);
        x.comes(0, 2);
        fraction(x, 1, 2, 5);
        fraction(x, 2, 2, 5);
        fraction(x, 3, 62, 125);
        tell(x, "rule 1 1 3;chance 0 5 5 0 0;");
        fraction(x, 1, 1, 2);
        fraction(x, 3, 7, 8);
        tell(x, "rule 1 1 1;chance 0 5 5 0 0;");
        fraction(x, 8, 0, 1);
        tell(x, "rule 1 2 31;");
        fraction(x, 1, 1, 1);
    }

    private static void mean() {
        RunWatch x = new RunWatch();
        due(17, "mean(), no rules", x.mean(), NONE);
        tell(x, "rule 1 1 31;");
        due(17, "mean(), at once", x.mean(), 1);
        tell(x, "rule 1 1 1;");
        due(17, "mean(), 10", x.mean(), 10);
        tell(x, "rule 1 1 1;chance 2 1 3 1 3;");
        due(17, "mean(), only the chances are others, all of them", x.mean(), 5);
        tell(x, "rule 1 1 1;chance 5 1 3 1 0;");
        due(17, "mean(), only some chances are others", x.mean(), 2);
        tell(x, "rule 2 2 4;chance 0 0 5 5 0;");
        due(17, "mean(), 6", x.mean(), 6);
        x.comes(3, 2);
        due(17, "mean(), 4 from there", x.mean(), 4);
        x.comes(4, 2);
        due(17, "mean(), behind an alarm", x.mean(), 6);
        tell(x, "rule 1 1 3;");
        // 10/3: 3 times it is 10 left over by 1000003
        due(17, "mean(), a third", x.mean(), 666672);
        due(17, "mean(), a third, tested", 3L * x.mean() % 1000003, 10);
        tell(x, "rule 2 2 1;chance 0 10 0 0 0;");
        due(17, "mean(), never", x.mean(), NONE);
        tell(x, "rule 1 1 1;rule 3 3 2;chance 10 0 0 0 0;");
        due(17, "mean(), states that can't come have numbers too", x.mean(), 1);
        x.goes(0);
        x.becomes(0, 1);
        due(17, "mean(), from one of these", x.mean(), 1);
        x.undo();
        x.undo();
        x.undo();
        due(17, "mean(), undone", x.mean(), NONE);
        x.undo();
        due(17, "mean(), undone", x.mean(), 666672);
    }

    private static void same() {
        RunWatch x = new RunWatch();
        due(18, "same(-1)", x.same(-1), BAD);
        due(18, "same(2)", x.same(2), BAD);
        due(18, "same(0), nothing to tell apart", x.same(0), 310);
        due(18, "same(1)", x.same(1), 1101);
        x.comes(10, 4);
        // without 16: N choices of M with 15 sets each; with it, M of 2 and more: 6 choices, 16 sets
        due(18, "same(0)", x.same(0), 150 + 96);
        tell(x, "rule 1 1 16;");
        due(18, "same(0)", x.same(0), 64);
        due(18, "same(1)", x.same(1), 1116);
        x.comes(20, 4);
        x.comes(30, 3);
        x.comes(40, 4);
        tell(x, "rule 2 2 16;");
        due(18, "alarm(-1)", x.alarm(-1), 1);
        due(18, "same(1), two of two", x.same(1), 2216);
        due(18, "same(0), 16 with any but 8", x.same(0), 24);
        tell(x, "rule 1 1 8;rule 2 2 16;");
        due(18, "same(1), a lone 3 but not a lone 4", x.same(1), NONE);
        tell(x, "rule 1 1 8;rule 1 4 16;");
        due(18, "same(1), all of them", x.same(1), 1124);
        x.comes(15, 0);
        tell(x, "rule 1 1 16;rule 4 4 31;");
        due(18, "same(1)", x.same(1), 1116);
        RunWatch y = new RunWatch();
        tell(y, "rule 1 1 16;rule 2 2 8;");
        int[] signs = {4, 3, 3, 4, 0, 0, 3, 0, 3, 0, 0};
        for (int i = 0; i < signs.length; i++) {
            y.comes(i, signs[i]);
        }
        due(18, "alarm(-1)", y.alarm(-1), 3);
        due(18, "same(0), no single one", y.same(0), 0);
        due(18, "same(1), no single one", y.same(1), NONE);
        y.becomes(0, 2);
        y.becomes(3, 2);
        due(18, "same(1), changed", y.same(1), 2208);
    }

    private static void keep() {
        RunWatch x = new RunWatch();
        due(19, "keep(-1)", x.keep(-1), BAD);
        due(19, "keep(2)", x.keep(2), BAD);
        due(19, "keep(HIGH)", x.keep(HIGH), BAD);
        due(19, "keep(0)", x.keep(0), 0);
        x.comes(1, 1);
        x.comes(2, 2);
        due(19, "keep(1)", x.keep(1), 2);
        due(19, "count(9), nothing is done", x.count(9), 2);
        due(19, "undo(), images stay", x.undo(), 1);
        due(19, "back(1)", x.back(1), 2);
        due(19, "keep(0), anew", x.keep(0), 2);
        x.goes(0);
        x.becomes(0, 4);
        due(19, "back(0)", x.back(0), 2);
        due(19, "row(1, 1), an image is a copy", x.row(1, 1), 2);
        x.becomes(1, 3);
        due(19, "back(0), once more", x.back(0), 2);
        due(19, "row(1, 1), the image is not touched", x.row(1, 1), 2);
    }

    private static void back() {
        RunWatch x = new RunWatch();
        due(20, "back(-1)", x.back(-1), BAD);
        due(20, "back(2)", x.back(2), BAD);
        due(20, "back(0), none was kept", x.back(0), STATE);
        tell(x, "rule 1 1 16;chance 2 2 2 2 2;sums 0 1;");
        x.comes(7, 4);
        x.keep(0);
        due(20, "back(1), none was kept", x.back(1), STATE);
        due(20, "count(9), refused", x.count(9), 2);
        tell(x, "rule 2 2 1;rule 2 2 2;");
        x.comes(8, 1);
        typeIn(x, "ru");
        due(20, "back(0)", x.back(0), 1);
        due(20, "count(0)", x.count(0), 1);
        due(20, "count(2)", x.count(2), 1);
        due(20, "count(4)", x.count(4), 0);
        due(20, "count(5)", x.count(5), 1);
        due(20, "count(8), the text stays", x.count(8), 2);
        due(20, "count(9)", x.count(9), 0);
        due(20, "undo(), nothing behind back()", x.undo(), STATE);
        chancesAre(20, x, 2, 2, 2, 2, 2);
        due(20, "alarm(0), gone through anew", x.alarm(0), 7);
        due(20, "signal(0)", x.signal(0), 7);
        due(20, "same(1)", x.same(1), 1116);
        due(20, "mean()", x.mean(), 5);
        x.comes(9, 0);
        due(20, "undo(), of what came later", x.undo(), 0);
        due(20, "undo(), no further", x.undo(), STATE);
    }

    private static void count() {
        RunWatch x = new RunWatch();
        tell(x, "rule 2 3 24;rule 1 1 1;sums 0 5;");
        x.comes(3, 3);
        x.comes(4, 4);
        x.comes(5, 1);
        x.comes(6, 3);
        x.comes(7, 1);
        typeIn(x, "rule");
        int[] counts = {2, 5, 3, 2, 0, 5, 2, 1, 4, 6};
        for (int what = 0; what < counts.length; what++) {
            due(21, "count(" + what + ")", x.count(what), counts[what]);
        }
        due(21, "count(-1)", x.count(-1), BAD);
        due(21, "count(10)", x.count(10), BAD);
        due(21, "count(LOW)", x.count(LOW), BAD);
        x.comes(8, 0);
        due(21, "count(3), behind an alarm", x.count(3), 0);
        x.comes(9, 0);
        due(21, "count(7)", x.count(7), 5);
        x.comes(10, 1);
        due(21, "count(7), behind a signal", x.count(7), 0);
    }

    private static void told(String text, int want) {
        RunWatch x = new RunWatch();
        typeIn(x, text);
        due(4, "tells() of '" + text + "'", x.tells(), want);
        due(4, "count(8) behind '" + text + "'", x.count(8), want < 0 ? text.length() : 0);
        due(4, "count(9) behind '" + text + "'", x.count(9), want < 0 ? 0 : 1);
    }

    private static void typeIn(RunWatch x, String text) {
        for (int i = 0; i < text.length(); i++) {
            x.type(text.charAt(i));
        }
    }

    private static void tell(RunWatch x, String text) {
        x.clear();
        typeIn(x, text);
        if (x.tells() < 0) {
            due(4, "tells() of '" + text + "', a sound text", 0, 1);
        }
    }

    private static void chancesAre(int promise, RunWatch x, int... chances) {
        for (int sign = 0; sign < 5; sign++) {
            due(promise, "chance(" + sign + ")", x.chance(sign), chances[sign]);
        }
    }

    private static void stepsAre(RunWatch x, int[][] steps) {
        due(14, "count(2)", x.count(2), steps.length);
        for (int state = 0; state < steps.length; state++) {
            for (int sign = 0; sign < 5; sign++) {
                due(14, "step(" + state + ", " + sign + ")", x.step(state, sign), steps[state][sign]);
            }
        }
    }

    private static void rowIs(RunWatch x, int... signs) {
        due(15, "soonest(-1)", x.soonest(-1), signs.length);
        for (int k = 0; k < signs.length; k++) {
            due(15, "soonest(" + k + ")", x.soonest(k), signs[k]);
        }
        due(15, "soonest(" + signs.length + ")", x.soonest(signs.length), NONE);
    }

    private static void fraction(RunWatch x, int n, int upper, int lower) {
        due(16, "odds(" + n + ", 0)", x.odds(n, 0), upper);
        due(16, "odds(" + n + ", 1)", x.odds(n, 1), lower);
    }

    private static void due(int promise, String call, long got, long want) {
        if (got != want) {
            wrong++;
            System.out.println("promise " + promise + ": " + call + " answered " + got + ", due is " + want);
        }
    }
}
