import java.util.ArrayDeque;
import java.util.function.Consumer;

/** The second part of the document's terms (rows, alarms, sums, done and undone), sentence by sentence. */
public final class RowsEdgeTest {
    private RowsEdgeTest() { }

    public static void main(String[] args) {
        rows();
        sums();
        done();
        Trials.end();
    }

    private static void rows() {
        Trials.holds("SIGNS, each at a TIME (0 to 99", RowsEdgeTest::times);
        Trials.holds("no two at one", RowsEdgeTest::noTwoAtOne);
        Trials.holds("40 at most", RowsEdgeTest::fortyRows);
        Trials.holds("none at first", () -> Trials.rowsAre(new RunWatch(), 0));
        Trials.holds("They are GONE THROUGH by TIMES from the first one on", RowsEdgeTest::byTimes);
        Trials.holds("at each one it counts among the last ones", RowsEdgeTest::thisOneCounts);
        Trials.holds("if at least M of the last N", RowsEdgeTest::atLeastSoMany);
        Trials.holds("(this one with them; of those since the latest ALARM, if these are fewer)", RowsEdgeTest::fewer);
        Trials.holds("are in its SET", RowsEdgeTest::inTheSet);
        Trials.holds("If any RULE is MET, there is an ALARM at that ROW", RowsEdgeTest::anyRule);
        Trials.holds("(by all RULES that are MET there)", RowsEdgeTest::allRules);
        Trials.holds("nothing counts among the last ones then", RowsEdgeTest::nothingCounts);
    }

    private static void sums() {
        Trials.holds("SUMS are gone through likewise, for themselves", RowsEdgeTest::forThemselves);
        Trials.holds("UP and DOWN, 0 at first", RowsEdgeTest::zeroAtFirst);
        Trials.holds("its DEVIATION is SIGN less 2", RowsEdgeTest::deviations);
        Trials.holds("UP becomes UP and DEVIATION, less SLACK", RowsEdgeTest::upBecomes);
        Trials.holds("DOWN becomes DOWN less DEVIATION, less SLACK", RowsEdgeTest::downBecomes);
        Trials.holds("each 0 at least", RowsEdgeTest::zeroAtLeast);
        Trials.holds("If UP or DOWN is above LIMIT then, there is a SIGNAL at that ROW", RowsEdgeTest::aboveLimit);
        Trials.holds("and both are 0 then", RowsEdgeTest::bothZero);
    }

    private static void done() {
        Trials.holds("A ROW told late is put where its TIME is, and all is gone through anew", RowsEdgeTest::late);
        Trials.holds("so it is when one is taken out", RowsEdgeTest::takenOut);
        Trials.holds("changed", RowsEdgeTest::changed);
        Trials.holds("and when a text is told", RowsEdgeTest::textTold);
        Trials.holds("DONE: a text told, a ROW told, taken out, changed", RowsEdgeTest::eachUndone);
        Trials.holds("UNDONE: the latest tells(), comes(), goes(), becomes() that was not refused", RowsEdgeTest::notRefused);
        Trials.holds("RULES, CHANCES, SLACK, LIMIT, ROWS are as ahead of it", RowsEdgeTest::asAhead);
        Trials.holds("(6 are known, older ones are lost)", RowsEdgeTest::sixKnown);
        Trials.holds("(6 are known, older ones are lost), done and undone in turn", RowsEdgeTest::inTurn);
    }

    private static void times() {
        RunWatch x = new RunWatch();
        Trials.due("comes(-1, 2)", x.comes(-1, 2), Trials.BAD);
        Trials.due("comes(100, 2)", x.comes(100, 2), Trials.BAD);
        Trials.due("comes(LOW, 2)", x.comes(Trials.LOW, 2), Trials.BAD);
        Trials.due("comes(HIGH, 2)", x.comes(Trials.HIGH, 2), Trials.BAD);
        Trials.due("comes(99, 2)", x.comes(99, 2), 0);
        Trials.due("comes(0, 2)", x.comes(0, 2), 0);
        Trials.rowsAre(x, 0, 0, 99);
    }

    private static void noTwoAtOne() {
        RunWatch x = new RunWatch();
        int[] times = {50, 0, 99};
        for (int time : times) {
            x.comes(time, 1);
        }
        for (int time : times) {
            Trials.due("comes(" + time + ", 1), again", x.comes(time, 1), Trials.STATE);
            Trials.due("comes(" + time + ", 3), again", x.comes(time, 3), Trials.STATE);
        }
        Trials.rowsAre(x, 1, 1, 1, 1);
        x.goes(1);
        Trials.due("comes(50, 3), it has gone", x.comes(50, 3), 1);
    }

    private static void fortyRows() {
        RunWatch x = new RunWatch();
        for (int i = 0; i < 40; i++) {
            Trials.due("comes(" + 2 * i + ", 1)", x.comes(2 * i, 1), i);
        }
        Trials.due("comes(99, 1), the 41st", x.comes(99, 1), Trials.FULL);
        Trials.due("comes(1, 1), the 41st", x.comes(1, 1), Trials.FULL);
        Trials.due("count(1)", x.count(1), 40);
        Trials.due("row(39, 0)", x.row(39, 0), 78);
        x.goes(0);
        Trials.due("comes(99, 1), room again", x.comes(99, 1), 39);
        Trials.due("comes(98, 1), the 41st", x.comes(98, 1), Trials.FULL);
        x.undo();
        Trials.due("comes(0, 1), room again", x.comes(0, 1), 0);
    }

    /** Told in each order, the same rows are the same. */
    private static void byTimes() {
        int[] times = {3, 10, 40, 98};
        int[] signs = {4, 0, 4, 4};
        for (int order = 0; order < 256; order++) {
            int[] told = {order / 64, order / 16 % 4, order / 4 % 4, order % 4};
            if ((1 << told[0] | 1 << told[1] | 1 << told[2] | 1 << told[3]) != 15) {
                continue;
            }
            RunWatch x = Trials.watching("rule 2 2 16;sums 0 3;");
            for (int i : told) {
                x.comes(times[i], signs[i]);
            }
            Trials.rowsAre(x, 0, times);
            Trials.rowsAre(x, 1, signs);
            Trials.alarmsAre(x, 98);
            Trials.signalsAre(x, 98);
        }
    }

    private static void thisOneCounts() {
        Trials.alarmsAre(Trials.watching("rule 1 1 16;", 0, 4, 0), 1);
        Trials.alarmsAre(Trials.watching("rule 2 2 16;", 0, 4, 4), 2);
        Trials.alarmsAre(Trials.watching("rule 1 1 16;", 4), 0);
    }

    /** The oldest one that counts is N less 1 ahead; one further it doesn't. */
    private static void atLeastSoMany() {
        for (int n = 2; n <= 4; n++) {
            for (int m = 2; m <= n; m++) {
                String text = "rule " + m + " " + n + " 16;";
                Trials.alarmsAre(Trials.watching(text, oldest(m, n - m)), n - 1);
                Trials.alarmsAre(Trials.watching(text, oldest(m, n - m + 1)));
                Trials.alarmsAre(Trials.watching(text, oldest(m - 1, n - m + 1)));
            }
            Trials.alarmsAre(Trials.watching("rule 1 " + n + " 16;", 0, 0, 0, 4), 3);
        }
        // The third one is 3 of 4 already, and then the fourth one is the first.
        Trials.rowsAre(Trials.watching("rule 3 4 31;rule 4 4 31;", 0, 0, 0, 0), 2, 0, 0, 1, 0);
    }

    /** A sign of the set, so many others, then the rest of m signs of the set. */
    private static int[] oldest(int m, int others) {
        int[] signs = new int[m + others];
        for (int i = 0; i < signs.length; i++) {
            signs[i] = i == 0 || i > others ? 4 : 0;
        }
        return signs;
    }

    private static void fewer() {
        Trials.alarmsAre(Trials.watching("rule 1 4 16;", 4), 0);
        Trials.alarmsAre(Trials.watching("rule 2 4 16;", 4, 4), 1);
        Trials.alarmsAre(Trials.watching("rule 3 4 16;", 4, 4, 4), 2);
        Trials.alarmsAre(Trials.watching("rule 4 4 16;", 4, 4, 4));
        Trials.alarmsAre(Trials.watching("rule 2 4 16;", 4, 4, 4, 4), 1, 3);
        Trials.alarmsAre(Trials.watching("rule 3 4 16;", 4, 4, 4, 4, 4), 2);
    }

    private static void inTheSet() {
        for (int sign = 0; sign < 5; sign++) {
            Trials.alarmsAre(Trials.watching("rule 1 1 " + (1 << sign) + ";", 0, 1, 2, 3, 4), sign);
        }
        Trials.alarmsAre(Trials.watching("rule 2 2 17;", 0, 4, 1, 4, 0), 1, 4);
        Trials.alarmsAre(Trials.watching("rule 1 1 31;", 0, 1, 2, 3, 4), 0, 1, 2, 3, 4);
    }

    private static void anyRule() {
        Trials.alarmsAre(Trials.watching("rule 1 1 1;rule 1 1 2;rule 1 1 4;", 0, 3, 1, 3, 2), 0, 2, 4);
        Trials.alarmsAre(Trials.watching("", 0, 1, 2, 3, 4));
    }

    private static void allRules() {
        RunWatch x = Trials.watching("rule 1 1 1;rule 1 2 3;rule 1 3 7;", 0, 1, 2, 3);
        Trials.rowsAre(x, 2, 7, 6, 4, 0);
        Trials.rowsAre(Trials.watching("rule 2 2 16;rule 1 1 1;rule 2 2 24;", 3, 4, 4, 4, 0), 2, 0, 4, 0, 5, 2);
    }

    private static void nothingCounts() {
        Trials.alarmsAre(Trials.watching("rule 2 2 16;", 4, 4, 4, 4, 4), 1, 3);
        // Of no rule: the alarm is the first one's, the second one's signs are gone too.
        Trials.alarmsAre(Trials.watching("rule 1 1 16;rule 2 4 3;", 0, 4, 1, 2), 1);
        Trials.rowsAre(Trials.watching("rule 1 1 16;rule 2 4 3;", 0, 4, 1, 2, 0), 2, 0, 1, 0, 0, 2);
        Trials.alarmsAre(Trials.watching("rule 1 1 16;rule 2 4 19;", 0, 2, 2, 4, 1), 3);
    }

    private static void forThemselves() {
        RunWatch x = Trials.watching("rule 2 2 16;rule 1 1 1;sums 1 2;", 4, 4, 4, 4, 0, 0, 0);
        Trials.alarmsAre(x, 1, 3, 4, 5, 6);
        Trials.signalsAre(x, 2, 6);
        Trials.rowsAre(x, 4, 1, 2, 0, 1, 0, 0, 0);
        Trials.rowsAre(x, 5, 0, 0, 0, 0, 1, 2, 0);
    }

    private static void zeroAtFirst() {
        RunWatch x = new RunWatch();
        Trials.due("count(6)", x.count(6), 0);
        Trials.due("count(7)", x.count(7), 0);
        Trials.rowsAre(Trials.watching("sums 0 9;", 4), 4, 2);
        Trials.rowsAre(Trials.watching("sums 0 9;", 0), 5, 2);
    }

    private static void deviations() {
        int[] up = {0, 0, 0, 1, 2};
        int[] down = {2, 1, 0, 0, 0};
        for (int sign = 0; sign < 5; sign++) {
            RunWatch x = Trials.watching("sums 0 9;", sign);
            Trials.rowsAre(x, 4, up[sign]);
            Trials.rowsAre(x, 5, down[sign]);
        }
    }

    private static void upBecomes() {
        Trials.rowsAre(Trials.watching("sums 0 9;", 4, 3, 2, 1, 0), 4, 2, 3, 3, 2, 0);
        Trials.rowsAre(Trials.watching("sums 1 9;", 4, 4, 4, 4, 3, 2, 1), 4, 1, 2, 3, 4, 4, 3, 1);
        Trials.rowsAre(Trials.watching("sums 2 9;", 4, 4, 4), 4, 0, 0, 0);
    }

    private static void downBecomes() {
        Trials.rowsAre(Trials.watching("sums 0 9;", 0, 1, 2, 3, 4), 5, 2, 3, 3, 2, 0);
        Trials.rowsAre(Trials.watching("sums 1 9;", 0, 0, 0, 0, 1, 2, 3), 5, 1, 2, 3, 4, 4, 3, 1);
        Trials.rowsAre(Trials.watching("sums 2 9;", 0, 0, 0), 5, 0, 0, 0);
    }

    private static void zeroAtLeast() {
        Trials.rowsAre(Trials.watching("sums 0 9;", 0, 0, 3), 4, 0, 0, 1);
        Trials.rowsAre(Trials.watching("sums 0 9;", 4, 4, 1), 5, 0, 0, 1);
        Trials.rowsAre(Trials.watching("sums 2 9;", 2, 2, 4), 4, 0, 0, 0);
        Trials.rowsAre(Trials.watching("sums 1 9;", 2, 2, 4), 4, 0, 0, 1);
        Trials.rowsAre(Trials.watching("sums 1 9;", 2, 2, 0), 5, 0, 0, 1);
        // Both at once can be above 0.
        RunWatch x = Trials.watching("sums 0 9;", 4, 1);
        Trials.rowsAre(x, 4, 2, 1);
        Trials.rowsAre(x, 5, 0, 1);
    }

    /** By ones up to the limit itself there is none, one further there is. */
    private static void aboveLimit() {
        for (int limit = 1; limit <= 9; limit++) {
            for (int sign = 1; sign <= 3; sign += 2) {
                RunWatch x = Trials.watching("sums 0 " + limit + ";");
                for (int i = 0; i < limit; i++) {
                    x.comes(i, sign);
                }
                Trials.signalsAre(x);
                Trials.due("count(" + (sign == 3 ? 6 : 7) + ")", x.count(sign == 3 ? 6 : 7), limit);
                x.comes(limit, sign);
                Trials.signalsAre(x, limit);
                Trials.due("row(" + limit + ", 6)", x.row(limit, 6), 1);
            }
        }
        Trials.signalsAre(Trials.watching("sums 0 1;", 4), 0);
        Trials.signalsAre(Trials.watching("sums 0 2;", 0));
    }

    private static void bothZero() {
        RunWatch up = Trials.watching("sums 0 3;", 4, 4, 3, 0);
        Trials.rowsAre(up, 4, 2, 0, 1, 0);
        Trials.rowsAre(up, 5, 0, 0, 0, 2);
        Trials.rowsAre(up, 6, 0, 1, 0, 0);
        RunWatch down = Trials.watching("sums 0 3;", 0, 0, 1, 4);
        Trials.rowsAre(down, 4, 0, 0, 0, 2);
        Trials.rowsAre(down, 5, 2, 0, 1, 0);
        Trials.rowsAre(down, 6, 0, 1, 0, 0);
        Trials.due("count(6) behind a signal", Trials.watching("sums 0 1;", 4).count(6), 0);
        Trials.due("count(7) behind a signal", Trials.watching("sums 0 1;", 0).count(7), 0);
    }

    private static void late() {
        RunWatch x = Trials.watching("rule 2 2 16;sums 0 3;");
        x.comes(10, 4);
        x.comes(30, 4);
        x.comes(50, 4);
        Trials.alarmsAre(x, 30);
        Trials.signalsAre(x, 30);
        Trials.due("comes(5, 4), ahead of all", x.comes(5, 4), 0);
        Trials.alarmsAre(x, 10, 50);
        Trials.signalsAre(x, 10, 50);
        Trials.due("comes(40, 0), between", x.comes(40, 0), 3);
        Trials.alarmsAre(x, 10);
        Trials.signalsAre(x, 10);
        Trials.rowsAre(x, 3, 1, 0, 1, 0, 1);
        Trials.rowsAre(x, 4, 2, 0, 2, 0, 2);
        Trials.due("comes(60, 4), behind all", x.comes(60, 4), 5);
        Trials.alarmsAre(x, 10, 60);
    }

    private static void takenOut() {
        RunWatch x = Trials.watching("rule 2 2 16;sums 0 3;", 4, 4, 4, 0);
        Trials.alarmsAre(x, 1);
        x.goes(0);
        Trials.alarmsAre(x, 2);
        Trials.signalsAre(x, 2);
        x.goes(0);
        Trials.alarmsAre(x);
        Trials.rowsAre(x, 4, 2, 0);
        Trials.rowsAre(x, 5, 0, 2);
        Trials.rowsAre(x, 3, 1, 0);
    }

    private static void changed() {
        RunWatch x = Trials.watching("rule 2 2 16;sums 0 3;", 4, 4, 4, 0);
        x.becomes(0, 2);
        Trials.alarmsAre(x, 2);
        Trials.signalsAre(x, 2);
        x.becomes(3, 4);
        Trials.rowsAre(x, 3, 0, 1, 0, 1);
        x.becomes(1, 0);
        Trials.alarmsAre(x, 3);
        Trials.rowsAre(x, 5, 0, 2, 0, 0);
    }

    private static void textTold() {
        RunWatch x = Trials.watching("rule 2 2 16;sums 0 3;", 4, 4, 4, 0);
        Trials.tell(x, "rule 1 1 1;sums 2 1;");
        Trials.alarmsAre(x, 3);
        Trials.signalsAre(x);
        Trials.rowsAre(x, 1, 4, 4, 4, 0);
        Trials.tell(x, "rule 3 3 16;sums 0 1;");
        Trials.alarmsAre(x, 2);
        Trials.signalsAre(x, 0, 1, 2, 3);
        Trials.tell(x, "");
        Trials.alarmsAre(x);
    }

    private static void eachUndone() {
        undone("a text told", x -> Trials.tell(x, "rule 1 1 1;chance 2 2 2 2 2;sums 2 1;"));
        undone("no items told", RunWatch::tells);
        undone("a row told", x -> x.comes(50, 0));
        undone("a row taken out", x -> x.goes(1));
        undone("a row changed", x -> x.becomes(1, 2));
    }

    /** Behind the change and undo() all is as if neither had been. */
    private static void undone(String name, Consumer<RunWatch> change) {
        String text = "rule 2 3 16;rule 1 1 8;chance 0 1 2 3 4;sums 0 3;";
        int[] signs = {4, 4, 0, 4};
        String difference = Picture.difference(Picture.whole(() -> {
            RunWatch x = Trials.watching(text, signs);
            change.accept(x);
            Trials.due("count(9), " + name, x.count(9), 6);
            Trials.due("undo(), " + name, x.undo(), 5);
            return x;
        }), Picture.whole(Trials.maker(text, signs)));
        Trials.due(name + ", undone", difference, "");
    }

    private static void notRefused() {
        RunWatch x = Trials.watching("", 4, 3);
        Trials.due("comes(1, 1), refused", x.comes(1, 1), Trials.STATE);
        Trials.due("comes(100, 1), refused", x.comes(100, 1), Trials.BAD);
        Trials.due("goes(2), refused", x.goes(2), Trials.BAD);
        Trials.due("becomes(0, 4), refused", x.becomes(0, 4), Trials.STATE);
        Trials.due("tells(), refused", Trials.tell(x, "rule"), -14);
        x.clear();
        Trials.due("keep(0)", x.keep(0), 2);
        Trials.due("count(9)", x.count(9), 3);
        Trials.due("undo(), of comes(1, 3)", x.undo(), 2);
        Trials.rowsAre(x, 1, 4);
        Trials.due("undo(), not of the undo(): of comes(0, 4)", x.undo(), 1);
        Trials.rowsAre(x, 1);
    }

    private static void asAhead() {
        RunWatch x = Trials.watching("rule 2 2 16;rule 1 1 1;chance 0 1 2 3 4;sums 0 3;", 4, 4);
        Trials.tell(x, "rule 3 3 4;chance 4 3 2 1 0;sums 2 9;");
        x.comes(50, 0);
        Trials.typeIn(x, "ru");
        x.undo();
        Trials.rowsAre(x, 1, 4, 4);
        Trials.due("rule(0, 2)", x.rule(0, 2), 4);
        x.undo();
        Trials.due("count(0)", x.count(0), 2);
        Trials.ruleIs(x, 0, 2, 2, 16);
        Trials.ruleIs(x, 1, 1, 1, 1);
        Trials.chancesAre(x, 0, 1, 2, 3, 4);
        Trials.due("count(4)", x.count(4), 0);
        Trials.due("count(5)", x.count(5), 3);
        Trials.alarmsAre(x, 1);
        Trials.signalsAre(x, 1);
        Trials.due("count(8), the text is not of these", x.count(8), 2);
    }

    private static void sixKnown() {
        RunWatch x = new RunWatch();
        for (int done = 1; done <= 9; done++) {
            x.comes(done, done % 5);
            Trials.due("count(9), behind " + done, x.count(9), Math.min(done, 6));
        }
        for (int left = 5; left >= 0; left--) {
            Trials.due("undo()", x.undo(), left);
            Trials.due("count(1)", x.count(1), 3 + left);
        }
        Trials.due("undo(), the seventh", x.undo(), Trials.STATE);
        Trials.rowsAre(x, 0, 1, 2, 3);
        Trials.rowsAre(x, 1, 1, 2, 3);
        // Room for others again, in among the lost ones' places.
        x.comes(50, 4);
        x.goes(0);
        Trials.due("undo()", x.undo(), 1);
        Trials.due("undo()", x.undo(), 0);
        Trials.rowsAre(x, 0, 1, 2, 3);
        Trials.due("undo(), no more", x.undo(), Trials.STATE);
    }

    /** So many done, some undone, some more done, all undone: rows are as a list of all that was shows. */
    private static void inTurn() {
        for (int number = 0; number < 15 * 7 * 9; number++) {
            RunWatch x = new RunWatch();
            ArrayDeque<Integer> known = new ArrayDeque<>();
            int rows = come(x, known, 0, number % 15);
            for (int left = number / 15 % 7; left > 0; left--) {
                rows = undoOne(x, known, rows);
            }
            rows = come(x, known, rows, number / 105);
            for (int left = 0; left < 8; left++) {
                rows = undoOne(x, known, rows);
            }
        }
    }

    /** More rows come: how many there are then. How many there were ahead of each is noted. */
    private static int come(RunWatch x, ArrayDeque<Integer> known, int rows, int more) {
        for (int i = 0; i < more; i++) {
            known.push(rows + i);
            if (known.size() > 6) {
                known.removeLast();
            }
            x.comes(rows + i, i % 5);
        }
        return rows + more;
    }

    private static int undoOne(RunWatch x, ArrayDeque<Integer> known, int rows) {
        int due = known.isEmpty() ? rows : known.pop();
        Trials.due("undo()", x.undo(), due == rows ? Trials.STATE : known.size());
        Trials.due("count(1)", x.count(1), due);
        return due;
    }
}
