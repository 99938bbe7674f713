import java.util.List;

/** The section of each promise, sentence by sentence: what each call answers, and where it is refused. */
public final class CallEdgeTest {
    private static final int BAD = Trials.BAD, STATE = Trials.STATE, FULL = Trials.FULL, ALARM = Trials.ALARM;
    private static final int NONE = Trials.NONE, LOW = Trials.LOW, HIGH = Trials.HIGH;

    private CallEdgeTest() { }

    public static void main(String[] args) {
        whatIsTold();
        rows();
        asked();
        theMachine();
        images();
        Trials.end();
    }

    private static void whatIsTold() {
        Trials.holds("1: No RULES, no ROWS; all else as at first.", CallEdgeTest::aNewObject);
        Trials.holds("2: A letter (0 .. 255) comes to THE TEXT: how many it has.", CallEdgeTest::type);
        Trials.holds("2: BAD", CallEdgeTest::typeBad);
        Trials.holds("2: FULL: 120.", CallEdgeTest::typeFull);
        Trials.holds("3: THE TEXT is empty: how many letters it had.", CallEdgeTest::clear);
        Trials.holds("4: THE TEXT tells RULES, CHANCES, SLACK, LIMIT, and is empty then: how many ITEMS.", CallEdgeTest::tells);
        Trials.holds("4: -10 less FAULT: nothing changes, THE TEXT stays.", CallEdgeTest::tellsFault);
    }

    private static void rows() {
        Trials.holds("5: A ROW comes: its place among all (0 on, by TIMES).", CallEdgeTest::comes);
        Trials.holds("5: BAD", CallEdgeTest::comesBad);
        Trials.holds("5: STATE: there is one at that TIME", CallEdgeTest::comesState);
        Trials.holds("5: FULL: 40.", CallEdgeTest::comesFull);
        Trials.holds("6: The i-th ROW (0 on, by TIMES) is taken out: its TIME.", CallEdgeTest::goes);
        Trials.holds("6: BAD.", CallEdgeTest::goesBad);
        Trials.holds("7: The i-th ROW has another SIGN: what it had.", CallEdgeTest::becomes);
        Trials.holds("7: BAD", CallEdgeTest::becomesBad);
        Trials.holds("7: STATE: it is that.", CallEdgeTest::becomesState);
        Trials.holds("8: UNDONE: how many more may be.", CallEdgeTest::undo);
        Trials.holds("8: STATE: none.", CallEdgeTest::undoState);
    }

    private static void asked() {
        Trials.holds("9: Of a RULE: 0 M, 1 N, 2 SET.", CallEdgeTest::rule);
        Trials.holds("9: BAD.", CallEdgeTest::ruleBad);
        Trials.holds("10: CHANCE of a SIGN.", () -> Trials.chancesAre(Trials.watching("chance 4 0 3 1 2;"), 4, 0, 3, 1, 2));
        Trials.holds("10: BAD.", CallEdgeTest::chanceBad);
        Trials.holds("11: 0 TIME, 1 SIGN", CallEdgeTest::rowTimeAndSign);
        Trials.holds("11: 2 RULES that are MET there (bits)", CallEdgeTest::rowMet);
        Trials.holds("11: 3 the STATE behind it (0 behind an ALARM)", CallEdgeTest::rowState);
        Trials.holds("11: 4 UP there, 5 DOWN (behind it; 0 behind a SIGNAL)", CallEdgeTest::rowSums);
        Trials.holds("11: 6 whether there is a SIGNAL (1, 0).", CallEdgeTest::rowSignal);
        Trials.holds("11: BAD.", CallEdgeTest::rowBad);
        Trials.holds("12: TIME of the k-th ALARM (0 on)", CallEdgeTest::alarm);
        Trials.holds("12: how many there are (k = -1)", CallEdgeTest::howManyAlarms);
        Trials.holds("12: NONE: not so many.", CallEdgeTest::alarmNone);
        Trials.holds("12: BAD (k below -1).", CallEdgeTest::alarmBad);
        Trials.holds("13: TIME of the k-th SIGNAL, likewise.", CallEdgeTest::signal);
        Trials.holds("13: .. NONE: not so many. BAD (k below -1), likewise", CallEdgeTest::signalNone);
    }

    private static void theMachine() {
        Trials.holds("14: STEP from a STATE by a SIGN; ALARM.", CallEdgeTest::step);
        Trials.holds("14: BAD.", CallEdgeTest::stepBad);
        Trials.holds("15: SOONEST: how many (k = -1), the k-th SIGN (0 on)", CallEdgeTest::soonest);
        Trials.holds("15: NONE: not so many, none at all.", CallEdgeTest::soonestNone);
        Trials.holds("15: BAD (k below -1).", CallEdgeTest::soonestBad);
        Trials.holds("16: ODDS: upper (what = 0), lower number (1), in least terms.", CallEdgeTest::odds);
        Trials.holds("16: BAD.", CallEdgeTest::oddsBad);
        Trials.holds("17: MEAN; NONE.", CallEdgeTest::mean);
        Trials.holds("18: SAME: how many (what = 0), the first (1; NONE).", CallEdgeTest::same);
        Trials.holds("18: BAD.", CallEdgeTest::sameBad);
    }

    private static void images() {
        Trials.holds("19: An IMAGE is kept: how many ROWS.", CallEdgeTest::keep);
        Trials.holds("19: BAD.", CallEdgeTest::keepBad);
        Trials.holds("20: All of that becomes as an IMAGE has it: how many ROWS.", CallEdgeTest::back);
        Trials.holds("20: BAD", CallEdgeTest::backBad);
        Trials.holds("20: STATE: none was kept.", CallEdgeTest::backState);
        Trials.holds("21: 0 RULES, 1 ROWS, 2 STATES of THE MACHINE, 3 the STATE NOW, 4 SLACK, 5 LIMIT, 6 UP now, 7 DOWN now, "
            + "8 letters of THE TEXT, 9 how many may be UNDONE.", CallEdgeTest::count);
        Trials.holds("21: BAD.", CallEdgeTest::countBad);
        Trials.holds("An object is used for at most 512 calls after it has been made", CallEdgeTest::manyCalls);
    }

    private static void aNewObject() {
        RunWatch x = new RunWatch();
        int[] counts = {0, 0, 1, 0, 1, 4, 0, 0, 0, 0};
        for (int what = 0; what <= 9; what++) {
            Trials.due("count(" + what + ")", x.count(what), counts[what]);
        }
        Trials.chancesAre(x, 1, 2, 4, 2, 1);
        Trials.due("undo()", x.undo(), STATE);
        Trials.due("back(0)", x.back(0), STATE);
        Trials.due("back(1)", x.back(1), STATE);
        Trials.due("clear()", x.clear(), 0);
        List<String> before = Picture.whole(RunWatch::new);
        RunWatch other = Trials.watching("rule 1 1 1;chance 0 0 0 0 10;sums 2 9;", 0, 1);
        other.keep(0);
        Trials.typeIn(other, "ru");
        Trials.due("a new one beside another", Picture.difference(Picture.whole(RunWatch::new), before), "");
    }

    private static void type() {
        RunWatch x = new RunWatch();
        Trials.due("type(0)", x.type(0), 1);
        Trials.due("type(255)", x.type(255), 2);
        Trials.due("type(32)", x.type(' '), 3);
        Trials.due("count(8)", x.count(8), 3);
        x.clear();
        Trials.due("type(97), behind clear()", x.type('a'), 1);
        x.clear();
        Trials.tell(x, "sums 0 1;");
        Trials.due("type(97), behind tells()", x.type('a'), 1);
    }

    private static void typeBad() {
        RunWatch x = new RunWatch();
        for (int letter : new int[] {-1, 256, LOW, HIGH, 288, 32 - 256}) {
            Trials.due("type(" + letter + ")", x.type(letter), BAD);
        }
        Trials.due("count(8)", x.count(8), 0);
    }

    private static void typeFull() {
        RunWatch x = new RunWatch();
        for (int i = 1; i <= 120; i++) {
            Trials.due("type(32)", x.type(' '), i);
        }
        Trials.due("type(59), the 121st", x.type(';'), FULL);
        Trials.due("count(8)", x.count(8), 120);
        Trials.due("tells()", x.tells(), 0);
        Trials.due("type(59), room again", x.type(';'), 1);
    }

    private static void clear() {
        RunWatch x = new RunWatch();
        Trials.due("clear(), of nothing", x.clear(), 0);
        Trials.typeIn(x, "x".repeat(120));
        Trials.due("clear(), full", x.clear(), 120);
        Trials.due("count(8)", x.count(8), 0);
        Trials.due("clear(), again", x.clear(), 0);
        Trials.due("tells(), nothing is left of it", x.tells(), 0);
    }

    private static void tells() {
        RunWatch x = new RunWatch();
        Trials.due("tells(), none", x.tells(), 0);
        Trials.due("tells(), 1", Trials.tell(x, "rule 1 1 1;"), 1);
        Trials.due("tells(), 5", Trials.tell(x, "rule 1 1 1;chance 0 0 0 0 10;rule 2 2 2;sums 2 9;rule 3 3 4;"), 5);
        Trials.due("count(8)", x.count(8), 0);
        Trials.due("count(0)", x.count(0), 3);
        Trials.chancesAre(x, 0, 0, 0, 0, 10);
        Trials.due("count(4)", x.count(4), 2);
        Trials.due("count(5)", x.count(5), 9);
    }

    private static void tellsFault() {
        RunWatch x = new RunWatch();
        Trials.due("tells(), fault 0", Trials.tell(x, "x"), -10);
        Trials.due("count(8)", x.count(8), 1);
        x.clear();
        Trials.due("tells(), fault 119", Trials.tell(x, " ".repeat(119) + "x"), -129);
        Trials.due("count(8)", x.count(8), 120);
        x.clear();
        Trials.due("tells(), fault 120", Trials.tell(x, " ".repeat(115) + "rule "), -130);
        x.clear();
        // A text that stays can be gone on with.
        Trials.due("tells(), too early", Trials.tell(x, "rule 1 1"), -18);
        Trials.due("count(9)", x.count(9), 0);
        Trials.due("tells(), gone on with", Trials.tell(x, " 1;"), 1);
    }

    private static void comes() {
        RunWatch x = new RunWatch();
        Trials.due("comes(50, 0), the first", x.comes(50, 0), 0);
        Trials.due("comes(99, 1), the last", x.comes(99, 1), 1);
        Trials.due("comes(0, 2), ahead of all", x.comes(0, 2), 0);
        Trials.due("comes(49, 3), just ahead", x.comes(49, 3), 1);
        Trials.due("comes(51, 4), just behind", x.comes(51, 4), 3);
        Trials.rowsAre(x, 0, 0, 49, 50, 51, 99);
        Trials.rowsAre(x, 1, 2, 3, 0, 4, 1);
    }

    private static void comesBad() {
        RunWatch x = new RunWatch();
        for (int wrong : new int[] {-1, LOW, HIGH}) {
            Trials.due("comes(" + wrong + ", 0)", x.comes(wrong, 0), BAD);
            Trials.due("comes(0, " + wrong + ")", x.comes(0, wrong), BAD);
        }
        Trials.due("comes(100, 0)", x.comes(100, 0), BAD);
        Trials.due("comes(0, 5)", x.comes(0, 5), BAD);
        Trials.due("count(1)", x.count(1), 0);
    }

    private static void comesState() {
        RunWatch x = Trials.watching("", 1, 2, 3);
        for (int time = 0; time < 3; time++) {
            Trials.due("comes(" + time + ", 4)", x.comes(time, 4), STATE);
            Trials.due("comes(" + time + ", as it is)", x.comes(time, 1 + time), STATE);
        }
        Trials.rowsAre(x, 1, 1, 2, 3);
    }

    private static void comesFull() {
        RunWatch x = new RunWatch();
        for (int i = 0; i < 39; i++) {
            x.comes(10 + i, 2);
        }
        Trials.due("comes(99, 2), the 40th", x.comes(99, 2), 39);
        Trials.due("comes(98, 2), the 41st", x.comes(98, 2), FULL);
        Trials.due("comes(0, 2), the 41st", x.comes(0, 2), FULL);
        x.undo();
        Trials.due("comes(0, 2), the 40th", x.comes(0, 2), 0);
        Trials.due("row(39, 0)", x.row(39, 0), 48);
    }

    private static void goes() {
        RunWatch x = new RunWatch();
        for (int time : new int[] {70, 30, 50, 10}) {
            x.comes(time, time / 10 % 5);
        }
        Trials.due("goes(3), the last", x.goes(3), 70);
        Trials.due("goes(0), the first", x.goes(0), 10);
        Trials.rowsAre(x, 0, 30, 50);
        Trials.rowsAre(x, 1, 3, 0);
        Trials.due("goes(0)", x.goes(0), 30);
        Trials.due("goes(0), the only one", x.goes(0), 50);
        Trials.due("count(1)", x.count(1), 0);
    }

    private static void goesBad() {
        RunWatch x = new RunWatch();
        Trials.due("goes(0), no rows", x.goes(0), BAD);
        x.comes(5, 1);
        for (int wrong : new int[] {-1, 1, 40, LOW, HIGH}) {
            Trials.due("goes(" + wrong + ")", x.goes(wrong), BAD);
        }
        Trials.due("count(1)", x.count(1), 1);
    }

    private static void becomes() {
        RunWatch x = Trials.watching("", 0, 2, 4);
        Trials.due("becomes(0, 4)", x.becomes(0, 4), 0);
        Trials.due("becomes(2, 0)", x.becomes(2, 0), 4);
        Trials.due("becomes(1, 3)", x.becomes(1, 3), 2);
        Trials.rowsAre(x, 1, 4, 3, 0);
        Trials.rowsAre(x, 0, 0, 1, 2);
    }

    private static void becomesBad() {
        RunWatch x = new RunWatch();
        Trials.due("becomes(0, 0), no rows", x.becomes(0, 0), BAD);
        x.comes(5, 1);
        for (int wrong : new int[] {-1, LOW, HIGH}) {
            Trials.due("becomes(" + wrong + ", 0)", x.becomes(wrong, 0), BAD);
            Trials.due("becomes(0, " + wrong + ")", x.becomes(0, wrong), BAD);
        }
        Trials.due("becomes(1, 0)", x.becomes(1, 0), BAD);
        Trials.due("becomes(0, 5)", x.becomes(0, 5), BAD);
        Trials.rowsAre(x, 1, 1);
    }

    private static void becomesState() {
        RunWatch x = Trials.watching("", 0, 2, 4);
        for (int i = 0; i < 3; i++) {
            Trials.due("becomes(" + i + ", " + 2 * i + ")", x.becomes(i, 2 * i), STATE);
        }
        Trials.due("count(9)", x.count(9), 4);
    }

    private static void undo() {
        RunWatch x = Trials.watching("", 0, 1);
        Trials.due("undo()", x.undo(), 2);
        Trials.due("undo()", x.undo(), 1);
        x.comes(9, 4);
        Trials.due("count(9)", x.count(9), 2);
        Trials.due("undo()", x.undo(), 1);
        Trials.due("undo()", x.undo(), 0);
        Trials.due("count(9)", x.count(9), 0);
    }

    private static void undoState() {
        RunWatch x = new RunWatch();
        Trials.due("undo(), of a new one", x.undo(), STATE);
        x.comes(9, 4);
        x.undo();
        Trials.due("undo(), none left", x.undo(), STATE);
        x.keep(0);
        x.comes(9, 4);
        x.back(0);
        Trials.due("undo(), behind back()", x.undo(), STATE);
    }

    private static void rule() {
        RunWatch x = Trials.watching("rule 2 4 31;rule 1 1 16;rule 3 4 1;");
        Trials.ruleIs(x, 0, 2, 4, 31);
        Trials.ruleIs(x, 1, 1, 1, 16);
        Trials.ruleIs(x, 2, 3, 4, 1);
    }

    private static void ruleBad() {
        RunWatch x = new RunWatch();
        Trials.due("rule(0, 0), no rules", x.rule(0, 0), BAD);
        Trials.tell(x, "rule 1 1 1;rule 1 1 1;rule 1 1 1;");
        for (int wrong : new int[] {-1, 3, LOW, HIGH}) {
            Trials.due("rule(" + wrong + ", 0)", x.rule(wrong, 0), BAD);
            Trials.due("rule(0, " + wrong + ")", x.rule(0, wrong), BAD);
        }
        Trials.tell(x, "rule 1 1 1;");
        Trials.due("rule(1, 0), one rule alone", x.rule(1, 0), BAD);
    }

    private static void chanceBad() {
        RunWatch x = new RunWatch();
        for (int wrong : new int[] {-1, 5, LOW, HIGH}) {
            Trials.due("chance(" + wrong + ")", x.chance(wrong), BAD);
        }
    }

    private static void rowTimeAndSign() {
        RunWatch x = new RunWatch();
        x.comes(99, 0);
        x.comes(0, 4);
        Trials.rowsAre(x, 0, 0, 99);
        Trials.rowsAre(x, 1, 4, 0);
    }

    private static void rowMet() {
        Trials.rowsAre(Trials.watching("rule 1 1 1;rule 1 1 3;rule 1 1 7;", 3, 2, 1, 0), 2, 0, 4, 6, 7);
        Trials.rowsAre(Trials.watching("rule 1 1 1;rule 1 1 2;", 0, 1), 2, 1, 2);
        Trials.rowsAre(Trials.watching("", 0, 1), 2, 0, 0);
    }

    private static void rowState() {
        Trials.rowsAre(Trials.watching("rule 3 3 1;", 0, 0, 0, 0, 1), 3, 1, 2, 0, 1, 0);
        Trials.rowsAre(Trials.watching("", 0, 1), 3, 0, 0);
    }

    private static void rowSums() {
        Trials.rowsAre(Trials.watching("sums 0 3;", 4, 3, 3, 4), 4, 2, 3, 0, 2);
        Trials.rowsAre(Trials.watching("sums 0 3;", 0, 1, 1, 0), 5, 2, 3, 0, 2);
    }

    private static void rowSignal() {
        Trials.rowsAre(Trials.watching("sums 0 3;", 4, 3, 3, 4), 6, 0, 0, 1, 0);
        Trials.rowsAre(Trials.watching("sums 0 3;", 0, 1, 1, 0), 6, 0, 0, 1, 0);
    }

    private static void rowBad() {
        RunWatch x = new RunWatch();
        for (int what = -1; what <= 7; what++) {
            Trials.due("row(0, " + what + "), no rows", x.row(0, what), BAD);
        }
        x.comes(5, 1);
        for (int wrong : new int[] {-1, LOW, HIGH}) {
            Trials.due("row(" + wrong + ", 0)", x.row(wrong, 0), BAD);
            Trials.due("row(0, " + wrong + ")", x.row(0, wrong), BAD);
        }
        Trials.due("row(0, 7)", x.row(0, 7), BAD);
        for (int what = 0; what <= 6; what++) {
            Trials.due("row(1, " + what + ")", x.row(1, what), BAD);
        }
        x.goes(0);
        Trials.due("row(0, 0), gone", x.row(0, 0), BAD);
    }

    private static void alarm() {
        RunWatch x = Trials.watching("rule 1 1 24;");
        int[] signs = {4, 0, 3, 0, 4};
        for (int i = 0; i < signs.length; i++) {
            x.comes(7 + 20 * i, signs[i]);
        }
        Trials.due("alarm(0)", x.alarm(0), 7);
        Trials.due("alarm(1)", x.alarm(1), 47);
        Trials.due("alarm(2), the last", x.alarm(2), 87);
    }

    private static void howManyAlarms() {
        Trials.due("alarm(-1), no rows", new RunWatch().alarm(-1), 0);
        Trials.due("alarm(-1), no rules", Trials.watching("", 0, 4).alarm(-1), 0);
        RunWatch x = Trials.watching("rule 1 1 31;");
        for (int i = 0; i < 40; i++) {
            x.comes(99 - i, i % 5);
        }
        Trials.due("alarm(-1), all of 40", x.alarm(-1), 40);
        Trials.due("alarm(39)", x.alarm(39), 99);
    }

    private static void alarmNone() {
        Trials.due("alarm(0), no rows", new RunWatch().alarm(0), NONE);
        RunWatch x = Trials.watching("rule 1 1 16;", 4, 4);
        Trials.due("alarm(2)", x.alarm(2), NONE);
        Trials.due("alarm(HIGH)", x.alarm(HIGH), NONE);
    }

    private static void alarmBad() {
        RunWatch x = Trials.watching("rule 1 1 16;", 4, 4);
        Trials.due("alarm(-2)", x.alarm(-2), BAD);
        Trials.due("alarm(LOW)", x.alarm(LOW), BAD);
        Trials.due("alarm(-2), no rows", new RunWatch().alarm(-2), BAD);
    }

    private static void signal() {
        RunWatch x = Trials.watching("sums 0 1;");
        int[] signs = {4, 2, 0, 3, 3};
        for (int i = 0; i < signs.length; i++) {
            x.comes(7 + 20 * i, signs[i]);
        }
        Trials.signalsAre(x, 7, 47, 87);
        RunWatch y = Trials.watching("sums 0 1;");
        for (int i = 0; i < 40; i++) {
            y.comes(99 - i, i % 2 * 4);
        }
        Trials.due("signal(-1), all of 40", y.signal(-1), 40);
        Trials.due("signal(39)", y.signal(39), 99);
    }

    private static void signalNone() {
        Trials.due("signal(0), no rows", new RunWatch().signal(0), NONE);
        Trials.due("signal(-1), no rows", new RunWatch().signal(-1), 0);
        RunWatch x = Trials.watching("sums 0 1;", 4, 4);
        Trials.due("signal(2)", x.signal(2), NONE);
        Trials.due("signal(HIGH)", x.signal(HIGH), NONE);
        Trials.due("signal(-2)", x.signal(-2), BAD);
        Trials.due("signal(LOW)", x.signal(LOW), BAD);
    }

    private static void step() {
        Trials.stepsAre(Trials.watching("rule 2 2 24;", 4), new int[] {0, 0, 0, 1, 1}, new int[] {0, 0, 0, ALARM, ALARM});
        Trials.stepsAre(Trials.watching("rule 1 1 31;"), new int[] {ALARM, ALARM, ALARM, ALARM, ALARM});
    }

    private static void stepBad() {
        RunWatch x = new RunWatch();
        Trials.due("step(1, 0), no rules", x.step(1, 0), BAD);
        Trials.tell(x, "rule 2 2 24;");
        for (int wrong : new int[] {-1, LOW, HIGH}) {
            Trials.due("step(" + wrong + ", 0)", x.step(wrong, 0), BAD);
            Trials.due("step(0, " + wrong + ")", x.step(0, wrong), BAD);
        }
        Trials.due("step(2, 0)", x.step(2, 0), BAD);
        Trials.due("step(1, 5)", x.step(1, 5), BAD);
        Trials.tell(x, "");
        Trials.due("step(1, 0), no rules any more", x.step(1, 0), BAD);
    }

    private static void soonest() {
        RunWatch x = Trials.watching("rule 3 3 8;rule 4 4 24;", 4);
        Trials.due("soonest(-1)", x.soonest(-1), 3);
        Trials.due("soonest(0)", x.soonest(0), 3);
        Trials.due("soonest(1)", x.soonest(1), 3);
        Trials.due("soonest(2)", x.soonest(2), 3);
        Trials.soonestIs(Trials.watching("rule 3 3 13;rule 4 4 1;", 0), 0, 0);
        Trials.soonestIs(Trials.watching("rule 4 4 3;rule 4 4 24;", 4, 4, 1), 0, 0, 0);
    }

    private static void soonestNone() {
        RunWatch x = Trials.watching("rule 2 2 8;");
        Trials.due("soonest(2)", x.soonest(2), NONE);
        Trials.due("soonest(HIGH)", x.soonest(HIGH), NONE);
        Trials.due("soonest(-1), none at all", new RunWatch().soonest(-1), NONE);
        Trials.due("soonest(0), none at all", new RunWatch().soonest(0), NONE);
    }

    private static void soonestBad() {
        Trials.due("soonest(-2)", Trials.watching("rule 2 2 8;").soonest(-2), BAD);
        Trials.due("soonest(LOW)", Trials.watching("rule 2 2 8;").soonest(LOW), BAD);
        Trials.due("soonest(-2), none at all", new RunWatch().soonest(-2), BAD);
    }

    private static void odds() {
        Trials.oddsAre(Trials.watching("rule 1 1 4;"), 1, 2, 5);
        Trials.oddsAre(Trials.watching("rule 1 1 4;"), 2, 16, 25);
        Trials.oddsAre(Trials.watching("rule 1 1 4;chance 0 0 5 5 0;"), 8, 255, 256);
        Trials.oddsAre(Trials.watching("rule 1 1 4;chance 0 0 2 8 0;"), 8, 325089, 390625);
        Trials.oddsAre(Trials.watching("rule 1 1 4;chance 0 0 3 7 0;"), 8, 94235199, 100000000);
        Trials.oddsAre(Trials.watching("rule 1 1 4;chance 0 0 0 5 5;"), 8, 0, 1);
        Trials.oddsAre(Trials.watching("rule 1 1 4;chance 0 0 10 0 0;"), 8, 1, 1);
    }

    private static void oddsBad() {
        RunWatch x = Trials.watching("rule 1 1 4;");
        for (int wrong : new int[] {-1, LOW, HIGH}) {
            Trials.due("odds(" + wrong + ", 0)", x.odds(wrong, 0), BAD);
            Trials.due("odds(0, " + wrong + ")", x.odds(0, wrong), BAD);
        }
        Trials.due("odds(9, 1)", x.odds(9, 1), BAD);
        Trials.due("odds(8, 2)", x.odds(8, 2), BAD);
    }

    private static void mean() {
        RunWatch x = Trials.watching("rule 1 1 4;chance 0 0 5 5 0;");
        Trials.due("mean()", x.mean(), 2);
        Trials.tell(x, "");
        Trials.due("mean(), no rules", x.mean(), NONE);
        x.undo();
        Trials.due("mean(), undone", x.mean(), 2);
        Trials.tell(x, "rule 1 1 4;chance 0 0 0 10 0;");
        Trials.due("mean(), other chances", x.mean(), NONE);
    }

    private static void same() {
        // An alarm at the first row alone: M is 1, the set has that sign and no other.
        RunWatch x = Trials.watching("rule 1 1 4;", 2, 0, 1, 3, 4);
        Trials.due("same(0)", x.same(0), 4);
        Trials.due("same(1)", x.same(1), 1104);
        RunWatch y = Trials.watching("rule 1 1 16;rule 2 2 8;", 4, 3, 3, 0, 3, 0, 3, 0);
        Trials.alarmsAre(y, 0, 2);
        y.comes(50, 4);
        y.comes(60, 0);
        y.comes(61, 3);
        y.comes(62, 0);
        y.comes(63, 0);
        Trials.due("same(0), not 3 alone, but 4 alone", y.same(0), 0);
        Trials.due("same(1), not 3 alone, but 4 alone", y.same(1), NONE);
    }

    private static void sameBad() {
        for (int wrong : new int[] {-1, 2, LOW, HIGH}) {
            Trials.due("same(" + wrong + ")", new RunWatch().same(wrong), BAD);
        }
    }

    private static void keep() {
        RunWatch x = new RunWatch();
        Trials.due("keep(0), no rows", x.keep(0), 0);
        for (int i = 0; i < 40; i++) {
            x.comes(i, 2);
        }
        Trials.due("keep(1), 40 rows", x.keep(1), 40);
        x.goes(0);
        Trials.due("keep(1), anew", x.keep(1), 39);
        Trials.due("back(1)", x.back(1), 39);
        Trials.due("back(0)", x.back(0), 0);
    }

    private static void keepBad() {
        for (int wrong : new int[] {-1, 2, LOW, HIGH}) {
            Trials.due("keep(" + wrong + ")", new RunWatch().keep(wrong), BAD);
        }
    }

    private static void back() {
        RunWatch x = new RunWatch();
        x.keep(1);
        for (int i = 0; i < 40; i++) {
            x.comes(i, 2);
        }
        x.keep(0);
        Trials.due("back(1), no rows", x.back(1), 0);
        Trials.due("count(1)", x.count(1), 0);
        Trials.due("back(0), 40 rows", x.back(0), 40);
        Trials.due("row(39, 0)", x.row(39, 0), 39);
        Trials.due("back(0), once more", x.back(0), 40);
    }

    private static void backBad() {
        RunWatch x = new RunWatch();
        for (int wrong : new int[] {-1, 2, LOW, HIGH}) {
            Trials.due("back(" + wrong + ")", x.back(wrong), BAD);
        }
    }

    private static void backState() {
        RunWatch x = Trials.watching("", 1);
        Trials.due("back(0)", x.back(0), STATE);
        x.keep(1);
        Trials.due("back(0), the other one was", x.back(0), STATE);
        Trials.due("count(9)", x.count(9), 2);
        x.keep(0);
        Trials.due("back(0), now it was", x.back(0), 1);
    }

    private static void count() {
        RunWatch x = Trials.watching("rule 2 3 24;rule 1 1 1;sums 0 5;", 3, 4, 1, 3, 1);
        Trials.typeIn(x, "rule");
        int[] counts = {2, 5, 3, 2, 0, 5, 2, 1, 4, 6};
        for (int what = 0; what <= 9; what++) {
            Trials.due("count(" + what + ")", x.count(what), counts[what]);
        }
    }

    private static void countBad() {
        for (int wrong : new int[] {-1, 10, LOW, HIGH}) {
            Trials.due("count(" + wrong + ")", new RunWatch().count(wrong), BAD);
        }
    }

    /** The last of 512 calls is answered like the first. */
    private static void manyCalls() {
        RunWatch x = new RunWatch();
        for (int i = 0; i < 255; i++) {
            Trials.due("comes(7, 4), call " + (2 * i + 1), x.comes(7, 4), 0);
            Trials.due("goes(0), call " + (2 * i + 2), x.goes(0), 7);
        }
        Trials.due("comes(7, 4), call 511", x.comes(7, 4), 0);
        Trials.due("count(9), call 512", x.count(9), 6);
    }
}
