/** The third part of the document's terms (the machine and what is asked of it, images), sentence by sentence. */
public final class MachineEdgeTest {
    private static final int ALARM = Trials.ALARM, NONE = Trials.NONE;
    private static final long PRIME = 1000003;

    private MachineEdgeTest() { }

    public static void main(String[] args) {
        states();
        now();
        mean();
        same();
        images();
        Trials.end();
    }

    private static void states() {
        Trials.holds("are of one STATE, if whatever SIGNS come behind both, the first ALARM comes at the same one of these",
            MachineEdgeTest::fewestStates);
        Trials.holds("or at none", MachineEdgeTest::neverAnAlarm);
        Trials.holds("0 is that of the empty row", MachineEdgeTest::emptyRow);
        Trials.holds("then STATE by STATE, from 0 on, each SIGN 0 to 4 behind it, as they are come to for the first time",
            MachineEdgeTest::numbered);
        Trials.holds("STEP: from a STATE by a SIGN: the STATE then, or ALARM", MachineEdgeTest::step);
        Trials.holds("(Without RULES there is one STATE.)", MachineEdgeTest::withoutRules);
        Trials.holds("THE MACHINE (of all RULES)", MachineEdgeTest::ofAllRules);
    }

    private static void now() {
        Trials.holds("NOW: the STATE behind all ROWS", MachineEdgeTest::behindAllRows);
        Trials.holds("(0 behind an ALARM)", MachineEdgeTest::behindAnAlarm);
        Trials.holds("SOONEST: the fewest SIGNS that can bring an ALARM from NOW on", MachineEdgeTest::fewestSigns);
        Trials.holds("(whatever their CHANCES)", MachineEdgeTest::whateverChances);
        Trials.holds("the row of so many that does, of several the first (SIGN by SIGN)", MachineEdgeTest::firstOfSeveral);
        Trials.holds("NONE", () -> Trials.soonestIs(Trials.watching("", 0, 4)));
        Trials.holds("ODDS of n (0 to 8)", MachineEdgeTest::boundsOfOdds);
        Trials.holds("that from NOW on there is an ALARM by n SIGNS at most", MachineEdgeTest::oddsFromNow);
        Trials.holds("each by its CHANCE, for itself: a fraction", MachineEdgeTest::eachByItsChance);
        Trials.holds("(SIGNS of CHANCE 0 don't come.)", MachineEdgeTest::chanceZero);
    }

    private static void mean() {
        Trials.holds("MEAN: of each STATE a number left over by P, P being 1000003", MachineEdgeTest::leftOver);
        Trials.holds("so that 10 times it is 10 and, for each SIGN, its CHANCE times the number of the STATE it leads to",
            MachineEdgeTest::equations);
        Trials.holds("(0 for an ALARM)", MachineEdgeTest::zeroForAnAlarm);
        Trials.holds("that of the STATE NOW", MachineEdgeTest::meanNow);
        Trials.holds("NONE, if there are no such numbers, or more than one for some STATE", MachineEdgeTest::noMean);
    }

    private static void same() {
        Trials.holds("single RULES (N 1 to 4, M 1 to N, SET 1 to 31)", MachineEdgeTest::allSingles);
        Trials.holds("which alone, ROWS being as they are, would give ALARMS at just the same ROWS", MachineEdgeTest::justTheSame);
        Trials.holds("the first (by N, then M, then SET: 1000 N and 100 M and SET)", MachineEdgeTest::firstSingle);
        Trials.holds("the first (..); NONE", MachineEdgeTest::noSingle);
    }

    private static void images() {
        Trials.holds("IMAGES 0, 1", MachineEdgeTest::twoImages);
        Trials.holds("keep RULES, CHANCES, SLACK, LIMIT, ROWS", MachineEdgeTest::whatImagesKeep);
        Trials.holds("nothing else", MachineEdgeTest::nothingElse);
        Trials.holds("(nothing can be UNDONE behind back())", MachineEdgeTest::nothingUndone);
        Trials.holds("(A text told: ROWS, IMAGES stay.)", MachineEdgeTest::rowsAndImagesStay);
    }

    private static void fewestStates() {
        // Which rule is met makes no difference.
        Trials.stepsAre(Trials.watching("rule 1 1 1;rule 1 1 2;"), new int[] {ALARM, ALARM, 0, 0, 0});
        // Another rule that is never the first one makes none either.
        Trials.stepsAre(Trials.watching("rule 2 2 1;rule 4 4 1;rule 2 2 1;"), row(1, 0, 0, 0, 0), row(ALARM, 0, 0, 0, 0));
        // M being 1, N makes none.
        Trials.stepsAre(Trials.watching("rule 1 4 16;rule 1 4 8;"), row(0, 0, 0, ALARM, ALARM));
        // Of 3 of 4, one that is too old to help is as none.
        Trials.stepsAre(Trials.watching("rule 3 4 16;"), row(0, 0, 0, 0, 1), row(2, 2, 2, 2, 3), row(0, 0, 0, 0, 4),
            row(5, 5, 5, 5, ALARM), row(2, 2, 2, 2, ALARM), row(0, 0, 0, 0, ALARM));
        Trials.due("count(2), all of a set", Trials.watching("rule 4 4 31;").count(2), 4);
    }

    private static void neverAnAlarm() {
        // All of them lead to no alarm, ever: one state.
        RunWatch x = Trials.watching("", 0, 1, 2, 3, 4);
        Trials.rowsAre(x, 3, 0, 0, 0, 0, 0);
        Trials.stepsAre(x, row(0, 0, 0, 0, 0));
    }

    private static void emptyRow() {
        RunWatch x = new RunWatch();
        Trials.due("count(3)", x.count(3), 0);
        Trials.tell(x, "rule 2 3 1;rule 3 4 2;");
        Trials.due("count(3)", x.count(3), 0);
        x.comes(1, 0);
        x.goes(0);
        Trials.due("count(3), empty again", x.count(3), 0);
    }

    private static void numbered() {
        // All signs of 0 come ahead of what is behind 1.
        Trials.stepsAre(Trials.watching("rule 3 3 1;rule 3 3 16;"), row(1, 0, 0, 0, 2), row(3, 0, 0, 0, 2),
            row(1, 0, 0, 0, 4), row(ALARM, 0, 0, 0, 2), row(1, 0, 0, 0, ALARM));
        // The lower sign is the earlier state, whichever rule is the earlier.
        Trials.stepsAre(Trials.watching("rule 2 2 8;rule 2 2 2;"), row(0, 1, 0, 2, 0), row(0, ALARM, 0, 2, 0),
            row(0, 1, 0, ALARM, 0));
        // Both that are behind 1 come ahead of the one behind 2.
        Trials.stepsAre(Trials.watching("rule 3 4 1;"), row(1, 0, 0, 0, 0), row(2, 3, 3, 3, 3), row(ALARM, 4, 4, 4, 4),
            row(5, 0, 0, 0, 0), row(ALARM, 0, 0, 0, 0), row(ALARM, 3, 3, 3, 3));
        // What a sign leads back to keeps its number.
        Trials.stepsAre(Trials.watching("rule 2 3 1;"), row(1, 0, 0, 0, 0), row(ALARM, 2, 2, 2, 2), row(ALARM, 0, 0, 0, 0));
    }

    private static void step() {
        RunWatch x = Trials.watching("rule 2 2 24;");
        Trials.stepsAre(x, row(0, 0, 0, 1, 1), row(0, 0, 0, ALARM, ALARM));
        Trials.due("step(2, 0)", x.step(2, 0), Trials.BAD);
        Trials.due("step(-1, 0)", x.step(-1, 0), Trials.BAD);
        Trials.due("step(ALARM, 0)", x.step(ALARM, 0), Trials.BAD);
        Trials.due("step(1, 5)", x.step(1, 5), Trials.BAD);
    }

    private static void withoutRules() {
        Trials.stepsAre(new RunWatch(), row(0, 0, 0, 0, 0));
        RunWatch x = Trials.watching("rule 4 4 1;");
        Trials.tell(x, "");
        Trials.stepsAre(x, row(0, 0, 0, 0, 0));
    }

    private static void ofAllRules() {
        Trials.stepsAre(Trials.watching("rule 1 1 1;rule 1 1 2;rule 2 2 4;"), row(ALARM, ALARM, 1, 0, 0),
            row(ALARM, ALARM, ALARM, 0, 0));
        RunWatch x = Trials.watching("rule 2 2 1;");
        Trials.due("count(2)", x.count(2), 2);
        Trials.tell(x, "rule 2 2 1;rule 2 2 2;");
        Trials.due("count(2), one rule more", x.count(2), 3);
        x.undo();
        Trials.due("count(2), undone", x.count(2), 2);
    }

    private static void behindAllRows() {
        RunWatch x = Trials.watching("rule 3 3 1;", 0, 1, 0, 0);
        Trials.rowsAre(x, 3, 1, 0, 1, 2);
        Trials.due("count(3)", x.count(3), 2);
        x.goes(3);
        Trials.due("count(3)", x.count(3), 1);
    }

    private static void behindAnAlarm() {
        RunWatch x = Trials.watching("rule 2 2 1;", 0, 0);
        Trials.due("count(3)", x.count(3), 0);
        Trials.rowsAre(x, 3, 1, 0);
        Trials.soonestIs(x, 0, 0);
        x.comes(50, 0);
        Trials.due("count(3), one behind it", x.count(3), 1);
    }

    private static void fewestSigns() {
        String text = "rule 4 4 16;rule 3 3 8;";
        Trials.soonestIs(Trials.watching(text), 3, 3, 3);
        Trials.soonestIs(Trials.watching(text, 4), 3, 3, 3);
        Trials.soonestIs(Trials.watching(text, 4, 4), 4, 4);
        Trials.soonestIs(Trials.watching(text, 4, 4, 4), 4);
        Trials.soonestIs(Trials.watching(text, 4, 4, 4, 4), 3, 3, 3);
        Trials.soonestIs(Trials.watching("rule 4 4 16;"), 4, 4, 4, 4);
        Trials.soonestIs(Trials.watching("rule 1 1 16;"), 4);
        Trials.due("soonest(HIGH)", Trials.watching("rule 4 4 16;").soonest(Trials.HIGH), NONE);
        // Room for others between them.
        Trials.soonestIs(Trials.watching("rule 2 4 16;", 4, 0, 0), 4);
        Trials.soonestIs(Trials.watching("rule 2 4 16;", 4, 0, 0, 0), 4, 4);
    }

    private static void whateverChances() {
        Trials.soonestIs(Trials.watching("rule 2 2 16;chance 10 0 0 0 0;"), 4, 4);
        Trials.soonestIs(Trials.watching("rule 1 1 16;rule 1 1 2;chance 0 0 0 0 10;"), 1);
    }

    private static void firstOfSeveral() {
        Trials.soonestIs(Trials.watching("rule 2 2 31;"), 0, 0);
        Trials.soonestIs(Trials.watching("rule 3 3 26;"), 1, 1, 1);
        Trials.soonestIs(Trials.watching("rule 2 2 16;rule 2 2 4;"), 2, 2);
        // The first sign of several rows counts ahead of the second one.
        Trials.soonestIs(Trials.watching("rule 3 3 28;rule 3 4 19;", 4), 0, 0);
        Trials.soonestIs(Trials.watching("rule 3 3 12;rule 3 4 8;", 3), 2, 2);
        Trials.soonestIs(Trials.watching("rule 2 2 24;rule 1 1 8;", 4), 3);
    }

    private static void boundsOfOdds() {
        RunWatch x = Trials.watching("rule 1 1 1;");
        Trials.oddsAre(x, 0, 0, 1);
        Trials.oddsAre(x, 8, 56953279, 100000000);
        Trials.due("odds(-1, 0)", x.odds(-1, 0), Trials.BAD);
        Trials.due("odds(9, 0)", x.odds(9, 0), Trials.BAD);
        Trials.oddsAre(Trials.watching("rule 1 1 31;"), 0, 0, 1);
        Trials.oddsAre(Trials.watching("rule 1 1 31;"), 8, 1, 1);
        Trials.oddsAre(Trials.watching("rule 1 1 30;"), 8, 99999999, 100000000);
        Trials.oddsAre(Trials.watching(""), 8, 0, 1);
    }

    private static void oddsFromNow() {
        String text = "rule 2 2 16;chance 0 0 0 5 5;";
        Trials.oddsAre(Trials.watching(text), 1, 0, 1);
        Trials.oddsAre(Trials.watching(text), 2, 1, 4);
        Trials.oddsAre(Trials.watching(text), 3, 3, 8);
        Trials.oddsAre(Trials.watching(text, 4), 1, 1, 2);
        Trials.oddsAre(Trials.watching(text, 4), 2, 1, 2);
        Trials.oddsAre(Trials.watching(text, 4), 3, 5, 8);
        Trials.oddsAre(Trials.watching(text, 4, 4), 1, 0, 1);
        Trials.oddsAre(Trials.watching(text, 4, 3), 2, 1, 4);
    }

    private static void eachByItsChance() {
        Trials.oddsAre(Trials.watching("rule 1 1 16;chance 1 2 3 4 0;"), 1, 0, 1);
        Trials.oddsAre(Trials.watching("rule 1 1 8;chance 1 2 3 4 0;"), 1, 2, 5);
        Trials.oddsAre(Trials.watching("rule 1 1 4;chance 1 2 3 4 0;"), 1, 3, 10);
        Trials.oddsAre(Trials.watching("rule 1 1 3;chance 1 2 3 4 0;"), 2, 51, 100);
        Trials.oddsAre(Trials.watching("rule 1 1 31;chance 1 2 3 4 0;"), 1, 1, 1);
        Trials.oddsAre(Trials.watching("rule 2 2 12;chance 1 2 3 4 0;"), 2, 49, 100);
    }

    private static void chanceZero() {
        Trials.oddsAre(Trials.watching("rule 1 1 16;chance 10 0 0 0 0;"), 8, 0, 1);
        Trials.oddsAre(Trials.watching("rule 1 1 17;chance 10 0 0 0 0;"), 1, 1, 1);
        Trials.oddsAre(Trials.watching("rule 4 4 1;chance 10 0 0 0 0;"), 3, 0, 1);
        Trials.oddsAre(Trials.watching("rule 4 4 1;chance 10 0 0 0 0;"), 4, 1, 1);
    }

    private static void leftOver() {
        Trials.due("mean(), 10", Trials.watching("rule 1 1 1;").mean(), 10);
        // 3 times it is 10; 7 times it is 10.
        Trials.due("mean(), 10/3", Trials.watching("rule 1 1 3;").mean(), 666672);
        Trials.due("mean(), 10/7", 7L * Trials.watching("rule 1 1 7;").mean() % PRIME, 10);
        // 4 of 4, each 1 of 10: 10 + 100 + 1000 + 10000.
        Trials.due("mean(), 11110", Trials.watching("rule 4 4 1;").mean(), 11110);
        // The mean run is 1000003000/844862381 just: a number like others, not NONE.
        RunWatch x = Trials.watching("rule 3 4 7;rule 3 3 10;rule 1 1 5;chance 3 1 2 3 1;", 3, 1);
        Trials.due("mean(), P and more", x.mean(), 0);
        x.undo();
        x.undo();
        Trials.due("mean(), 1561276190/844862381", 844862381L * x.mean() % PRIME, 1561276190 % PRIME);
    }

    private static void equations() {
        equationsHold(Trials.watching("rule 3 4 24;rule 2 3 3;chance 1 2 4 2 1;"));
        equationsHold(Trials.watching("rule 4 4 30;rule 4 4 15;rule 1 1 4;chance 3 0 3 1 3;"));
        equationsHold(Trials.watching("rule 2 2 1;rule 3 3 6;rule 4 4 24;chance 0 5 1 1 3;"));
    }

    /** Each state is come to by rows of signs, so that its own number can be asked. */
    private static void equationsHold(RunWatch x) {
        int states = x.count(2);
        long[] numbers = new long[states];
        boolean[] asked = new boolean[states];
        gather(x, 0, numbers, asked);
        for (int state = 0; state < states; state++) {
            long together = 10;
            for (int sign = 0; sign < 5; sign++) {
                int to = x.step(state, sign);
                together += to == ALARM ? 0 : x.chance(sign) * numbers[to];
            }
            Trials.due("10 times the number of state " + state, 10 * numbers[state] % PRIME, together % PRIME);
        }
    }

    private static void gather(RunWatch x, int time, long[] numbers, boolean[] asked) {
        int state = x.count(3);
        if (asked[state]) {
            return;
        }
        asked[state] = true;
        numbers[state] = x.mean();
        for (int sign = 0; sign < 5; sign++) {
            if (x.step(state, sign) != ALARM) {
                x.comes(time, sign);
                gather(x, time + 1, numbers, asked);
                x.goes(time);
            }
        }
    }

    private static void zeroForAnAlarm() {
        Trials.due("mean(), at once", Trials.watching("rule 1 1 31;").mean(), 1);
        Trials.due("mean(), 2 of 2 at once", Trials.watching("rule 2 2 31;").mean(), 2);
        Trials.due("mean(), the second", Trials.watching("rule 2 2 31;", 1).mean(), 1);
    }

    private static void meanNow() {
        String text = "rule 2 2 16;chance 0 0 0 5 5;";
        Trials.due("mean()", Trials.watching(text).mean(), 6);
        Trials.due("mean(), behind 4", Trials.watching(text, 4).mean(), 4);
        Trials.due("mean(), behind an alarm", Trials.watching(text, 4, 4).mean(), 6);
        Trials.due("mean(), behind 3", Trials.watching(text, 4, 3).mean(), 6);
    }

    private static void noMean() {
        Trials.due("mean(), no rules", new RunWatch().mean(), NONE);
        Trials.due("mean(), no alarm by its chances", Trials.watching("rule 1 1 16;chance 10 0 0 0 0;").mean(), NONE);
        Trials.due("mean(), from no state", Trials.watching("rule 2 2 16;chance 10 0 0 0 0;", 4).mean(), NONE);
        Trials.due("mean(), by one of 10", Trials.watching("rule 1 1 16;chance 9 0 0 0 1;").mean(), 10);
        // Signs of chance 0 lead to states that have numbers like others.
        Trials.due("mean(), one number each", Trials.watching("rule 1 1 1;rule 2 2 2;chance 10 0 0 0 0;").mean(), 1);
    }

    private static void allSingles() {
        RunWatch x = new RunWatch();
        Trials.due("same(0)", x.same(0), 310);
        Trials.due("same(1)", x.same(1), 1101);
        // Alarms at the fourth of each sign: nothing but the last one of all of them gives these.
        RunWatch y = Trials.watching("rule 4 4 31;", 0, 0, 0, 0, 1, 1, 1, 1, 2, 2, 2, 2, 3, 3, 3, 3, 4, 4, 4, 4);
        Trials.due("same(0)", y.same(0), 1);
        Trials.due("same(1)", y.same(1), 4431);
    }

    private static void justTheSame() {
        RunWatch x = Trials.watching("rule 1 1 16;", 4, 0);
        // 1 of N, the set with 4, without 0: 4 of N, 8 sets.
        Trials.due("same(0)", x.same(0), 32);
        Trials.due("same(1)", x.same(1), 1116);
        // Without an alarm at 4: in 1 of N neither of them may be in, in 2 of N not both.
        Trials.tell(x, "");
        Trials.due("same(0), no alarms", x.same(0), 4 * 7 + 3 * 23 + 3 * 31);
        Trials.due("same(1), no alarms", x.same(1), 1102);
        // Rules that are met there are no matter, alarms are.
        Trials.tell(x, "rule 1 1 16;rule 1 2 16;rule 1 4 17;");
        Trials.due("same(1), both rows", x.same(1), 1117);
        // Other rows, other singles.
        x.comes(50, 3);
        Trials.due("same(0), not 3", x.same(0), 4 * 4);
        x.undo();
        Trials.due("same(0), undone", x.same(0), 4 * 8);
    }

    private static void firstSingle() {
        // 2 of 4 would do too, but N comes ahead of M.
        Trials.due("same(1)", Trials.watching("rule 3 3 6;", 4, 1, 1, 2, 2).same(1), 3306);
        // 3 of 4 in a lesser set would do too, but M comes ahead of SET.
        Trials.due("same(1)", Trials.watching("rule 3 4 3;", 0, 2, 1, 0, 1, 1, 4, 0).same(1), 4217);
        // 2 of 4 in a lesser set would do too, but N comes ahead of SET.
        Trials.due("same(1)", Trials.watching("rule 2 4 9;", 2, 3, 0, 0).same(1), 2209);
        Trials.due("same(1)", Trials.watching("rule 1 4 31;", 0, 1, 2, 3, 4).same(1), 1131);
    }

    private static void noSingle() {
        // A lone 4, but of 3 two.
        RunWatch x = Trials.watching("rule 1 1 16;rule 2 2 8;", 4, 3, 3, 4, 0, 0, 3, 0, 3, 0, 0);
        Trials.alarmsAre(x, 0, 2, 3);
        Trials.due("same(0)", x.same(0), 0);
        Trials.due("same(1)", x.same(1), NONE);
    }

    private static void twoImages() {
        RunWatch x = Trials.watching("", 1);
        Trials.due("keep(-1)", x.keep(-1), Trials.BAD);
        Trials.due("keep(2)", x.keep(2), Trials.BAD);
        Trials.due("back(-1)", x.back(-1), Trials.BAD);
        Trials.due("back(2)", x.back(2), Trials.BAD);
        Trials.due("keep(0)", x.keep(0), 1);
        Trials.due("back(1), the other one", x.back(1), Trials.STATE);
        x.comes(50, 2);
        Trials.due("keep(1)", x.keep(1), 2);
        Trials.due("back(0)", x.back(0), 1);
        Trials.rowsAre(x, 1, 1);
        Trials.due("back(1)", x.back(1), 2);
        Trials.rowsAre(x, 1, 1, 2);
    }

    private static void whatImagesKeep() {
        String text = "rule 2 2 16;rule 1 3 1;chance 0 1 2 3 4;sums 0 3;";
        RunWatch x = Trials.watching(text, 4, 4, 3);
        x.keep(1);
        Trials.tell(x, "rule 4 4 4;chance 4 3 2 1 0;sums 2 9;");
        x.becomes(0, 0);
        x.goes(1);
        x.comes(77, 4);
        Trials.due("back(1)", x.back(1), 3);
        Trials.due("count(0)", x.count(0), 2);
        Trials.ruleIs(x, 0, 2, 2, 16);
        Trials.ruleIs(x, 1, 1, 3, 1);
        Trials.chancesAre(x, 0, 1, 2, 3, 4);
        Trials.due("count(4)", x.count(4), 0);
        Trials.due("count(5)", x.count(5), 3);
        Trials.rowsAre(x, 0, 0, 1, 2);
        Trials.rowsAre(x, 1, 4, 4, 3);
        Trials.alarmsAre(x, 1);
        Trials.signalsAre(x, 1);
        // What is done behind back() does not come into the image.
        x.becomes(0, 1);
        x.back(1);
        Trials.rowsAre(x, 1, 4, 4, 3);
    }

    private static void nothingElse() {
        RunWatch x = Trials.watching("", 1);
        Trials.typeIn(x, "rule");
        x.keep(0);
        Trials.due("count(9), keep is nothing done", x.count(9), 2);
        Trials.due("count(8), behind keep", x.count(8), 4);
        Trials.typeIn(x, " 1 1 1;");
        Trials.due("back(0)", x.back(0), 1);
        Trials.due("count(8), behind back", x.count(8), 11);
        Trials.due("tells(), of the text as it was typed", x.tells(), 1);
        x.keep(1);
        x.back(0);
        Trials.due("back(1), the other image is still there", x.back(1), 1);
        Trials.due("count(0)", x.count(0), 1);
    }

    private static void nothingUndone() {
        RunWatch x = Trials.watching("rule 1 1 1;", 0, 1, 2);
        x.keep(0);
        Trials.due("count(9)", x.count(9), 4);
        x.back(0);
        Trials.due("count(9)", x.count(9), 0);
        Trials.due("undo()", x.undo(), Trials.STATE);
        x.comes(50, 3);
        Trials.due("undo(), of what came later", x.undo(), 0);
        Trials.due("undo(), no further", x.undo(), Trials.STATE);
        Trials.rowsAre(x, 1, 0, 1, 2);
    }

    private static void rowsAndImagesStay() {
        RunWatch x = Trials.watching("rule 1 1 1;", 0, 4);
        x.keep(0);
        x.goes(0);
        x.keep(1);
        Trials.tell(x, "rule 1 1 16;");
        Trials.rowsAre(x, 1, 4);
        Trials.due("back(0)", x.back(0), 2);
        Trials.rowsAre(x, 1, 0, 4);
        Trials.ruleIs(x, 0, 1, 1, 1);
        Trials.due("back(1)", x.back(1), 1);
        Trials.ruleIs(x, 0, 1, 1, 1);
    }

    private static int[] row(int... steps) {
        return steps;
    }
}
