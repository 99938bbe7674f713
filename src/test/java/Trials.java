import java.util.function.Supplier;

/** Trials of single sentences: each bears the document's own words, so that a broken one is told by them. */
final class Trials {
    static final int BAD = -1, STATE = -2, FULL = -3, ALARM = -5, NONE = -9;
    static final int LOW = Integer.MIN_VALUE, HIGH = Integer.MAX_VALUE;
    private static int trials = 0;
    private static int broken = 0;
    private static int wrong = 0;

    private Trials() { }

    static void holds(String sentence, Runnable trial) {
        int before = wrong;
        trials++;
        try {
            trial.run();
        } catch (RuntimeException thrown) {
            wrong++;
            System.out.println("a call threw " + thrown + " at " + thrown.getStackTrace()[0]);
        }
        if (wrong != before) {
            broken++;
            System.out.println("does not hold: \"" + sentence + "\"");
        }
    }

    static void due(String call, long got, long want) {
        if (got != want) {
            wrong++;
            System.out.println(call + " answered " + got + ", due is " + want);
        }
    }

    static void due(String what, Object got, Object want) {
        if (!got.equals(want)) {
            wrong++;
            System.out.println(what + ": " + got + ", due is " + want);
        }
    }

    static void end() {
        System.out.println(broken == 0 ? trials + " sentences hold" : broken + " of " + trials + " sentences do not hold");
        if (broken != 0) {
            System.exit(1);
        }
    }

    static void typeIn(RunWatch x, String text) {
        for (int i = 0; i < text.length(); i++) {
            x.type(text.charAt(i));
        }
    }

    static int tell(RunWatch x, String text) {
        typeIn(x, text);
        return x.tells();
    }

    /** A new object, told a sound text, with rows of these signs at the times 0, 1, .. */
    static RunWatch watching(String text, int... signs) {
        RunWatch x = new RunWatch();
        if (tell(x, text) < 0) {
            due("tells() of '" + text + "', which is sound", 0, 1);
        }
        for (int i = 0; i < signs.length; i++) {
            x.comes(i, signs[i]);
        }
        return x;
    }

    static Supplier<RunWatch> maker(String text, int... signs) {
        return () -> watching(text, signs);
    }

    static void sound(String text, int items) {
        due("tells() of '" + text + "'", tell(new RunWatch(), text), items);
    }

    /** The text has one ^, which is left out: the fault is what stands behind it, or the text's end. */
    static void fault(String marked) {
        int place = marked.indexOf('^');
        faultAt(marked.substring(0, place) + marked.substring(place + 1), place);
    }

    static void faultAt(String text, int place) {
        due("tells() of '" + text + "'", tell(new RunWatch(), text), -10 - place);
    }

    static void chancesAre(RunWatch x, int... chances) {
        for (int sign = 0; sign < 5; sign++) {
            due("chance(" + sign + ")", x.chance(sign), chances[sign]);
        }
    }

    static void ruleIs(RunWatch x, int r, int m, int n, int set) {
        due("rule(" + r + ", 0)", x.rule(r, 0), m);
        due("rule(" + r + ", 1)", x.rule(r, 1), n);
        due("rule(" + r + ", 2)", x.rule(r, 2), set);
    }

    /** What row(i, what) answers of all rows, the first one first. */
    static void rowsAre(RunWatch x, int what, int... answers) {
        due("count(1)", x.count(1), answers.length);
        for (int i = 0; i < answers.length; i++) {
            due("row(" + i + ", " + what + ")", x.row(i, what), answers[i]);
        }
        due("row(" + answers.length + ", " + what + ")", x.row(answers.length, what), BAD);
    }

    static void alarmsAre(RunWatch x, int... times) {
        due("alarm(-1)", x.alarm(-1), times.length);
        for (int k = 0; k < times.length; k++) {
            due("alarm(" + k + ")", x.alarm(k), times[k]);
        }
        due("alarm(" + times.length + ")", x.alarm(times.length), NONE);
    }

    static void signalsAre(RunWatch x, int... times) {
        due("signal(-1)", x.signal(-1), times.length);
        for (int k = 0; k < times.length; k++) {
            due("signal(" + k + ")", x.signal(k), times[k]);
        }
        due("signal(" + times.length + ")", x.signal(times.length), NONE);
    }

    static void stepsAre(RunWatch x, int[]... steps) {
        due("count(2)", x.count(2), steps.length);
        for (int state = 0; state < steps.length; state++) {
            for (int sign = 0; sign < 5; sign++) {
                due("step(" + state + ", " + sign + ")", x.step(state, sign), steps[state][sign]);
            }
        }
        due("step(" + steps.length + ", 0)", x.step(steps.length, 0), BAD);
    }

    static void soonestIs(RunWatch x, int... signs) {
        due("soonest(-1)", x.soonest(-1), signs.length == 0 ? NONE : signs.length);
        for (int k = 0; k < signs.length; k++) {
            due("soonest(" + k + ")", x.soonest(k), signs[k]);
        }
        due("soonest(" + signs.length + ")", x.soonest(signs.length), NONE);
    }

    static void oddsAre(RunWatch x, int n, int upper, int lower) {
        due("odds(" + n + ", 0)", x.odds(n, 0), upper);
        due("odds(" + n + ", 1)", x.odds(n, 1), lower);
    }
}
