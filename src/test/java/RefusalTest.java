import java.util.List;
import java.util.function.Supplier;
import java.util.function.ToIntFunction;

/** What is refused, in which order, and that nothing changes by it nor by what is only asked. */
public final class RefusalTest {
    private static final int BAD = Trials.BAD, STATE = Trials.STATE, FULL = Trials.FULL, NONE = Trials.NONE;

    private record Refused(String call, int answer, ToIntFunction<RunWatch> ask) { }

    private RefusalTest() { }

    public static void main(String[] args) {
        Trials.holds("the first of these that is so: BAD (a number is not as told, or there is no such thing)", RefusalTest::badFirst);
        Trials.holds("STATE (as told)", RefusalTest::stateAheadOfFull);
        Trials.holds("FULL", RefusalTest::fullLast);
        Trials.holds("Refused, and nothing changes (a new object)", () -> nothingChanges(RunWatch::new, ofNew()));
        Trials.holds("Refused, and nothing changes (some rows)", () -> nothingChanges(RefusalTest::some, ofSome()));
        Trials.holds("Refused, and nothing changes (all full)", () -> nothingChanges(RefusalTest::full, ofFull()));
        Trials.holds("-10 less FAULT: nothing changes, THE TEXT stays", RefusalTest::faultsChangeNothing);
        Trials.holds("(Nothing is changed.)", RefusalTest::askingChangesNothing);
        Trials.end();
    }

    private static void badFirst() {
        RunWatch x = full();
        Trials.due("type(256), full", x.type(256), BAD);
        Trials.due("type(-1), full", x.type(-1), BAD);
        Trials.due("comes(0, 5), at a time that is taken, full", x.comes(0, 5), BAD);
        Trials.due("comes(100, 0), full", x.comes(100, 0), BAD);
        Trials.due("becomes(40, 0)", x.becomes(40, 0), BAD);
        Trials.due("becomes(0, 5)", x.becomes(0, 5), BAD);
        Trials.due("back(2), none was kept", x.back(2), BAD);
        Trials.due("alarm(-2)", x.alarm(-2), BAD);
        Trials.due("soonest(-2), none at all", new RunWatch().soonest(-2), BAD);
    }

    private static void stateAheadOfFull() {
        RunWatch x = full();
        Trials.due("comes(0, 0), taken, full", x.comes(0, 0), STATE);
        Trials.due("comes(0, 4), taken, full", x.comes(0, 4), STATE);
        Trials.due("becomes(0, as it is)", x.becomes(0, x.row(0, 1)), STATE);
        Trials.due("back(1)", x.back(1), STATE);
        Trials.due("undo()", new RunWatch().undo(), STATE);
    }

    private static void fullLast() {
        RunWatch x = full();
        Trials.due("comes(99, 0)", x.comes(99, 0), FULL);
        Trials.due("type(32)", x.type(' '), FULL);
    }

    /** Rows, rules, both images, a text that has begun, three done. */
    private static RunWatch some() {
        RunWatch x = Trials.watching("rule 3 4 1;chance 0 1 2 3 4;sums 2 1;", 4, 0, 0, 0, 1);
        x.keep(0);
        Trials.tell(x, "rule 2 3 24;rule 2 2 3;sums 0 3;");
        x.keep(1);
        x.back(0);
        x.comes(50, 4);
        x.becomes(0, 3);
        x.goes(1);
        Trials.typeIn(x, "rule 1 1 1;sums 0 ");
        return x;
    }

    /** 40 rows, 120 letters, six done, one image. */
    private static RunWatch full() {
        RunWatch x = Trials.watching("rule 3 4 1;rule 3 4 16;chance 3 1 2 1 3;sums 0 3;");
        for (int i = 0; i < 40; i++) {
            x.comes(2 * i, i * i % 5);
            if (i == 30) {
                x.keep(0);
            }
        }
        Trials.typeIn(x, "rule 2 2 17;" + " ".repeat(108));
        return x;
    }

    private static List<Refused> ofNew() {
        return List.of(
            new Refused("type(-1)", BAD, x -> x.type(-1)),
            new Refused("type(256)", BAD, x -> x.type(256)),
            new Refused("comes(-1, 0)", BAD, x -> x.comes(-1, 0)),
            new Refused("comes(100, 0)", BAD, x -> x.comes(100, 0)),
            new Refused("comes(0, -1)", BAD, x -> x.comes(0, -1)),
            new Refused("comes(0, 5)", BAD, x -> x.comes(0, 5)),
            new Refused("goes(0)", BAD, x -> x.goes(0)),
            new Refused("becomes(0, 0)", BAD, x -> x.becomes(0, 0)),
            new Refused("undo()", STATE, RunWatch::undo),
            new Refused("rule(0, 0)", BAD, x -> x.rule(0, 0)),
            new Refused("row(0, 0)", BAD, x -> x.row(0, 0)),
            new Refused("step(1, 0)", BAD, x -> x.step(1, 0)),
            new Refused("keep(2)", BAD, x -> x.keep(2)),
            new Refused("back(0)", STATE, x -> x.back(0)),
            new Refused("back(1)", STATE, x -> x.back(1)));
    }

    private static List<Refused> ofSome() {
        return List.of(
            new Refused("tells()", -28, RunWatch::tells),
            new Refused("type(HIGH)", BAD, x -> x.type(Trials.HIGH)),
            new Refused("comes(50, 4)", STATE, x -> x.comes(50, 4)),
            new Refused("comes(50, 0)", STATE, x -> x.comes(50, 0)),
            new Refused("comes(LOW, 0)", BAD, x -> x.comes(Trials.LOW, 0)),
            new Refused("goes(-1)", BAD, x -> x.goes(-1)),
            new Refused("goes(5)", BAD, x -> x.goes(5)),
            new Refused("becomes(-1, 0)", BAD, x -> x.becomes(-1, 0)),
            new Refused("becomes(5, 0)", BAD, x -> x.becomes(5, 0)),
            new Refused("becomes(0, -1)", BAD, x -> x.becomes(0, -1)),
            new Refused("becomes(0, 5)", BAD, x -> x.becomes(0, 5)),
            new Refused("becomes(0, 3)", STATE, x -> x.becomes(0, 3)),
            new Refused("keep(-1)", BAD, x -> x.keep(-1)),
            new Refused("keep(2)", BAD, x -> x.keep(2)),
            new Refused("back(-1)", BAD, x -> x.back(-1)),
            new Refused("back(2)", BAD, x -> x.back(2)));
    }

    private static List<Refused> ofFull() {
        return List.of(
            new Refused("type(32)", FULL, x -> x.type(' ')),
            new Refused("comes(99, 0)", FULL, x -> x.comes(99, 0)),
            new Refused("comes(1, 0)", FULL, x -> x.comes(1, 0)),
            new Refused("comes(0, 4)", STATE, x -> x.comes(0, 4)),
            new Refused("goes(40)", BAD, x -> x.goes(40)),
            new Refused("becomes(40, 0)", BAD, x -> x.becomes(40, 0)),
            new Refused("back(1)", STATE, x -> x.back(1)),
            new Refused("rule(2, 0)", BAD, x -> x.rule(2, 0)),
            new Refused("chance(5)", BAD, x -> x.chance(5)),
            new Refused("row(40, 0)", BAD, x -> x.row(40, 0)),
            new Refused("alarm(-2)", BAD, x -> x.alarm(-2)),
            new Refused("alarm(40)", NONE, x -> x.alarm(40)),
            new Refused("signal(-2)", BAD, x -> x.signal(-2)),
            new Refused("step(0, 5)", BAD, x -> x.step(0, 5)),
            new Refused("soonest(-2)", BAD, x -> x.soonest(-2)),
            new Refused("odds(9, 0)", BAD, x -> x.odds(9, 0)),
            new Refused("odds(8, 2)", BAD, x -> x.odds(8, 2)),
            new Refused("same(2)", BAD, x -> x.same(2)),
            new Refused("count(10)", BAD, x -> x.count(10)));
    }

    private static void nothingChanges(Supplier<RunWatch> maker, List<Refused> calls) {
        List<String> before = Picture.whole(maker);
        for (Refused each : calls) {
            Trials.due(each.call, each.ask.applyAsInt(maker.get()), each.answer);
            List<String> behind = Picture.whole(() -> {
                RunWatch x = maker.get();
                each.ask.applyAsInt(x);
                return x;
            });
            Trials.due("behind " + each.call, Picture.difference(behind, before), "");
        }
    }

    /** Each item of these texts would change something, if it were taken ahead of the fault. */
    private static void faultsChangeNothing() {
        String items = "rule 1 1 1;chance 10 0 0 0 0;sums 2 9;";
        for (String end : List.of("rule", "rule 0 1 1;", "rule 1 1 1 1;", "chance 1 2 4 2 1;", "sums 0 1;", "x", "#", ";")) {
            String text = items + end;
            Supplier<RunWatch> told = () -> {
                RunWatch x = Trials.watching("rule 2 2 17;rule 3 3 2;chance 0 1 2 3 4;sums 0 3;", 4, 0, 4);
                Trials.typeIn(x, text);
                return x;
            };
            int answer = told.get().tells();
            Trials.due("tells() of '" + text + "', refused", answer <= -10 ? 1 : 0, 1);
            List<String> behind = Picture.whole(() -> {
                RunWatch x = told.get();
                x.tells();
                return x;
            });
            Trials.due("behind '" + text + "'", Picture.difference(behind, Picture.whole(told)), "");
            RunWatch x = told.get();
            x.tells();
            Trials.due("tells(), again", x.tells(), answer);
            Trials.due("clear(), the text stays", x.clear(), text.length());
        }
    }

    private static void askingChangesNothing() {
        for (Supplier<RunWatch> maker : List.<Supplier<RunWatch>>of(RunWatch::new, RefusalTest::some, RefusalTest::full)) {
            List<String> before = Picture.whole(maker);
            for (int i = 0; i < Picture.parts(maker); i++) {
                int part = i;
                List<String> behind = Picture.whole(() -> {
                    RunWatch x = maker.get();
                    Picture.askPart(x, part);
                    return x;
                });
                Trials.due("behind questions", Picture.difference(behind, before), "");
            }
        }
    }
}
