import java.util.ArrayList;
import java.util.List;
import java.util.function.Supplier;
import java.util.function.ToIntFunction;

/** All that can be asked of an object. It is made anew for each few questions: 512 calls are promised, no more. */
final class Picture {
    private static final int QUESTIONS_EACH = 100;

    private record Question(String call, ToIntFunction<RunWatch> ask) { }

    private Picture() { }

    /** The answers to all questions that change nothing. */
    static List<String> of(Supplier<RunWatch> maker) {
        List<Question> questions = questions(maker.get());
        List<String> answers = new ArrayList<>();
        RunWatch x = null;
        for (int i = 0; i < questions.size(); i++) {
            if (i % QUESTIONS_EACH == 0) {
                x = maker.get();
            }
            Question each = questions.get(i);
            answers.add(each.call + " = " + each.ask.applyAsInt(x));
        }
        return answers;
    }

    /** These, and the same behind all that can be undone, behind both images, and behind the text as it stands. */
    static List<String> whole(Supplier<RunWatch> maker) {
        List<String> answers = new ArrayList<>(of(maker));
        int done = maker.get().count(9);
        for (int undone = 1; undone <= done; undone++) {
            int times = undone;
            answers.addAll(behind(maker, "undo() x " + times, x -> {
                int answer = 0;
                for (int i = 0; i < times; i++) {
                    answer = x.undo();
                }
                return answer;
            }));
        }
        answers.addAll(behind(maker, "back(0)", x -> x.back(0)));
        answers.addAll(behind(maker, "back(1)", x -> x.back(1)));
        answers.addAll(behind(maker, "tells()", RunWatch::tells));
        return answers;
    }

    /** What the first has otherwise than the second; empty if they are alike. */
    static String difference(List<String> first, List<String> second) {
        if (first.size() != second.size()) {
            return first.size() + " answers, not " + second.size();
        }
        for (int i = 0; i < first.size(); i++) {
            if (!first.get(i).equals(second.get(i))) {
                return first.get(i) + ", not " + second.get(i);
            }
        }
        return "";
    }

    /** How many times askPart has to be called, with 0 and on, till all has been asked. */
    static int parts(Supplier<RunWatch> maker) {
        return (questions(maker.get()).size() + QUESTIONS_EACH - 1) / QUESTIONS_EACH;
    }

    static void askPart(RunWatch x, int part) {
        List<Question> questions = questions(x);
        int from = part * QUESTIONS_EACH;
        for (Question each : questions.subList(from, Math.min(from + QUESTIONS_EACH, questions.size()))) {
            each.ask.applyAsInt(x);
        }
    }

    private static List<String> behind(Supplier<RunWatch> maker, String call, ToIntFunction<RunWatch> change) {
        List<String> answers = new ArrayList<>();
        answers.add(call + " = " + change.applyAsInt(maker.get()));
        for (String answer : of(() -> {
            RunWatch x = maker.get();
            change.applyAsInt(x);
            return x;
        })) {
            answers.add(call + ", then " + answer);
        }
        return answers;
    }

    private static List<Question> questions(RunWatch x) {
        List<Question> all = new ArrayList<>();
        each(all, "count", 0, 9, RunWatch::count);
        each(all, "chance", 0, 4, RunWatch::chance);
        each(all, "alarm", -1, x.alarm(-1), RunWatch::alarm);
        each(all, "signal", -1, x.signal(-1), RunWatch::signal);
        each(all, "soonest", -1, 4, RunWatch::soonest);
        each(all, "same", 0, 1, RunWatch::same);
        all.add(new Question("mean()", RunWatch::mean));
        for (int a = 0; a < 3; a++) {
            grid(all, "rule", a, 2, RunWatch::rule);
        }
        for (int a = 0; a < x.count(1); a++) {
            grid(all, "row", a, 6, RunWatch::row);
        }
        for (int a = 0; a < x.count(2); a++) {
            grid(all, "step", a, 4, RunWatch::step);
        }
        for (int a = 0; a <= 8; a++) {
            grid(all, "odds", a, 1, RunWatch::odds);
        }
        return all;
    }

    private interface One {
        int ask(RunWatch x, int a);
    }

    private interface Two {
        int ask(RunWatch x, int a, int b);
    }

    private static void each(List<Question> all, String name, int from, int to, One call) {
        for (int i = from; i <= to; i++) {
            int a = i;
            all.add(new Question(name + "(" + a + ")", x -> call.ask(x, a)));
        }
    }

    private static void grid(List<Question> all, String name, int a, int last, Two call) {
        for (int i = 0; i <= last; i++) {
            int b = i;
            all.add(new Question(name + "(" + a + ", " + b + ")", x -> call.ask(x, a, b)));
        }
    }
}
