import java.util.ArrayList;
import java.util.List;
import java.util.Random;

/** Runs of calls by chance (the same ones each time) on RunWatch and on PlainWatch: all answers must agree. */
public final class ModelTest {
    private static final int MOST_CALLS = 512;
    private final Random random;
    private final int run;
    private final RunWatch watch = new RunWatch();
    private final PlainWatch plain = new PlainWatch();
    private final List<String> calls = new ArrayList<>();
    private boolean wrong = false;

    private ModelTest(int run) {
        this.run = run;
        this.random = new Random(run);
    }

    public static void main(String[] args) {
        int runs = args.length > 0 ? Integer.parseInt(args[0]) : 600;
        int wrong = 0;
        for (int run = 1; run <= runs && wrong < 5; run++) {
            wrong += new ModelTest(run).goes() ? 0 : 1;
        }
        System.out.println(wrong == 0 ? runs + " runs agree with the plain model" : "runs disagree");
        if (wrong != 0) {
            System.exit(1);
        }
    }

    private boolean goes() {
        // Every third run has many rows, so that all 40 places come to be taken.
        int telling = run % 3 == 0 ? 2 : 4;
        int changing = run % 3 == 0 ? 80 : 40;
        while (calls.size() < MOST_CALLS && !wrong) {
            int pick = random.nextInt(100);
            if (pick < telling) {
                tellText();
            } else if (pick < changing) {
                change();
            } else {
                ask();
            }
        }
        return !wrong;
    }

    private void tellText() {
        String text = random.nextInt(4) == 0 ? brokenText() : soundText();
        for (int i = 0; i < text.length(); i++) {
            int letter = text.charAt(i);
            due("type(" + letter + ")", watch.type(letter), plain.type(letter));
        }
        due("tells()", watch.tells(), plain.tells());
        if (random.nextInt(3) > 0) {
            due("clear()", watch.clear(), plain.clear());
        }
    }

    private String soundText() {
        List<String> items = new ArrayList<>();
        int used = 0;
        int rules = random.nextInt(8) == 0 ? 0 : 1 + random.nextInt(3);
        for (int r = 0; r < rules; r++) {
            int n = 1 + random.nextInt(Math.min(4, 7 - used));
            used += n - 1;
            items.add("rule " + (n - random.nextInt(n)) + " " + n + " " + (1 + random.nextInt(31)) + ";");
        }
        if (random.nextInt(2) == 0) {
            items.add(random.nextInt(items.size() + 1), chances());
        }
        if (random.nextInt(2) == 0) {
            items.add("sums " + random.nextInt(3) + " " + (1 + random.nextInt(9)) + ";");
        }
        String between = random.nextInt(3) == 0 ? "  " : "";
        return between + String.join(between, items) + between;
    }

    private String chances() {
        int[] chance = new int[5];
        int kinds = 1 + random.nextInt(5);
        for (int i = 0; i < 10; i++) {
            chance[random.nextInt(kinds) * 7 % 5]++;
        }
        StringBuilder item = new StringBuilder("chance");
        for (int each : chance) {
            item.append(' ').append(each);
        }
        return item.append(';').toString();
    }

    /** A sound text with a few letters changed, put in or taken out. */
    private String brokenText() {
        StringBuilder text = new StringBuilder(soundText());
        for (int i = random.nextInt(3); i >= 0 && text.length() > 0; i--) {
            int at = random.nextInt(text.length());
            char letter = " ;0123456789rulechansmxR\u00ff\t".charAt(random.nextInt(26));
            switch (random.nextInt(4)) {
                case 0 -> text.setCharAt(at, letter);
                case 1 -> text.insert(at, letter);
                case 2 -> text.deleteCharAt(at);
                default -> text.setLength(at);
            }
        }
        return text.toString();
    }

    private void change() {
        int i = near(plain.count(1));
        switch (random.nextInt(16)) {
            case 0, 1, 2, 3, 4, 5, 6, 7 -> {
                int time = random.nextInt(20) == 0 ? near(100) : random.nextInt(100);
                int sign = near(5);
                due("comes(" + time + ", " + sign + ")", watch.comes(time, sign), plain.comes(time, sign));
            }
            case 8 -> due("goes(" + i + ")", watch.goes(i), plain.goes(i));
            case 9, 10 -> {
                int sign = near(5);
                due("becomes(" + i + ", " + sign + ")", watch.becomes(i, sign), plain.becomes(i, sign));
            }
            case 11, 12 -> due("undo()", watch.undo(), plain.undo());
            case 13 -> {
                int image = near(2);
                due("keep(" + image + ")", watch.keep(image), plain.keep(image));
            }
            case 14 -> {
                int image = near(2);
                due("back(" + image + ")", watch.back(image), plain.back(image));
            }
            default -> due("clear()", watch.clear(), plain.clear());
        }
    }

    private void ask() {
        int a = near(8);
        switch (random.nextInt(12)) {
            case 0 -> two("rule", near(3), near(3));
            case 1 -> due("chance(" + a + ")", watch.chance(a), plain.chance(a));
            case 2, 3 -> two("row", near(plain.count(1)), near(7));
            case 4 -> due("alarm(" + (a - 1) + ")", watch.alarm(a - 1), plain.alarm(a - 1));
            case 5 -> due("signal(" + (a - 1) + ")", watch.signal(a - 1), plain.signal(a - 1));
            case 6 -> two("step", near(plain.count(2)), near(5));
            case 7 -> due("soonest(" + (a - 2) + ")", watch.soonest(a - 2), plain.soonest(a - 2));
            case 8 -> two("odds", near(9), near(2));
            case 9 -> due("mean()", watch.mean(), plain.mean());
            case 10 -> {
                int what = near(2);
                due("same(" + what + ")", watch.same(what), plain.same(what));
            }
            default -> {
                int what = near(10);
                due("count(" + what + ")", watch.count(what), plain.count(what));
            }
        }
    }

    private void two(String name, int a, int b) {
        String call = name + "(" + a + ", " + b + ")";
        switch (name) {
            case "rule" -> due(call, watch.rule(a, b), plain.rule(a, b));
            case "row" -> due(call, watch.row(a, b), plain.row(a, b));
            case "step" -> due(call, watch.step(a, b), plain.step(a, b));
            default -> due(call, watch.odds(a, b), plain.odds(a, b));
        }
    }

    /** Mostly below the bound, now and then just or far outside. */
    private int near(int bound) {
        int pick = random.nextInt(60);
        if (pick == 0) {
            return -1;
        }
        if (pick == 1) {
            return bound;
        }
        if (pick == 2) {
            return random.nextInt();
        }
        return random.nextInt(Math.max(1, bound));
    }

    private void due(String call, int got, int want) {
        calls.add(call);
        if (got != want && !wrong) {
            wrong = true;
            System.out.println("run " + run + ", behind " + String.join(" ", calls));
            System.out.println("run " + run + ": " + call + " answered " + got + ", due is " + want);
        }
    }
}
