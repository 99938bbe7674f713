import java.math.BigInteger;
import java.util.ArrayDeque;
import java.util.ArrayList;
import java.util.Arrays;
import java.util.HashMap;
import java.util.LinkedHashMap;
import java.util.List;
import java.util.Map;
import java.util.TreeMap;
import java.util.regex.Matcher;
import java.util.regex.Pattern;

/** The document's words done over in the slowest and plainest way, to compare RunWatch with. */
final class PlainWatch {
    private static final int BAD = -1, STATE = -2, FULL = -3, ALARM = -5, NONE = -9;
    private static final BigInteger P = BigInteger.valueOf(1000003);

    record Rule(int m, int n, int set) { }

    record Whole(List<Rule> rules, List<Integer> chances, int slack, int limit, TreeMap<Integer, Integer> rows) {
        Whole withRows(TreeMap<Integer, Integer> other) {
            return new Whole(rules, chances, slack, limit, other);
        }
    }

    private String text = "";
    private Whole now = new Whole(List.of(), List.of(1, 2, 4, 2, 1), 1, 4, new TreeMap<>());
    private final ArrayDeque<Whole> undone = new ArrayDeque<>();
    private final Whole[] images = new Whole[2];
    private Joined joined = new Joined(List.of());

    int type(int letter) {
        if (letter < 0 || letter > 255) {
            return BAD;
        }
        if (text.length() == 120) {
            return FULL;
        }
        text += (char) letter;
        return text.length();
    }

    int clear() {
        int had = text.length();
        text = "";
        return had;
    }

    int tells() {
        Telling telling = new Telling(text);
        if (telling.fault >= 0) {
            return -10 - telling.fault;
        }
        becomesWhole(new Whole(telling.rules, telling.chances, telling.slack, telling.limit, now.rows));
        text = "";
        return telling.items;
    }

    int comes(int time, int sign) {
        if (time < 0 || time > 99 || sign < 0 || sign > 4) {
            return BAD;
        }
        if (now.rows.containsKey(time)) {
            return STATE;
        }
        if (now.rows.size() == 40) {
            return FULL;
        }
        TreeMap<Integer, Integer> rows = new TreeMap<>(now.rows);
        rows.put(time, sign);
        becomesWhole(now.withRows(rows));
        return rows.headMap(time).size();
    }

    int goes(int i) {
        if (i < 0 || i >= now.rows.size()) {
            return BAD;
        }
        int time = times().get(i);
        TreeMap<Integer, Integer> rows = new TreeMap<>(now.rows);
        rows.remove(time);
        becomesWhole(now.withRows(rows));
        return time;
    }

    int becomes(int i, int sign) {
        if (i < 0 || i >= now.rows.size() || sign < 0 || sign > 4) {
            return BAD;
        }
        int time = times().get(i);
        int had = now.rows.get(time);
        if (had == sign) {
            return STATE;
        }
        TreeMap<Integer, Integer> rows = new TreeMap<>(now.rows);
        rows.put(time, sign);
        becomesWhole(now.withRows(rows));
        return had;
    }

    int undo() {
        if (undone.isEmpty()) {
            return STATE;
        }
        now = undone.pop();
        return undone.size();
    }

    int rule(int r, int what) {
        if (r < 0 || r >= now.rules.size() || what < 0 || what > 2) {
            return BAD;
        }
        Rule rule = now.rules.get(r);
        return what == 0 ? rule.m : what == 1 ? rule.n : rule.set;
    }

    int chance(int sign) {
        return sign < 0 || sign > 4 ? BAD : now.chances.get(sign);
    }

    int row(int i, int what) {
        if (i < 0 || i >= now.rows.size() || what < 0 || what > 6) {
            return BAD;
        }
        return switch (what) {
            case 0 -> times().get(i);
            case 1 -> signs().get(i);
            case 2 -> metAt(now.rules, i);
            case 3 -> joined().stateOf(sinceAlarm(now.rules, i));
            case 4 -> sums(i)[0];
            case 5 -> sums(i)[1];
            default -> sums(i)[2];
        };
    }

    int alarm(int k) {
        return kth(alarms(now.rules), k);
    }

    int signal(int k) {
        List<Integer> found = new ArrayList<>();
        for (int i = 0; i < now.rows.size(); i++) {
            if (sums(i)[2] == 1) {
                found.add(i);
            }
        }
        return kth(found, k);
    }

    int step(int state, int sign) {
        if (state < 0 || state >= joined().size() || sign < 0 || sign > 4) {
            return BAD;
        }
        return joined().step(state, sign);
    }

    int soonest(int k) {
        if (k < -1) {
            return BAD;
        }
        List<Integer> way = soonestRow();
        if (way == null || k >= way.size()) {
            return NONE;
        }
        return k == -1 ? way.size() : way.get(k);
    }

    int odds(int n, int what) {
        if (n < 0 || n > 8 || what < 0 || what > 1) {
            return BAD;
        }
        BigInteger upper = ways(stateNow(), n, new HashMap<>());
        BigInteger lower = BigInteger.TEN.pow(n);
        BigInteger common = upper.gcd(lower);
        return (what == 0 ? upper : lower).divide(common).intValueExact();
    }

    int mean() {
        int size = joined().size();
        BigInteger[][] lines = new BigInteger[size][size + 1];
        for (int s = 0; s < size; s++) {
            Arrays.fill(lines[s], BigInteger.ZERO);
            lines[s][s] = BigInteger.TEN;
            lines[s][size] = BigInteger.TEN;
            for (int sign = 0; sign < 5; sign++) {
                int to = joined().step(s, sign);
                if (to != ALARM) {
                    lines[s][to] = lines[s][to].subtract(BigInteger.valueOf(now.chances.get(sign)));
                }
            }
        }
        return solve(lines) ? lines[stateNow()][size].mod(P).intValueExact() : NONE;
    }

    int same(int what) {
        if (what < 0 || what > 1) {
            return BAD;
        }
        List<Integer> due = alarms(now.rules);
        int found = 0;
        int first = NONE;
        for (int n = 1; n <= 4; n++) {
            for (int m = 1; m <= n; m++) {
                for (int set = 1; set <= 31; set++) {
                    if (alarms(List.of(new Rule(m, n, set))).equals(due)) {
                        found++;
                        first = first == NONE ? 1000 * n + 100 * m + set : first;
                    }
                }
            }
        }
        return what == 0 ? found : first;
    }

    int keep(int image) {
        if (image < 0 || image > 1) {
            return BAD;
        }
        images[image] = now;
        return now.rows.size();
    }

    int back(int image) {
        if (image < 0 || image > 1) {
            return BAD;
        }
        if (images[image] == null) {
            return STATE;
        }
        now = images[image];
        undone.clear();
        return now.rows.size();
    }

    int count(int what) {
        int last = now.rows.size() - 1;
        return switch (what) {
            case 0 -> now.rules.size();
            case 1 -> now.rows.size();
            case 2 -> joined().size();
            case 3 -> stateNow();
            case 4 -> now.slack;
            case 5 -> now.limit;
            case 6 -> last < 0 ? 0 : sums(last)[0];
            case 7 -> last < 0 ? 0 : sums(last)[1];
            case 8 -> text.length();
            case 9 -> undone.size();
            default -> BAD;
        };
    }

    private void becomesWhole(Whole next) {
        undone.push(now);
        if (undone.size() > 6) {
            undone.removeLast();
        }
        now = next;
    }

    private List<Integer> times() {
        return new ArrayList<>(now.rows.keySet());
    }

    private List<Integer> signs() {
        return new ArrayList<>(now.rows.values());
    }

    private int kth(List<Integer> places, int k) {
        if (k < -1) {
            return BAD;
        }
        if (k == -1) {
            return places.size();
        }
        return k < places.size() ? times().get(places.get(k)) : NONE;
    }

    private List<Integer> alarms(List<Rule> rules) {
        List<Integer> found = new ArrayList<>();
        List<Integer> since = new ArrayList<>();
        List<Integer> signs = signs();
        for (int i = 0; i < signs.size(); i++) {
            since.add(signs.get(i));
            if (met(rules, since) != 0) {
                found.add(i);
                since.clear();
            }
        }
        return found;
    }

    private List<Integer> sinceAlarm(List<Rule> rules, int i) {
        int from = 0;
        for (int place : alarms(rules)) {
            if (place <= i) {
                from = place + 1;
            }
        }
        return signs().subList(from, i + 1);
    }

    private int metAt(List<Rule> rules, int i) {
        int from = 0;
        for (int place : alarms(rules)) {
            if (place < i) {
                from = place + 1;
            }
        }
        return met(rules, signs().subList(from, i + 1));
    }

    private static int met(List<Rule> rules, List<Integer> since) {
        int bits = 0;
        for (int r = 0; r < rules.size(); r++) {
            Rule rule = rules.get(r);
            int in = 0;
            for (int back = 1; back <= rule.n && back <= since.size(); back++) {
                int sign = since.get(since.size() - back);
                in += (rule.set & 1 << sign) != 0 ? 1 : 0;
            }
            bits += in >= rule.m ? 1 << r : 0;
        }
        return bits;
    }

    /** UP, DOWN and whether there is a signal, at the i-th row. */
    private int[] sums(int i) {
        int up = 0;
        int down = 0;
        int signal = 0;
        for (int sign : signs().subList(0, i + 1)) {
            up += sign - 2 - now.slack;
            down += 2 - sign - now.slack;
            up = up < 0 ? 0 : up;
            down = down < 0 ? 0 : down;
            signal = up > now.limit || down > now.limit ? 1 : 0;
            up = signal == 1 ? 0 : up;
            down = signal == 1 ? 0 : down;
        }
        return new int[] {up, down, signal};
    }

    private Joined joined() {
        if (!joined.rules.equals(now.rules)) {
            joined = new Joined(now.rules);
        }
        return joined;
    }

    private int stateNow() {
        int last = now.rows.size() - 1;
        return last < 0 ? 0 : joined().stateOf(sinceAlarm(now.rules, last));
    }

    /** The first of the shortest rows of signs that bring an alarm, trying all of each length; null if none. */
    private List<Integer> soonestRow() {
        for (int length = 1; length <= 4; length++) {
            int all = (int) Math.pow(5, length);
            for (int number = 0; number < all; number++) {
                List<Integer> way = new ArrayList<>();
                for (int left = number, i = 0; i < length; i++, left /= 5) {
                    way.add(0, left % 5);
                }
                if (bringsAlarm(way)) {
                    return way;
                }
            }
        }
        return null;
    }

    private boolean bringsAlarm(List<Integer> way) {
        int last = now.rows.size() - 1;
        List<Integer> since = new ArrayList<>(last < 0 ? List.of() : sinceAlarm(now.rules, last));
        for (int i = 0; i < way.size(); i++) {
            since.add(way.get(i));
            if (met(now.rules, since) != 0) {
                return i == way.size() - 1;
            }
        }
        return false;
    }

    /** Of 10 to the n ways, how many bring an alarm. */
    private BigInteger ways(int state, int n, Map<Integer, BigInteger> seen) {
        if (n == 0) {
            return BigInteger.ZERO;
        }
        int key = state * 9 + n;
        if (!seen.containsKey(key)) {
            BigInteger sum = BigInteger.ZERO;
            for (int sign = 0; sign < 5; sign++) {
                int to = joined().step(state, sign);
                BigInteger each = to == ALARM ? BigInteger.TEN.pow(n - 1) : ways(to, n - 1, seen);
                sum = sum.add(each.multiply(BigInteger.valueOf(now.chances.get(sign))));
            }
            seen.put(key, sum);
        }
        return seen.get(key);
    }

    private static boolean solve(BigInteger[][] lines) {
        int size = lines.length;
        for (int column = 0; column < size; column++) {
            int from = column;
            while (from < size && lines[from][column].mod(P).signum() == 0) {
                from++;
            }
            if (from == size) {
                return false;
            }
            BigInteger[] line = lines[from];
            lines[from] = lines[column];
            lines[column] = line;
            BigInteger inverse = line[column].modInverse(P);
            for (int i = 0; i <= size; i++) {
                line[i] = line[i].multiply(inverse).mod(P);
            }
            for (int other = 0; other < size; other++) {
                BigInteger times = lines[other][column];
                if (other != column && times.signum() != 0) {
                    for (int i = 0; i <= size; i++) {
                        lines[other][i] = lines[other][i].subtract(times.multiply(line[i])).mod(P);
                    }
                }
            }
        }
        return true;
    }

    /** The machine, from the last three signs since an alarm (no rule looks further back), pair by pair told apart. */
    private static final class Joined {
        final List<Rule> rules;
        private final List<List<Integer>> nodes = new ArrayList<>();
        private final Map<List<Integer>, Integer> places = new LinkedHashMap<>();
        private final List<int[]> leads = new ArrayList<>();
        private boolean[][] apart;
        private final List<Integer> firsts = new ArrayList<>();

        Joined(List<Rule> rules) {
            this.rules = rules;
            reach();
            tellApart();
            number();
        }

        int size() {
            return firsts.size();
        }

        int stateOf(List<Integer> since) {
            List<Integer> empty = List.of();
            boolean alarm = met(rules, since) != 0;
            return stateOfNode(places.get(alarm ? empty : tail(since)));
        }

        int step(int state, int sign) {
            int to = leads.get(firsts.get(state))[sign];
            return to == ALARM ? ALARM : stateOfNode(to);
        }

        private static List<Integer> tail(List<Integer> since) {
            return new ArrayList<>(since.subList(Math.max(0, since.size() - 3), since.size()));
        }

        private int place(List<Integer> node) {
            if (!places.containsKey(node)) {
                places.put(node, nodes.size());
                nodes.add(node);
            }
            return places.get(node);
        }

        private void reach() {
            place(List.of());
            for (int i = 0; i < nodes.size(); i++) {
                int[] to = new int[5];
                for (int sign = 0; sign < 5; sign++) {
                    List<Integer> longer = new ArrayList<>(nodes.get(i));
                    longer.add(sign);
                    to[sign] = met(rules, longer) != 0 ? ALARM : place(tail(longer));
                }
                leads.add(to);
            }
        }

        private void tellApart() {
            int size = nodes.size();
            apart = new boolean[size][size];
            for (boolean changed = true; changed;) {
                changed = false;
                for (int a = 0; a < size; a++) {
                    for (int b = 0; b < size; b++) {
                        if (!apart[a][b] && signTellsApart(a, b)) {
                            apart[a][b] = true;
                            changed = true;
                        }
                    }
                }
            }
        }

        private boolean signTellsApart(int a, int b) {
            for (int sign = 0; sign < 5; sign++) {
                int toA = leads.get(a)[sign];
                int toB = leads.get(b)[sign];
                if (toA == ALARM || toB == ALARM) {
                    if (toA != toB) {
                        return true;
                    }
                } else if (apart[toA][toB]) {
                    return true;
                }
            }
            return false;
        }

        private int stateOfNode(int node) {
            for (int s = 0; s < firsts.size(); s++) {
                if (!apart[node][firsts.get(s)]) {
                    return s;
                }
            }
            return -1;
        }

        private void number() {
            firsts.add(0);
            for (int s = 0; s < firsts.size(); s++) {
                for (int sign = 0; sign < 5; sign++) {
                    int to = leads.get(firsts.get(s))[sign];
                    if (to != ALARM && stateOfNode(to) < 0) {
                        firsts.add(to);
                    }
                }
            }
        }
    }

    /** A text read by patterns: its items one behind the other, and the fault (-1 if there is none). */
    private static final class Telling {
        private static final Pattern TOKEN = Pattern.compile("[a-z]+|[0-9]+|[^ ]", Pattern.DOTALL);
        final List<Rule> rules = new ArrayList<>();
        List<Integer> chances = List.of(1, 2, 4, 2, 1);
        int slack = 1;
        int limit = 4;
        int items = 0;
        int fault = -1;

        Telling(String text) {
            List<String> item = new ArrayList<>();
            boolean chance = false;
            boolean sums = false;
            Matcher tokens = TOKEN.matcher(text);
            while (tokens.find()) {
                String token = tokens.group();
                item.add(token);
                boolean again = item.size() == 1 && (token.equals("chance") && chance || token.equals("sums") && sums);
                if (again || !canStand(item)) {
                    fault = tokens.start();
                    return;
                }
                chance |= token.equals("chance");
                sums |= token.equals("sums");
                if (token.equals(";")) {
                    take(item);
                    item.clear();
                }
            }
            fault = item.isEmpty() ? -1 : text.length();
        }

        private boolean canStand(List<String> item) {
            String head = item.get(0);
            String last = item.get(item.size() - 1);
            int at = item.size() - 1;
            if (at == 0) {
                return head.equals("rule") ? rules.size() < 3 : head.equals("chance") || head.equals("sums");
            }
            int numbers = head.equals("rule") ? 3 : head.equals("chance") ? 5 : 2;
            if (at == numbers + 1) {
                return last.equals(";");
            }
            if (!last.matches("0|[1-9][0-9]?")) {
                return false;
            }
            int value = Integer.parseInt(last);
            if (head.equals("rule")) {
                int used = rules.stream().mapToInt(r -> r.n - 1).sum();
                return at == 1 ? value >= 1 && value <= 4
                    : at == 2 ? value >= number(item, 1) && value <= 4 && used + value - 1 <= 6
                    : value >= 1 && value <= 31;
            }
            if (head.equals("chance")) {
                int all = 0;
                for (int i = 1; i <= at; i++) {
                    all += number(item, i);
                }
                return value <= 10 && (at < 5 || all == 10);
            }
            return at == 1 ? value <= 2 : value >= 1 && value <= 9;
        }

        private static int number(List<String> item, int i) {
            return Integer.parseInt(item.get(i));
        }

        private void take(List<String> item) {
            items++;
            if (item.get(0).equals("rule")) {
                rules.add(new Rule(number(item, 1), number(item, 2), number(item, 3)));
            } else if (item.get(0).equals("sums")) {
                slack = number(item, 1);
                limit = number(item, 2);
            } else {
                chances = new ArrayList<>();
                for (int i = 1; i <= 5; i++) {
                    chances.add(number(item, i));
                }
            }
        }
    }
}
