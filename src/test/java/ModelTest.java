import java.util.ArrayDeque;
import java.util.ArrayList;
import java.util.Arrays;
import java.util.Comparator;
import java.util.Deque;
import java.util.List;
import java.util.Set;
import java.util.TreeSet;

/**
 * Long runs of arbitrary calls on RiskHouse and on a second reading of the document that is written
 * as plainly as can be, with the library's lists; every answer and every exception must be the same.
 */
public final class ModelTest {
    private static final int RUNS = 3000;
    private static final int CALLS = 512;
    private static final int[] ODD_NUMBERS = {Integer.MIN_VALUE, Integer.MIN_VALUE + 10, -1001, -2, -1, 17, 18, 61, 1000, 1001, Integer.MAX_VALUE};

    private static int wrong = 0;

    public static void main(String[] args) {
        for (int run = 0; run < RUNS && wrong < 20; run++) {
            new Run(run).go();
        }
        System.out.println(wrong == 0 ? "all answers are as due" : wrong + " answers are not as due");
        if (wrong != 0) {
            System.exit(1);
        }
    }

    /** One object of each kind under the same calls. */
    private static final class Run {
        final int number;
        final Dice dice;
        final RiskHouse house;
        final Model model;

        Run(int number) {
            this.number = number;
            dice = new Dice(number);
            int steps = dice.below(10) == 0 ? dice.odd() : dice.below(60);
            // Endless rules under very many steps are PromisesTest's: here they would only take time.
            steps = Math.min(steps, 500);
            house = new RiskHouse(steps);
            model = new Model(steps);
        }

        void go() {
            for (int i = 0; i < CALLS && wrong < 20; i++) {
                String call = dice.below(100) < (i < 150 ? 70 : 10) ? buildCall() : useCall();
                int a = argument(call, 0);
                int b = argument(call, 1);
                int c = argument(call, 2);
                String got = answer(true, call, a, b, c);
                String want = answer(false, call, a, b, c);
                if (!got.equals(want)) {
                    wrong++;
                    System.out.println("run " + number + ", call " + i + ": " + call + Arrays.asList(a, b, c) + " answered " + got + ", due is " + want);
                }
            }
        }

        String buildCall() {
            String[] calls = {"rule", "operation", "operation", "operation", "operation", "operation", "operation", "operation"};
            return calls[dice.below(calls.length)];
        }

        String useCall() {
            String[] calls = {"field", "field", "tape", "share", "cap", "ask", "ask", "decide", "of", "of", "failed", "failed",
                "edition", "look", "look", "count", "count"};
            return calls[dice.below(calls.length)];
        }

        int argument(String call, int place) {
            if (dice.below(60) == 0) {
                return dice.odd();
            }
            switch (call + place) {
                case "rule0": case "cap0": case "ask0": case "decide0": case "edition0": return dice.below(4);
                case "operation0": return dice.below(20) == 0 ? dice.below(12) : model.rules.size() - 1 - dice.below(2);
                case "operation1": return dice.below(3) == 0 ? dice.below(2) : dice.below(13);
                case "operation2": return operand();
                case "field0": return dice.below(8);
                case "field1": return dice.below(2) == 0 ? dice.below(4) - 1 : dice.below(2001) - 1000;
                case "tape0": return dice.below(1000);
                case "share0": return dice.below(8);
                case "share1": return 1 + dice.below(10);
                case "cap1": return dice.below(6);
                case "of0": return dice.below(Math.max(1, model.cases.size()));
                case "failed0": return dice.below(Math.max(1, model.failures.size()));
                case "look0": return dice.below(Math.max(1, model.rules.size()));
                case "edition1": return dice.below(3);
                case "failed1": return dice.below(4);
                case "of1": case "look1": return dice.below(5);
                case "count0": return dice.below(20);
                default: return dice.below(2);
            }
        }

        int operand() {
            switch (dice.below(4)) {
                case 0: return dice.below(100);
                case 1: return dice.below(9);
                default: return 0;
            }
        }

        String answer(boolean ofHouse, String call, int a, int b, int c) {
            try {
                return ofHouse ? askHouse(call, a, b, c) : model.call(call, a, b, c);
            } catch (RuntimeException e) {
                return e.getClass().getSimpleName();
            }
        }

        String askHouse(String call, int a, int b, int c) {
            switch (call) {
                case "rule": return "" + house.rule(a, b % 2 == 0);
                case "operation": return "" + house.operation(a, b, c);
                case "field": return "" + house.field(a, b);
                case "tape": return "" + house.tape(a);
                case "share": return "" + house.share(a, b);
                case "cap": return "" + house.cap(a, b);
                case "ask": return "" + house.ask(a);
                case "decide": return "" + house.decide(a);
                case "of": return "" + house.of(a, b);
                case "failed": return "" + house.failed(a, b);
                case "edition": return "" + house.edition(a, b);
                case "look": return "" + house.look(a, b);
                default: return "" + house.count(a);
            }
        }
    }

    /** The same numbers for the same run, always. */
    private static final class Dice {
        private long state;

        Dice(long seed) {
            state = seed * 0x9E3779B97F4A7C15L + 1;
        }

        int below(int end) {
            state = state * 6364136223846793005L + 1442695040888963407L;
            return (int) ((state >>> 33) % end);
        }

        int odd() {
            return ODD_NUMBERS[below(ODD_NUMBERS.length)];
        }
    }

    private static final class Rule {
        int edition;
        boolean start;
        final List<int[]> operations = new ArrayList<>();
        int value;
        int steps;
    }

    private static final class Case {
        int number;
        int office;
        int points;
        int path;
        boolean byChance;
        boolean decided;
        final Set<Integer> failed = new TreeSet<>();
    }

    /** How a run failed, thrown from wherever it does. */
    private static final class RunFailure extends Exception {
        private static final long serialVersionUID = 1;
        final int which;

        RunFailure(int which) {
            this.which = which;
        }
    }

    private static final class Model {
        final int steps;
        final int[] fields = new int[8];
        final int[] cells = new int[4];
        final int[] states = new int[4];
        final int[] caps = {20, 20, 20, 20};
        final List<Rule> rules = new ArrayList<>();
        final List<Case> cases = new ArrayList<>();
        final List<int[]> failures = new ArrayList<>();
        final Deque<Integer> tape = new ArrayDeque<>();
        int came = 0;
        int up = 0;
        int down = 1;
        int failedAt;

        Model(int steps) {
            this.steps = steps < 0 ? 0 : steps > 65536 ? 65536 : steps;
        }

        String call(String call, int a, int b, int c) {
            switch (call) {
                case "rule": return rule(a, b % 2 == 0);
                case "operation": return operation(a, b, c);
                case "field": return field(a, b);
                case "tape": return tape(a);
                case "share": return share(a, b);
                case "cap": return cap(a, b);
                case "ask": return ask(a);
                case "decide": return decide(a);
                case "of": return of(a, b);
                case "failed": return failed(a, b);
                case "edition": return edition(a, b);
                case "look": return look(a, b);
                default: return count(a);
            }
        }

        static boolean in(long v, long from, long to) {
            return from <= v && v <= to;
        }

        static void argument(boolean good) {
            if (!good) {
                throw new IllegalArgumentException();
            }
        }

        static void state(boolean good) {
            if (!good) {
                throw new IllegalStateException();
            }
        }

        static void index(boolean good) {
            if (!good) {
                throw new IndexOutOfBoundsException();
            }
        }

        String rule(int edition, boolean start) {
            argument(in(edition, 0, 3));
            state(rules.size() != 12 && states[edition] == 0);
            Rule r = new Rule();
            r.edition = edition;
            r.start = start;
            rules.add(r);
            return "" + (rules.size() - 1);
        }

        String operation(int rule, int code, int v) {
            argument(in(rule, 0, rules.size() - 1L));
            argument(in(code, 0, 12));
            int[][] ranges = {{-1000, 1000}, {0, 7}, {0, 0}, {0, 0}, {0, 0}, {0, 0}, {0, 0}, {0, 0}, {0, 0}, {0, 0}, {0, 16}, {0, 16}, {0, 0}};
            argument(in(v, ranges[code][0], ranges[code][1]));
            Rule r = rules.get(rule);
            state(r.operations.size() != 16 && states[r.edition] == 0);
            r.operations.add(new int[] {code, v});
            return "" + r.operations.size();
        }

        String field(int f, int v) {
            if (in(f, 0, 7) && in(v, -1000, 1000)) {
                fields[f] = v;
                return "true";
            }
            return "false";
        }

        String tape(int v) {
            if (in(v, 0, 999) && came < 60) {
                came++;
                tape.addLast(v);
                return "true";
            }
            return "false";
        }

        String share(int newUp, int newDown) {
            if (in(newDown, 1, 1000) && in(newUp, 0, newDown)) {
                up = newUp;
                down = newDown;
                return "true";
            }
            return "false";
        }

        String cap(int office, int n) {
            if (in(office, 0, 3) && in(n, 0, 20)) {
                caps[office] = n;
                return "true";
            }
            return "false";
        }

        String ask(int office) {
            argument(in(office, 0, 3));
            state(cases.size() != 40);
            Case c = new Case();
            c.number = cases.size();
            c.office = office;
            cases.add(c);
            for (int e = 0; e < 4; e++) {
                int edition = e;
                if (states[e] == 0 && rules.stream().anyMatch(r -> r.edition == edition)) {
                    states[e] = 1;
                    for (Rule r : rules) {
                        if (states[e] == 1 && r.edition == e && r.start && !runs(r, c)) {
                            states[e] = 2;
                        }
                    }
                }
            }
            for (Rule r : rules) {
                if (!r.start && states[r.edition] == 1 && runs(r, c)) {
                    c.points += r.value < 0 ? 0 : r.value > 100 ? 100 : r.value;
                }
            }
            c.points = c.points > 1000 ? 1000 : c.points;
            c.path = c.points < 20 ? 0 : c.points < 50 ? 1 : c.points < 80 ? 2 : 3;
            if (c.path == 0 && !tape.isEmpty() && tape.removeFirst() * down < up * 1000) {
                c.path = 1;
                c.byChance = true;
            }
            return "" + c.points;
        }

        boolean runs(Rule r, Case c) {
            try {
                r.value = run(r);
                return true;
            } catch (RunFailure f) {
                failures.add(new int[] {rules.indexOf(r), f.which, failedAt, c.number});
                c.failed.add(rules.indexOf(r));
                return false;
            }
        }

        int run(Rule r) throws RunFailure {
            Deque<Integer> stack = new ArrayDeque<>();
            r.steps = 0;
            int at = 0;
            while (at < r.operations.size()) {
                failedAt = at;
                if (r.steps == steps) {
                    throw new RunFailure(1);
                }
                r.steps++;
                int code = r.operations.get(at)[0];
                int v = r.operations.get(at)[1];
                at++;
                if (code == 12) {
                    break;
                } else if (code == 10) {
                    at = v;
                } else if (code == 11) {
                    at = take(stack) == 0 ? v : at;
                } else if (code == 3) {
                    cells[r.edition] = take(stack);
                } else if (code < 3) {
                    put(stack, code == 0 ? v : code == 1 ? fields[v] : cells[r.edition]);
                } else {
                    long second = take(stack);
                    long first = take(stack);
                    put(stack, (int) join(code, first, second));
                }
            }
            return stack.isEmpty() ? 0 : stack.getLast();
        }

        static int take(Deque<Integer> stack) throws RunFailure {
            if (stack.isEmpty()) {
                throw new RunFailure(3);
            }
            return stack.removeLast();
        }

        static void put(Deque<Integer> stack, int value) throws RunFailure {
            if (stack.size() == 8) {
                throw new RunFailure(3);
            }
            stack.addLast(value);
        }

        static long join(int code, long first, long second) throws RunFailure {
            if ((code == 7 || code == 8) && second == 0) {
                throw new RunFailure(2);
            }
            return code == 4 ? first + second : code == 5 ? first - second : code == 6 ? first * second
                    : code == 7 ? first / second : code == 8 ? first % second : first < second ? 1 : 0;
        }

        String decide(int office) {
            argument(in(office, 0, 3));
            List<Case> open = new ArrayList<>(cases);
            open.removeIf(c -> c.office != office || c.decided);
            List<Case> high = new ArrayList<>(open);
            high.removeIf(c -> c.path < 2);
            high.sort(Comparator.comparingInt((Case c) -> -c.points).thenComparingInt(c -> c.number));
            for (int i = caps[office]; i < high.size(); i++) {
                high.get(i).path = 1;
            }
            open.forEach(c -> c.decided = true);
            return "" + open.size();
        }

        String of(int c, int what) {
            index(in(c, 0, cases.size() - 1L) && in(what, 0, 4));
            Case k = cases.get(c);
            int bits = k.failed.stream().mapToInt(r -> 1 << r).sum();
            return "" + new int[] {k.office, k.points, k.decided ? k.path : -1, k.byChance ? 1 : 0, bits}[what];
        }

        String failed(int i, int what) {
            index(in(i, 0, Math.min(60, failures.size()) - 1L) && in(what, 0, 3));
            return "" + failures.get(i)[what];
        }

        String edition(int e, int what) {
            index(in(e, 0, 3) && in(what, 0, 2));
            long mine = rules.stream().filter(r -> r.edition == e).count();
            return "" + new long[] {cells[e], states[e], mine}[what];
        }

        String look(int rule, int what) {
            index(in(rule, 0, rules.size() - 1L) && in(what, 0, 4));
            Rule r = rules.get(rule);
            return "" + new int[] {r.edition, r.start ? 1 : 0, r.operations.size(), r.value, r.steps}[what];
        }

        String count(int what) {
            if (in(what, 10, 17)) {
                return "" + fields[what - 10];
            }
            long decided = cases.stream().filter(c -> c.decided).count();
            long[] counts = {rules.size(), cases.size(), failures.size(), tape.size(), decided};
            return in(what, 0, 4) ? "" + counts[what] : "-1";
        }
    }
}
