import java.util.Arrays;

/** Risk rules as little programs in editions: what each call promises stands in the project's document. */
public final class RiskHouse {
    public static final int NONE = -1;

    private static final int FIELDS = 8;
    private static final int OFFICES = 4;
    private static final int MOST_STEPS = 65536;
    private static final int GREATEST_NUMBER = 1000;
    private static final int GREATEST_CAP = 20;
    private static final int MOST_POINTS_OF_RULE = 100;
    private static final int MOST_POINTS_OF_CASE = 1000;
    private static final int FIRST_FIELD_COUNT = 10;

    private final int[] fields = new int[FIELDS];
    private final int[] caps = new int[OFFICES];
    private final Rules rules = new Rules();
    private final Editions editions = new Editions();
    private final Tape chances = new Tape();
    private final Cases cases = new Cases();
    private final Failures failures = new Failures();
    private final Machine machine;

    public RiskHouse(int steps) {
        machine = new Machine(Math.max(0, Math.min(MOST_STEPS, steps)));
        Arrays.fill(caps, GREATEST_CAP);
    }

    public int rule(int edition, boolean start) throws IllegalArgumentException, IllegalStateException {
        if (!isBelow(edition, Editions.ALL)) {
            throw new IllegalArgumentException("no such edition");
        }
        if (rules.size >= Rules.MOST || editions.hasStarted(edition)) {
            throw new IllegalStateException("no more rules, or the edition has started");
        }
        editions.rules[edition]++;
        return rules.add(edition, start);
    }

    public int operation(int rule, int code, int v) throws IllegalArgumentException, IllegalStateException {
        if (!isBelow(rule, rules.size) || !canBe(code, v)) {
            throw new IllegalArgumentException("no such rule, code or number");
        }
        if (rules.length[rule] >= Rules.MOST_OPERATIONS || editions.hasStarted(rules.edition[rule])) {
            throw new IllegalStateException("no more operations, or the edition has started");
        }
        return rules.append(rule, code, v);
    }

    public boolean field(int f, int v) {
        if (!isBelow(f, FIELDS) || !isNumber(v)) {
            return false;
        }
        fields[f] = v;
        return true;
    }

    public boolean tape(int v) {
        return chances.append(v);
    }

    public boolean share(int up, int down) {
        return chances.setShare(up, down);
    }

    public boolean cap(int office, int n) {
        if (!isBelow(office, OFFICES) || n < 0 || n > GREATEST_CAP) {
            return false;
        }
        caps[office] = n;
        return true;
    }

    public int ask(int office) throws IllegalArgumentException, IllegalStateException {
        if (!isBelow(office, OFFICES)) {
            throw new IllegalArgumentException("no such office");
        }
        if (cases.size >= Cases.MOST) {
            throw new IllegalStateException("no more cases");
        }
        int c = cases.open(office);
        for (int e = 0; e < Editions.ALL; e++) {
            startIfDue(e, c);
        }
        int points = runPlainRules(c);
        int path = pathByPoints(points);
        boolean byChance = path == 0 && chances.grantsNext();
        cases.judge(c, points, byChance ? 1 : path, byChance);
        return points;
    }

    public int decide(int office) throws IllegalArgumentException {
        if (!isBelow(office, OFFICES)) {
            throw new IllegalArgumentException("no such office");
        }
        cases.cutPaths(office, caps[office]);
        return cases.close(office);
    }

    public int of(int c, int what) throws IndexOutOfBoundsException {
        if (!isBelow(c, cases.size) || !isBelow(what, Cases.WHATS)) {
            throw new IndexOutOfBoundsException("no such case or what");
        }
        return cases.answer(c, what);
    }

    public int failed(int i, int what) throws IndexOutOfBoundsException {
        if (!isBelow(i, failures.kept()) || !isBelow(what, Failures.WHATS)) {
            throw new IndexOutOfBoundsException("no such failure or what");
        }
        return failures.answer(i, what);
    }

    public int edition(int e, int what) throws IndexOutOfBoundsException {
        if (!isBelow(e, Editions.ALL) || !isBelow(what, Editions.WHATS)) {
            throw new IndexOutOfBoundsException("no such edition or what");
        }
        return editions.answer(e, what);
    }

    public int look(int rule, int what) throws IndexOutOfBoundsException {
        if (!isBelow(rule, rules.size) || !isBelow(what, Rules.WHATS)) {
            throw new IndexOutOfBoundsException("no such rule or what");
        }
        return rules.answer(rule, what);
    }

    public int count(int what) {
        switch (what) {
            case 0: return rules.size;
            case 1: return cases.size;
            case 2: return failures.told;
            case 3: return chances.left();
            case 4: return cases.closed;
            default: return fieldValue(what - FIRST_FIELD_COUNT);
        }
    }

    private int fieldValue(int f) {
        return isBelow(f, FIELDS) ? fields[f] : NONE;
    }

    private static boolean isBelow(int index, int end) {
        return index >= 0 && index < end;
    }

    private static boolean isNumber(int v) {
        return v >= -GREATEST_NUMBER && v <= GREATEST_NUMBER;
    }

    private static boolean canBe(int code, int v) {
        switch (code) {
            case Code.NUMBER: return isNumber(v);
            case Code.FIELD: return isBelow(v, FIELDS);
            case Code.GO_TO:
            case Code.IF_ZERO: return v >= 0 && v <= Rules.MOST_OPERATIONS;
            default: return code >= Code.CELL && code <= Code.END && v == 0;
        }
    }

    private static int pathByPoints(int points) {
        if (points < 20) {
            return 0;
        }
        if (points < 50) {
            return 1;
        }
        return points < 80 ? 2 : 3;
    }

    private void startIfDue(int e, int c) {
        if (!editions.isDue(e)) {
            return;
        }
        editions.state[e] = Editions.STARTED;
        for (int r = 0; r < rules.size && !editions.isBarred(e); r++) {
            if (rules.edition[r] == e && rules.start[r] && !runRule(r, c)) {
                editions.state[e] = Editions.BARRED;
            }
        }
    }

    private int runPlainRules(int c) {
        int points = 0;
        for (int r = 0; r < rules.size; r++) {
            if (!rules.start[r] && !editions.isBarred(rules.edition[r]) && runRule(r, c)) {
                points += Math.max(0, Math.min(MOST_POINTS_OF_RULE, rules.value[r]));
            }
        }
        return Math.min(MOST_POINTS_OF_CASE, points);
    }

    /** Runs a rule for a case, and tells whether it did not fail. */
    private boolean runRule(int r, int c) {
        machine.run(rules, r, fields, editions.cell);
        rules.steps[r] = machine.steps;
        if (machine.failure != Machine.NO_FAILURE) {
            failures.tell(r, machine.failure, machine.at, c);
            cases.failedRules[c] |= 1 << r;
            return false;
        }
        rules.value[r] = machine.top();
        return true;
    }

    /** The codes of the operations. */
    private static final class Code {
        static final int NUMBER = 0;
        static final int FIELD = 1;
        static final int CELL = 2;
        static final int KEEP = 3;
        static final int ADD = 4;
        static final int SUBTRACT = 5;
        static final int MULTIPLY = 6;
        static final int DIVIDE = 7;
        static final int REST = 8;
        static final int LESS = 9;
        static final int GO_TO = 10;
        static final int IF_ZERO = 11;
        static final int END = 12;
    }

    /** The rules with their operations, all in rows that are made once. */
    private static final class Rules {
        static final int MOST = 12;
        static final int MOST_OPERATIONS = 16;
        static final int WHATS = 5;

        final int[] edition = new int[MOST];
        final boolean[] start = new boolean[MOST];
        final int[] length = new int[MOST];
        final int[] value = new int[MOST];
        final int[] steps = new int[MOST];
        final int[] codes = new int[MOST * MOST_OPERATIONS];
        final int[] numbers = new int[MOST * MOST_OPERATIONS];
        int size;

        int add(int ofEdition, boolean isStart) {
            int rule = size;
            edition[rule] = ofEdition;
            start[rule] = isStart;
            size++;
            return rule;
        }

        int append(int rule, int code, int v) {
            int place = rule * MOST_OPERATIONS + length[rule];
            codes[place] = code;
            numbers[place] = v;
            length[rule]++;
            return length[rule];
        }

        int answer(int rule, int what) {
            switch (what) {
                case 0: return edition[rule];
                case 1: return start[rule] ? 1 : 0;
                case 2: return length[rule];
                case 3: return value[rule];
                default: return steps[rule];
            }
        }
    }

    /** The editions: what each keeps for itself, and whether it has started. */
    private static final class Editions {
        static final int ALL = 4;
        static final int WHATS = 3;
        static final int NOT_STARTED = 0;
        static final int STARTED = 1;
        static final int BARRED = 2;

        final int[] cell = new int[ALL];
        final int[] state = new int[ALL];
        final int[] rules = new int[ALL];

        boolean hasStarted(int e) {
            return state[e] != NOT_STARTED;
        }

        boolean isBarred(int e) {
            return state[e] == BARRED;
        }

        boolean isDue(int e) {
            return !hasStarted(e) && rules[e] > 0;
        }

        int answer(int e, int what) {
            switch (what) {
                case 0: return cell[e];
                case 1: return state[e];
                default: return rules[e];
            }
        }
    }

    /** Runs one rule at a time; what the latest run came to stays readable till the next. */
    private static final class Machine {
        static final int NO_FAILURE = 0;
        static final int TOO_MANY_STEPS = 1;
        static final int BY_ZERO = 2;
        static final int STACK = 3;
        static final int DEEPEST = 8;

        final int limit;
        final int[] stack = new int[DEEPEST];
        int depth;
        int at;
        int steps;
        int failure;

        Machine(int limit) {
            this.limit = limit;
        }

        void run(Rules rules, int rule, int[] fields, int[] cells) {
            int first = rule * Rules.MOST_OPERATIONS;
            int length = rules.length[rule];
            int edition = rules.edition[rule];
            begin();
            for (int made = 0; made < limit && at < length && failure == NO_FAILURE; made++) {
                steps++;
                step(rules.codes[first + at], rules.numbers[first + at], edition, fields, cells);
            }
            if (at < length && failure == NO_FAILURE) {
                failure = TOO_MANY_STEPS;
            }
        }

        int top() {
            return depth > 0 ? stack[depth - 1] : 0;
        }

        private void begin() {
            depth = 0;
            at = 0;
            steps = 0;
            failure = NO_FAILURE;
        }

        private void step(int code, int v, int edition, int[] fields, int[] cells) {
            switch (code) {
                case Code.NUMBER: put(v); break;
                case Code.FIELD: put(fields[v]); break;
                case Code.CELL: put(cells[edition]); break;
                case Code.KEEP: keep(edition, cells); break;
                case Code.GO_TO: at = v; break;
                case Code.IF_ZERO: goIfZero(v); break;
                case Code.END: at = Rules.MOST_OPERATIONS; break;
                case Code.DIVIDE: divide(false); break;
                case Code.REST: divide(true); break;
                default: join(code); break;
            }
        }

        // A step that fails leaves 'at' where it is: that is the operation to tell.

        private boolean canTake(int many) {
            if (depth < many) {
                failure = STACK;
                return false;
            }
            return true;
        }

        private void put(int value) {
            if (depth >= DEEPEST) {
                failure = STACK;
                return;
            }
            stack[depth] = value;
            depth++;
            at++;
        }

        private void keep(int edition, int[] cells) {
            if (canTake(1)) {
                depth--;
                cells[edition] = stack[depth];
                at++;
            }
        }

        private void goIfZero(int v) {
            if (canTake(1)) {
                depth--;
                at = stack[depth] == 0 ? v : at + 1;
            }
        }

        private void join(int code) {
            if (!canTake(2)) {
                return;
            }
            depth -= 2;
            int first = stack[depth];
            int second = stack[depth + 1];
            switch (code) {
                case Code.ADD: put(first + second); break;
                case Code.SUBTRACT: put(first - second); break;
                case Code.MULTIPLY: put(first * second); break;
                default: put(first < second ? 1 : 0); break;
            }
        }

        private void divide(boolean forRest) {
            if (!canTake(2)) {
                return;
            }
            depth -= 2;
            int first = stack[depth];
            int second = stack[depth + 1];
            if (second == 0) {
                failure = BY_ZERO;
                return;
            }
            put(forRest ? first % second : first / second);
        }
    }

    /** The numbers of chance in the order they came, and the share they are held against. */
    private static final class Tape {
        static final int MOST = 60;
        static final int PARTS = 1000;

        final int[] numbers = new int[MOST];
        int came;
        int taken;
        int up;
        int down = 1;

        boolean append(int v) {
            if (v < 0 || v >= PARTS || came >= MOST) {
                return false;
            }
            numbers[came] = v;
            came++;
            return true;
        }

        boolean setShare(int newUp, int newDown) {
            if (newDown < 1 || newDown > PARTS || newUp < 0 || newUp > newDown) {
                return false;
            }
            up = newUp;
            down = newDown;
            return true;
        }

        int left() {
            return came - taken;
        }

        /** Takes the next number, if there is one, and tells whether it lies within the share. */
        boolean grantsNext() {
            if (taken >= came) {
                return false;
            }
            int number = numbers[taken];
            taken++;
            return number * down < up * PARTS;
        }
    }

    /** The cases in the order they were asked. */
    private static final class Cases {
        static final int MOST = 40;
        static final int WHATS = 5;

        final int[] office = new int[MOST];
        final int[] points = new int[MOST];
        final int[] path = new int[MOST];
        final boolean[] byChance = new boolean[MOST];
        final boolean[] decided = new boolean[MOST];
        final int[] failedRules = new int[MOST];
        int size;
        int closed;

        int open(int ofOffice) {
            int c = size;
            office[c] = ofOffice;
            size++;
            return c;
        }

        void judge(int c, int itsPoints, int itsPath, boolean isByChance) {
            points[c] = itsPoints;
            path[c] = itsPath;
            byChance[c] = isByChance;
        }

        /** Sends the cases of path 2 or 3 that the cap does not reach to path 1. */
        void cutPaths(int ofOffice, int cap) {
            for (int c = 0; c < size; c++) {
                if (isOpen(c, ofOffice) && path[c] >= 2 && rank(c) >= cap) {
                    path[c] = 1;
                }
            }
        }

        int close(int ofOffice) {
            int now = 0;
            for (int c = 0; c < size; c++) {
                if (isOpen(c, ofOffice)) {
                    decided[c] = true;
                    now++;
                }
            }
            closed += now;
            return now;
        }

        int answer(int c, int what) {
            switch (what) {
                case 0: return office[c];
                case 1: return points[c];
                case 2: return decided[c] ? path[c] : NONE;
                case 3: return byChance[c] ? 1 : 0;
                default: return failedRules[c];
            }
        }

        private boolean isOpen(int c, int ofOffice) {
            return office[c] == ofOffice && !decided[c];
        }

        // Points alone rank: paths change while the cases are cut, and a case
        // with more points than one of path 2 or 3 was of path 2 or 3 itself.
        private int rank(int c) {
            int ahead = 0;
            for (int d = 0; d < size; d++) {
                boolean goesFirst = points[d] > points[c] || points[d] == points[c] && d < c;
                if (goesFirst && isOpen(d, office[c])) {
                    ahead++;
                }
            }
            return ahead;
        }
    }

    /** The failures: all are counted, the first ones kept. */
    private static final class Failures {
        static final int MOST = 60;
        static final int WHATS = 4;

        final int[] rows = new int[MOST * WHATS];
        int told;

        void tell(int rule, int which, int operation, int c) {
            if (told < MOST) {
                int row = told * WHATS;
                rows[row] = rule;
                rows[row + 1] = which;
                rows[row + 2] = operation;
                rows[row + 3] = c;
            }
            told++;
        }

        int kept() {
            return Math.min(MOST, told);
        }

        int answer(int i, int what) {
            return rows[i * WHATS + what];
        }
    }
}
