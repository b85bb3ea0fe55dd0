import java.util.ArrayList;
import java.util.HashMap;
import java.util.List;
import java.util.Map;

/**
 * "What throws or is refused changes nothing": each refused call is made on one of two twins, and then
 * both must answer alike, right away and behind a row of calls that lets hidden state show.
 */
public final class RefusalTest {
    private static final int NUMBER = 0, FIELD = 1, CELL = 2, KEEP = 3, ADD = 4, DIVIDE = 7, IF_ZERO = 11, GO_TO = 10, END = 12;
    private static final int MIN = Integer.MIN_VALUE, MAX = Integer.MAX_VALUE;
    private static final String ARGUMENT = "IllegalArgumentException", STATE = "IllegalStateException",
            INDEX = "IndexOutOfBoundsException", REFUSED = "false", NONE = "-1";

    /** A look at everything takes more calls than an object has: it is shared out among several of them. */
    private static final int LOOKS_OF_ONE_OBJECT = 100;

    private static final List<Call> LOOKS = looks();
    private static final Map<State, List<String>> PICTURES = new HashMap<>();
    private static int wrong = 0;
    private static int made = 0;

    private interface Call {
        Object on(RiskHouse x);
    }

    /** What brings a new object into a state, in 300 calls at most. */
    private interface State {
        void make(RiskHouse x);
    }

    public static void main(String[] args) {
        State[] states = {x -> { }, RefusalTest::inUse, RefusalTest::fullOfRules, RefusalTest::fullOfCases};
        for (State state : states) {
            ruleOfNoEdition(state);
            operationOfNoRule(state);
            noField(state);
            noTapeNumber(state);
            noShare(state);
            noCap(state);
            noOfficeToAsk(state);
            noOfficeToDecide(state);
            noCase(state);
            noFailure(state);
            noEdition(state);
            noRule(state);
            noCount(state);
        }
        ruleThirteen();
        ruleOfStartedEdition();
        operationThatCannotBe();
        operationSeventeen();
        operationOfStartedEdition();
        tapeNumberSixtyOne();
        caseFortyOne();
        firstToldExceptionIsThrown();
        looksChangeNothing();
        System.out.println(wrong == 0 ? "all answers are as due" : wrong + " answers are not as due");
        if (wrong != 0 || made == 0) {
            System.exit(1);
        }
    }

    // ---- twins

    private static String answer(RiskHouse x, Call call) {
        try {
            return String.valueOf(call.on(x));
        } catch (RuntimeException e) {
            return e.getClass().getSimpleName();
        }
    }

    private static void due(String name, String got, String want) {
        if (!got.equals(want)) {
            wrong++;
            System.out.println(name + " answered " + got + ", due is " + want);
        }
    }

    private static void refused(State state, String name, String want, Call call) {
        made++;
        RiskHouse x = new RiskHouse(50);
        state.make(x);
        due(name, answer(x, call), want);
        List<String> without = PICTURES.computeIfAbsent(state, s -> picture(s, null));
        List<String> with = picture(state, call);
        for (int i = 0; i < without.size(); i++) {
            if (!with.get(i).equals(without.get(i))) {
                wrong++;
                System.out.println(name + " changed answer " + i + " of the picture from " + without.get(i) + " to " + with.get(i));
                return;
            }
        }
    }

    /** All answers of an object in a state, right away and behind the probe. */
    private static List<String> picture(State state, Call call) {
        List<String> answers = new ArrayList<>();
        for (boolean probed : new boolean[] {false, true}) {
            for (int from = 0; from < LOOKS.size(); from += LOOKS_OF_ONE_OBJECT) {
                RiskHouse x = new RiskHouse(50);
                state.make(x);
                if (call != null) {
                    answer(x, call);
                }
                if (probed) {
                    probe(x, answers);
                }
                for (Call look : LOOKS.subList(from, Math.min(LOOKS.size(), from + LOOKS_OF_ONE_OBJECT))) {
                    answers.add(answer(x, look));
                }
            }
        }
        return answers;
    }

    /** Caps, share, tape and operations can be seen only by what they do. */
    private static void probe(RiskHouse x, List<String> answers) {
        for (int o = 0; o < 4; o++) {
            int office = o;
            for (int points : new int[] {90, 60, 0, 90}) {
                x.field(0, points);
                answers.add(answer(x, y -> y.ask(office)));
            }
            answers.add(answer(x, y -> y.decide(office)));
        }
        answers.add(answer(x, y -> y.rule(3, false)));
        answers.add(answer(x, y -> y.operation(y.count(0) - 1, NUMBER, 1)));
        answers.add(answer(x, y -> y.tape(7)));
    }

    private static List<Call> looks() {
        List<Call> looks = new ArrayList<>();
        for (int i = -1; i < 20; i++) {
            int a = i;
            looks.add(x -> x.count(a));
        }
        for (int i = 0; i <= 60; i++) {
            for (int j = 0; j < 5; j++) {
                int a = i;
                int what = j;
                looks.add(x -> x.failed(a, what));
                if (a <= 40) {
                    looks.add(x -> x.of(a, what));
                }
                if (a <= 12) {
                    looks.add(x -> x.look(a, what));
                }
                if (a <= 4) {
                    looks.add(x -> x.edition(a, what));
                }
            }
        }
        return looks;
    }

    // ---- states

    private static int rule(RiskHouse x, int edition, boolean start, int... pairs) {
        int r = x.rule(edition, start);
        for (int i = 0; i + 1 < pairs.length; i += 2) {
            x.operation(r, pairs[i], pairs[i + 1]);
        }
        return r;
    }

    /** Every kind of thing at once: editions 0 started, 1 barred, 2 started, 3 with a rule that waits. */
    private static void inUse(RiskHouse x) {
        rule(x, 0, true, NUMBER, 5, KEEP, 0);
        rule(x, 0, false, FIELD, 0);
        rule(x, 0, false, CELL, 0, NUMBER, 1, ADD, 0, KEEP, 0);
        rule(x, 1, true, NUMBER, 3, KEEP, 0, ADD, 0);
        rule(x, 1, false, NUMBER, 50);
        rule(x, 2, false, NUMBER, 4, FIELD, 1, DIVIDE, 0);
        settings(x);
        x.field(0, 90);
        x.ask(1);
        x.field(0, 0);
        x.ask(1);
        x.decide(1);
        x.field(0, 60);
        x.ask(2);
        x.ask(1);
        rule(x, 3, false, FIELD, 7, FIELD, 0, NUMBER, 2, DIVIDE, 0, ADD, 0, END, 0);
    }

    private static void settings(RiskHouse x) {
        for (int f = 2; f < 8; f++) {
            x.field(f, 7 - f);
        }
        for (int o = 0; o < 4; o++) {
            x.cap(o, o);
        }
        x.share(1, 2);
        for (int v : new int[] {499, 500, 0, 999, 600}) {
            x.tape(v);
        }
    }

    /** Twelve rules of 16 operations that have not started, and 60 numbers on the tape. */
    private static void fullOfRules(RiskHouse x) {
        for (int r = 0; r < 12; r++) {
            x.rule(r % 4, r % 5 == 4);
            for (int i = 0; i < 15; i++) {
                x.operation(r, GO_TO, i + 1);
            }
            x.operation(r, r % 3 == 0 ? KEEP : NUMBER, r % 3 == 0 ? 0 : r);
        }
        settings(x);
        for (int i = 5; i < 60; i++) {
            x.tape(i);
        }
    }

    /** Forty cases, half of them decided, 60 and more failures, and an edition that has not started. */
    private static void fullOfCases(RiskHouse x) {
        rule(x, 0, false, FIELD, 0);
        rule(x, 0, false, ADD, 0);
        rule(x, 2, false, NUMBER, 1, FIELD, 1, DIVIDE, 0);
        settings(x);
        for (int c = 0; c < 40; c++) {
            x.field(0, 13 * c % 100);
            x.ask(c % 4);
        }
        x.decide(0);
        x.decide(2);
        rule(x, 1, true, NUMBER, 9, KEEP, 0);
        x.tape(123);
    }

    // ---- promise 2

    /** "IllegalArgumentException if there is no such edition". */
    private static void ruleOfNoEdition(State state) {
        for (int e : new int[] {MIN, -1, 4, MAX}) {
            refused(state, "rule(" + e + ", false)", ARGUMENT, x -> x.rule(e, false));
            refused(state, "rule(" + e + ", true)", ARGUMENT, x -> x.rule(e, true));
        }
    }

    /** "IllegalStateException if there are 12". */
    private static void ruleThirteen() {
        for (int e = 0; e < 4; e++) {
            int edition = e;
            refused(RefusalTest::fullOfRules, "rule 12 of edition " + e, STATE, x -> x.rule(edition, false));
            refused(RefusalTest::fullOfRules, "start 12 of edition " + e, STATE, x -> x.rule(edition, true));
        }
    }

    /** "or the edition has started": started with starts, barred, and started without. */
    private static void ruleOfStartedEdition() {
        for (int e = 0; e < 3; e++) {
            int edition = e;
            refused(RefusalTest::inUse, "rule of started edition " + e, STATE, x -> x.rule(edition, false));
            refused(RefusalTest::inUse, "start of started edition " + e, STATE, x -> x.rule(edition, true));
        }
    }

    // ---- promise 3

    /** "IllegalArgumentException if there is no such rule". */
    private static void operationOfNoRule(State state) {
        RiskHouse x = new RiskHouse(50);
        state.make(x);
        for (int r : new int[] {MIN, -1, x.count(0), 12, MAX}) {
            refused(state, "operation(" + r + ", 0, 0)", ARGUMENT, y -> y.operation(r, NUMBER, 0));
        }
    }

    /** "or code, or v can't be", with a rule that could take one more. */
    private static void operationThatCannotBe() {
        for (int code : new int[] {MIN, -1, 13, MAX}) {
            cannotBe(code, 0);
        }
        for (int v : new int[] {MIN, -1001, 1001, MAX}) {
            cannotBe(NUMBER, v);
        }
        for (int v : new int[] {MIN, -1, 8, MAX}) {
            cannotBe(FIELD, v);
        }
        for (int v : new int[] {MIN, -1, 17, MAX}) {
            cannotBe(GO_TO, v);
            cannotBe(IF_ZERO, v);
        }
        for (int code : new int[] {2, 3, 4, 5, 6, 7, 8, 9, 12}) {
            for (int v : new int[] {MIN, -1, 1, MAX}) {
                cannotBe(code, v);
            }
        }
    }

    private static void cannotBe(int code, int v) {
        refused(RefusalTest::inUse, "operation(6, " + code + ", " + v + ")", ARGUMENT, x -> x.operation(6, code, v));
    }

    /** "IllegalStateException if it has 16". */
    private static void operationSeventeen() {
        for (int r = 0; r < 12; r++) {
            int rule = r;
            refused(RefusalTest::fullOfRules, "operation 16 of rule " + r, STATE, x -> x.operation(rule, NUMBER, 1));
        }
    }

    /** "or its edition has started": its starts and its plain rules. */
    private static void operationOfStartedEdition() {
        for (int r = 0; r < 6; r++) {
            int rule = r;
            refused(RefusalTest::inUse, "operation of started rule " + r, STATE, x -> x.operation(rule, END, 0));
        }
    }

    // ---- promises 4 to 7

    /** "false if there is none such, or the value can't be". */
    private static void noField(State state) {
        for (int f : new int[] {MIN, -1, 8, MAX}) {
            refused(state, "field(" + f + ", 1)", REFUSED, x -> x.field(f, 1));
        }
        for (int v : new int[] {MIN, -1001, 1001, MAX}) {
            for (int f : new int[] {0, 7}) {
                refused(state, "field(" + f + ", " + v + ")", REFUSED, x -> x.field(f, v));
            }
        }
    }

    /** "false if it is not 0 .. 999". */
    private static void noTapeNumber(State state) {
        for (int v : new int[] {MIN, -1, 1000, MAX}) {
            refused(state, "tape(" + v + ")", REFUSED, x -> x.tape(v));
        }
    }

    /** "or 60 came": numbers that were taken have come too. */
    private static void tapeNumberSixtyOne() {
        refused(RefusalTest::fullOfRules, "tape number 60", REFUSED, x -> x.tape(0));
        State taken = x -> {
            for (int i = 0; i < 60; i++) {
                x.tape(i);
            }
            for (int c = 0; c < 5; c++) {
                x.ask(0);
            }
        };
        refused(taken, "tape number 60 with 5 taken", REFUSED, x -> x.tape(0));
    }

    /** "false if down is not 1 .. 1000, or up not 0 .. down". */
    private static void noShare(State state) {
        for (int down : new int[] {MIN, -1, 0, 1001, MAX}) {
            for (int up : new int[] {MIN, -1, 0, 1, 1000, MAX}) {
                refused(state, "share(" + up + ", " + down + ")", REFUSED, x -> x.share(up, down));
            }
        }
        for (int down : new int[] {1, 2, 1000}) {
            for (int up : new int[] {MIN, -1, down + 1, MAX}) {
                refused(state, "share(" + up + ", " + down + ")", REFUSED, x -> x.share(up, down));
            }
        }
    }

    /** "false if there is none such, or it is not 0 .. 20". */
    private static void noCap(State state) {
        for (int o : new int[] {MIN, -1, 4, MAX}) {
            refused(state, "cap(" + o + ", 3)", REFUSED, x -> x.cap(o, 3));
        }
        for (int n : new int[] {MIN, -1, 21, MAX}) {
            for (int o = 0; o < 4; o++) {
                int office = o;
                refused(state, "cap(" + o + ", " + n + ")", REFUSED, x -> x.cap(office, n));
            }
        }
    }

    // ---- promises 8 and 9

    /** "IllegalArgumentException if there is no such office": no start, no run and no number of the tape. */
    private static void noOfficeToAsk(State state) {
        for (int o : new int[] {MIN, -1, 4, MAX}) {
            refused(state, "ask(" + o + ")", ARGUMENT, x -> x.ask(o));
        }
    }

    /** "IllegalStateException if there are 40 cases": no start, no run and no number of the tape. */
    private static void caseFortyOne() {
        for (int o = 0; o < 4; o++) {
            int office = o;
            refused(RefusalTest::fullOfCases, "case 40 of office " + o, STATE, x -> x.ask(office));
        }
    }

    /** "IllegalArgumentException if there is no such office". */
    private static void noOfficeToDecide(State state) {
        for (int o : new int[] {MIN, -1, 4, MAX}) {
            refused(state, "decide(" + o + ")", ARGUMENT, x -> x.decide(o));
        }
    }

    // ---- promises 10 to 14

    /** "IndexOutOfBoundsException if there is none such, or no such what", of a case. */
    private static void noCase(State state) {
        int size = size(state, 1);
        for (int c : new int[] {MIN, -1, size, 40, MAX}) {
            refused(state, "of(" + c + ", 0)", INDEX, x -> x.of(c, 0));
        }
        for (int what : new int[] {MIN, -1, 5, MAX}) {
            refused(state, "of(0, " + what + ")", INDEX, x -> x.of(0, what));
            refused(state, "of(last, " + what + ")", INDEX, x -> x.of(size - 1, what));
        }
    }

    /** The same of a failure; those behind the first 60 are not kept. */
    private static void noFailure(State state) {
        int size = Math.min(60, size(state, 2));
        for (int i : new int[] {MIN, -1, size, 60, 61, MAX}) {
            refused(state, "failed(" + i + ", 0)", INDEX, x -> x.failed(i, 0));
        }
        for (int what : new int[] {MIN, -1, 4, MAX}) {
            refused(state, "failed(0, " + what + ")", INDEX, x -> x.failed(0, what));
            refused(state, "failed(last, " + what + ")", INDEX, x -> x.failed(size - 1, what));
        }
    }

    /** The same of an edition. */
    private static void noEdition(State state) {
        for (int e : new int[] {MIN, -1, 4, MAX}) {
            refused(state, "edition(" + e + ", 0)", INDEX, x -> x.edition(e, 0));
        }
        for (int what : new int[] {MIN, -1, 3, MAX}) {
            refused(state, "edition(0, " + what + ")", INDEX, x -> x.edition(0, what));
            refused(state, "edition(3, " + what + ")", INDEX, x -> x.edition(3, what));
        }
    }

    /** The same of a rule. */
    private static void noRule(State state) {
        int size = size(state, 0);
        for (int r : new int[] {MIN, -1, size, 12, MAX}) {
            refused(state, "look(" + r + ", 0)", INDEX, x -> x.look(r, 0));
        }
        for (int what : new int[] {MIN, -1, 5, MAX}) {
            refused(state, "look(0, " + what + ")", INDEX, x -> x.look(0, what));
            refused(state, "look(last, " + what + ")", INDEX, x -> x.look(size - 1, what));
        }
    }

    /** "NONE for another what or field". */
    private static void noCount(State state) {
        for (int what : new int[] {MIN, MIN + 9, MIN + 10, MIN + 17, -1, 5, 6, 7, 8, 9, 18, 19, MAX}) {
            refused(state, "count(" + what + ")", NONE, x -> x.count(what));
        }
    }

    private static int size(State state, int what) {
        RiskHouse x = new RiskHouse(50);
        state.make(x);
        return x.count(what);
    }

    // ---- "Of several exceptions the one told first is thrown."

    private static void firstToldExceptionIsThrown() {
        State rules = RefusalTest::fullOfRules;
        State used = RefusalTest::inUse;
        State cases = RefusalTest::fullOfCases;
        refused(rules, "no edition, and 12 rules", ARGUMENT, x -> x.rule(4, false));
        refused(rules, "no code, and 16 operations", ARGUMENT, x -> x.operation(0, 13, 0));
        refused(rules, "no such v, and 16 operations", ARGUMENT, x -> x.operation(11, FIELD, 8));
        refused(used, "no code, and the edition has started", ARGUMENT, x -> x.operation(0, -1, 0));
        refused(used, "no such v, and the edition has started", ARGUMENT, x -> x.operation(0, END, 1));
        refused(used, "no such v, and the edition is barred", ARGUMENT, x -> x.operation(3, NUMBER, 1001));
        refused(cases, "no office, and 40 cases", ARGUMENT, x -> x.ask(-1));
    }

    /** A call that only tells changes nothing either. */
    private static void looksChangeNothing() {
        for (Call look : LOOKS) {
            RiskHouse x = new RiskHouse(50);
            inUse(x);
            refused(RefusalTest::inUse, "a look", answer(x, look), look);
        }
    }
}
