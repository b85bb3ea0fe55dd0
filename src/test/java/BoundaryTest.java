import java.util.Arrays;

/**
 * The sentences of the document that name a boundary case, each with a test of its own (the sentence
 * stands above it). What a refused call must leave alone is RefusalTest's.
 */
public final class BoundaryTest {
    private static final int NUMBER = 0, FIELD = 1, CELL = 2, KEEP = 3, ADD = 4, SUBTRACT = 5, MULTIPLY = 6,
            DIVIDE = 7, REST = 8, LESS = 9, GO_TO = 10, IF_ZERO = 11, END = 12;
    private static final int MIN = Integer.MIN_VALUE, MAX = Integer.MAX_VALUE;
    private static final int STEPS = 1, BY_ZERO = 2, STACK = 3;

    /** -512 * 512 * 128 * 64 is the least int. */
    private static final int[] LEAST = {NUMBER, -512, NUMBER, 512, MULTIPLY, 0, NUMBER, 128, MULTIPLY, 0, NUMBER, 64, MULTIPLY, 0};
    private static final int[] GREATEST = with(LEAST, NUMBER, 1, SUBTRACT, 0);
    private static final int[] EIGHT = {NUMBER, 1, NUMBER, 2, NUMBER, 3, NUMBER, 4, NUMBER, 5, NUMBER, 6, NUMBER, 7, NUMBER, 8};
    private static final int[] JOINING = {ADD, SUBTRACT, MULTIPLY, DIVIDE, REST, LESS};

    private static int wrong = 0;

    public static void main(String[] args) {
        house();
        operations();
        runs();
        failures();
        editions();
        cases();
        paths();
        decisions();
        answers();
        System.out.println(wrong == 0 ? "all answers are as due" : wrong + " answers are not as due");
        if (wrong != 0) {
            System.exit(1);
        }
    }

    private static void house() {
        objectServesFor512Calls();
        stepsAreHeld();
        noStepsAtAll();
        theMostSteps();
        fieldsAndTheirValues();
        cellsAtFirst();
        twelveRulesAtMost();
    }

    private static void operations() {
        oneToSixteenOperations();
        numbersOfOperations();
        fieldsOfOperations();
        placesToGoTo();
        additionWrapsAround();
        subtractionWrapsAround();
        multiplicationWrapsAround();
        divisionTowardsZero();
        restTowardsZero();
        theLeastIntDivided();
        lessIsOneOrZero();
        keepTakesTheTop();
    }

    private static void runs() {
        runBeginsWithAnEmptyStack();
        runEndsAtEnd();
        runEndsBehindTheLastOperation();
        ifZeroTakesTheTop();
        everyOperationIsAStep();
        valueIsTheTopOrZero();
    }

    private static void failures() {
        failsIfMoreStepsWouldBeMade();
        failsAtDivisionByZero();
        failsIfItTakesFromAnEmptyStack();
        failsIfItPutsOnAStackOfEight();
        keptAheadOfFailureStays();
        firstSixtyFailuresAreKept();
    }

    private static void editions() {
        editionStartsBehindItsFirstRule();
        severalStartByTheirNumbers();
        startsRunOnce();
        startsBehindAFailureDoNotRun();
        nothingIsToldToAStartedEdition();
    }

    private static void cases() {
        plainRulesRunByNumber();
        pointsOfARuleAreHeld();
        pointsOfACaseAreHeld();
        ruleThatFailsGivesNone();
        fortyCases();
    }

    private static void paths() {
        pathByPoints();
        shareAtFirst();
        shareIsExact();
        sharesThatCanBe();
        chanceOnlyFromPathZero();
        chanceOnlyWithANumber();
        sixtyTapeNumbers();
    }

    private static void decisions() {
        capAtFirst();
        capsThatCanBe();
        greatestPointsFirst();
        ofEqualOnesTheFirstAsked();
        onlyThoseNotDecided();
        anOfficeWithoutCases();
    }

    private static void answers() {
        pathIsNoneTillDecided();
        failedRulesAsBits();
        caseOfAFailedStart();
        statesOfAnEdition();
        latestRunThatDidNotFail();
        countsAndFields();
    }

    // ---- helpers

    private static void due(String name, long got, long want) {
        if (got != want) {
            wrong++;
            System.out.println(name + " answered " + got + ", due is " + want);
        }
    }

    private static void due(String name, boolean got, boolean want) {
        due(name, got ? 1 : 0, want ? 1 : 0);
    }

    private interface Call {
        int answer();
    }

    private static void thrown(String name, Class<?> want, Call call) {
        String got;
        try {
            got = "answered " + call.answer();
        } catch (RuntimeException e) {
            if (e.getClass() == want) {
                return;
            }
            got = "threw " + e;
        }
        wrong++;
        System.out.println(name + " " + got + ", due is " + want.getSimpleName());
    }

    private static int[] with(int[] head, int... tail) {
        int[] all = Arrays.copyOf(head, head.length + tail.length);
        System.arraycopy(tail, 0, all, head.length, tail.length);
        return all;
    }

    /** One more rule with operations given as pairs of a code and a number. */
    private static int rule(RiskHouse x, int edition, boolean start, int... pairs) {
        int r = x.rule(edition, start);
        for (int i = 0; i + 1 < pairs.length; i += 2) {
            due("operation " + i / 2 + " of rule " + r, x.operation(r, pairs[i], pairs[i + 1]), i / 2 + 1);
        }
        return r;
    }

    /** A house with one plain rule that has run once. */
    private static RiskHouse asked(int steps, int... pairs) {
        RiskHouse x = new RiskHouse(steps);
        rule(x, 0, false, pairs);
        x.ask(0);
        return x;
    }

    private static void value(String name, int want, int... pairs) {
        RiskHouse x = asked(100, pairs);
        due(name + ": failures", x.count(2), 0);
        due(name + ": value", x.look(0, 3), want);
        due(name + ": points", x.of(0, 1), Math.max(0, Math.min(100, want)));
        due(name + ": bits", x.of(0, 4), 0);
    }

    private static void fails(String name, int steps, int which, int operation, int made, int... pairs) {
        RiskHouse x = asked(steps, pairs);
        due(name + ": failures", x.count(2), 1);
        if (x.count(2) == 1) {
            due(name + ": rule", x.failed(0, 0), 0);
            due(name + ": which", x.failed(0, 1), which);
            due(name + ": operation", x.failed(0, 2), operation);
            due(name + ": case", x.failed(0, 3), 0);
        }
        due(name + ": steps", x.look(0, 4), made);
        due(name + ": value", x.look(0, 3), 0);
        due(name + ": points", x.of(0, 1), 0);
        due(name + ": bits", x.of(0, 4), 1);
    }

    /** A house in which a case has the points of field 0. */
    private static RiskHouse fieldHouse() {
        RiskHouse x = new RiskHouse(100);
        rule(x, 0, false, FIELD, 0);
        return x;
    }

    private static int askWith(RiskHouse x, int office, int points) {
        x.field(0, points);
        return x.ask(office);
    }

    private static void paths(String name, RiskHouse x, int... want) {
        for (int c = 0; c < want.length; c++) {
            due(name + ": path of case " + c, x.of(c, 2), want[c]);
        }
    }

    // ---- "An object is used for at most 512 calls after it has been made"

    private static void objectServesFor512Calls() {
        RiskHouse x = new RiskHouse(1);
        for (int i = 0; i < 511; i++) {
            x.field(i % 8, i);
        }
        due("the 512th call", x.count(10 + 510 % 8), 510);
        RiskHouse y = fieldHouse();
        for (int i = 2; i < 511; i++) {
            due("call " + i, y.field(0, i), true);
        }
        due("the 512th call asks", y.ask(0), 100);
    }

    // ---- "So many steps a run (0 .. 65536, held to that)"

    private static void stepsAreHeld() {
        int[][] held = {{MIN, 0}, {-65536, 0}, {-1, 0}, {0, 0}, {1, 1}, {2, 2}, {65535, 65535}, {65536, 65536}, {65537, 65536}, {131072, 65536}, {MAX, 65536}};
        for (int[] h : held) {
            fails("steps " + h[0], h[0], STEPS, h[1] % 3, h[1], GO_TO, 1, GO_TO, 2, GO_TO, 0);
        }
    }

    private static void noStepsAtAll() {
        for (int steps : new int[] {MIN, -1, 0}) {
            fails("END without a step", steps, STEPS, 0, 0, END, 0);
            fails("GO TO without a step", steps, STEPS, 0, 0, GO_TO, 16);
            RiskHouse x = new RiskHouse(steps);
            int start = rule(x, 2, true, NUMBER, 1);
            int plain = rule(x, 2, false, NUMBER, 1);
            due("a start without a step: points", x.ask(0), 0);
            due("a start without a step: barred", x.edition(2, 1), 2);
            due("a start without a step: steps", x.look(start, 4), 0);
            due("the plain rule of it: failures", x.count(2), 1);
            due("the plain rule of it: steps", x.look(plain, 4), 0);
        }
    }

    /** A cell counted down from 9362 makes 7 steps a round and 2 at the end: 65536, or one more with END. */
    private static void theMostSteps() {
        for (int steps : new int[] {65535, 65536, 65537, MAX}) {
            for (int extra = 0; extra < 2; extra++) {
                RiskHouse x = new RiskHouse(steps);
                rule(x, 0, true, NUMBER, 62, NUMBER, 151, MULTIPLY, 0, KEEP, 0);
                int r = rule(x, 0, false, CELL, 0, IF_ZERO, 7, CELL, 0, NUMBER, 1, SUBTRACT, 0, KEEP, 0, GO_TO, 0);
                if (extra == 1) {
                    x.operation(r, END, 0);
                }
                x.ask(0);
                boolean enough = 65536 + extra <= Math.min(65536, steps);
                String name = 65536 + extra + " steps of " + steps;
                due(name + ": failures", x.count(2), enough ? 0 : 1);
                due(name + ": made", x.look(r, 4), Math.min(65536, steps));
                due(name + ": cell", x.edition(0, 0), 0);
                if (!enough) {
                    due(name + ": which", x.failed(0, 1), STEPS);
                    due(name + ": operation", x.failed(0, 2), extra == 1 && steps > 65535 ? 7 : 1);
                }
            }
        }
    }

    // ---- "FIELDS 0 .. 7 have values (-1000 .. 1000; 0 at first)"

    private static void fieldsAndTheirValues() {
        for (int f = 0; f < 8; f++) {
            RiskHouse x = new RiskHouse(10);
            due("field " + f + " at first", x.count(10 + f), 0);
            int r = rule(x, 0, false, FIELD, f);
            x.ask(0);
            due("a run sees field " + f + " at first", x.look(r, 3), 0);
            for (int v : new int[] {-1000, -999, -1, 0, 1, 999, 1000}) {
                due("field(" + f + ", " + v + ")", x.field(f, v), true);
                due("field " + f, x.count(10 + f), v);
                x.ask(0);
                due("a run sees field " + f, x.look(r, 3), v);
            }
            for (int other = 0; other < 8; other++) {
                due("field " + other + " beside " + f, x.count(10 + other), other == f ? 1000 : 0);
            }
            due("field(" + f + ", 1001)", x.field(f, 1001), false);
            due("field(" + f + ", -1001)", x.field(f, -1001), false);
            due("field " + f + " behind what was refused", x.count(10 + f), 1000);
        }
        RiskHouse x = new RiskHouse(10);
        due("field(-1, 0)", x.field(-1, 0), false);
        due("field(8, 0)", x.field(8, 0), false);
    }

    // ---- "EDITIONS 0 .. 3 have a CELL each (0 at first)"

    private static void cellsAtFirst() {
        RiskHouse x = new RiskHouse(10);
        for (int e = 0; e < 4; e++) {
            due("cell " + e + " at first", x.edition(e, 0), 0);
            rule(x, e, true, CELL, 0);
            rule(x, e, false, CELL, 0, NUMBER, e + 3, ADD, 0, KEEP, 0);
        }
        x.ask(0);
        x.ask(0);
        for (int e = 0; e < 4; e++) {
            due("a start sees cell " + e + " at first", x.look(2 * e, 3), 0);
            due("cell " + e + " is its own", x.edition(e, 0), 2 * (e + 3));
        }
    }

    // ---- "RULES 0, 1, .. (12 at most)"; "IllegalStateException if there are 12"

    private static void twelveRulesAtMost() {
        for (int e = 0; e < 4; e++) {
            int edition = e;
            RiskHouse x = new RiskHouse(10);
            for (int r = 0; r < 12; r++) {
                due("rules ahead of rule " + r, x.count(0), r);
                due("rule " + r + " of edition " + e, x.rule(e, r % 2 == 1), r);
            }
            thrown("rule 12 of edition " + e, IllegalStateException.class, () -> x.rule(edition, false));
            thrown("rule 12 of another edition", IllegalStateException.class, () -> x.rule(3 - edition, false));
            due("rules", x.count(0), 12);
            due("rules of edition " + e, x.edition(e, 2), 12);
            due("rules of another edition", x.edition(3 - e, 2), 0);
            due("the last rule's edition", x.look(11, 0), e);
            due("the last rule is a start", x.look(11, 1), 1);
            due("the one ahead is not", x.look(10, 1), 0);
            due("the last rule takes operations", x.operation(11, END, 0), 1);
        }
        RiskHouse y = new RiskHouse(10);
        thrown("rule(-1, true)", IllegalArgumentException.class, () -> y.rule(-1, true));
        thrown("rule(4, true)", IllegalArgumentException.class, () -> y.rule(4, true));
        due("no rule came of it", y.count(0), 0);
    }

    // ---- "a row of 1 to 16 OPERATIONS 0, 1, .."; "IllegalStateException if it has 16"

    private static void oneToSixteenOperations() {
        for (int many = 1; many <= 16; many++) {
            RiskHouse x = new RiskHouse(100);
            x.rule(0, false);
            for (int i = 0; i + 1 < many; i++) {
                due("operation " + i, x.operation(0, GO_TO, i + 1), i + 1);
            }
            due("operation " + (many - 1), x.operation(0, NUMBER, many), many);
            due("operations", x.look(0, 2), many);
            due("points of " + many + " operations", x.ask(0), many);
            due("steps of " + many + " operations", x.look(0, 4), many);
        }
        RiskHouse full = new RiskHouse(100);
        full.rule(1, false);
        full.rule(1, false);
        for (int i = 0; i < 16; i++) {
            full.operation(0, END, 0);
        }
        thrown("operation 16", IllegalStateException.class, () -> full.operation(0, END, 0));
        due("operations stay 16", full.look(0, 2), 16);
        due("those of the next rule", full.look(1, 2), 0);
        due("the next rule takes one", full.operation(1, NUMBER, 2), 1);
        due("points", full.ask(0), 2);
    }

    // ---- "0 NUMBER: v (-1000 .. 1000) is put on the stack"

    private static void numbersOfOperations() {
        for (int v : new int[] {-1000, -999, -1, 0, 1, 999, 1000}) {
            value("NUMBER " + v, v, NUMBER, v);
        }
        cannotBe(NUMBER, MIN, -1001, 1001, MAX);
    }

    /** "IllegalArgumentException if there is no such rule or code, or v can't be" */
    private static void cannotBe(int code, int... vs) {
        RiskHouse x = new RiskHouse(10);
        x.rule(0, false);
        for (int v : vs) {
            thrown("operation(0, " + code + ", " + v + ")", IllegalArgumentException.class, () -> x.operation(0, code, v));
        }
        due("operations behind code " + code, x.look(0, 2), 0);
    }

    // ---- "1 FIELD v (0 .. 7)"; "(v of 2 to 9 and 12 is 0)"; no other code

    private static void fieldsOfOperations() {
        for (int f = 0; f < 8; f++) {
            RiskHouse x = new RiskHouse(10);
            for (int g = 0; g < 8; g++) {
                x.field(g, 10 + g);
            }
            rule(x, 0, false, FIELD, f);
            due("FIELD " + f, x.ask(0), 10 + f);
        }
        cannotBe(FIELD, MIN, -1, 8, MAX);
        for (int code : new int[] {CELL, KEEP, ADD, SUBTRACT, MULTIPLY, DIVIDE, REST, LESS, END}) {
            cannotBe(code, MIN, -1, 1, MAX);
            RiskHouse x = new RiskHouse(10);
            x.rule(0, false);
            due("operation(0, " + code + ", 0)", x.operation(0, code, 0), 1);
        }
        for (int code : new int[] {MIN, -1, 13, MAX}) {
            cannotBe(code, -1, 0, 1);
        }
        RiskHouse none = new RiskHouse(10);
        for (int r : new int[] {MIN, -1, 0, 1, 12, MAX}) {
            thrown("operation(" + r + ", 0, 0)", IllegalArgumentException.class, () -> none.operation(r, NUMBER, 0));
        }
    }

    // ---- "10 GO TO operation v (0 .. 16); 11 IF ZERO"

    private static void placesToGoTo() {
        cannotBe(GO_TO, MIN, -1, 17, MAX);
        cannotBe(IF_ZERO, MIN, -1, 17, MAX);
        for (int v = 0; v <= 16; v++) {
            RiskHouse x = new RiskHouse(10);
            x.rule(0, false);
            due("GO TO " + v, x.operation(0, GO_TO, v), 1);
            due("IF ZERO " + v, x.operation(0, IF_ZERO, v), 2);
        }
        for (int v = 2; v <= 15; v++) {
            value("GO TO reaches operation " + v, 10 + v, onlyPlace(v, GO_TO));
            value("IF ZERO reaches operation " + v, 10 + v, onlyPlace(v, IF_ZERO));
        }
        fails("GO TO 0", 5, STEPS, 1, 5, GO_TO, 1, GO_TO, 0);
        fails("GO TO 1", 5, STEPS, 1, 5, NUMBER, 1, GO_TO, 1);
    }

    /** 16 operations of which only the one at a place puts what counts, and all others end the run. */
    private static int[] onlyPlace(int v, int going) {
        int[] row = new int[32];
        for (int i = 0; i < 16; i++) {
            row[2 * i] = GO_TO;
            row[2 * i + 1] = 16;
        }
        row[0] = NUMBER;
        row[1] = 0;
        row[2] = going;
        row[3] = v;
        row[2 * v] = NUMBER;
        row[2 * v + 1] = 10 + v;
        return row;
    }

    // ---- "ints that wrap around"

    private static void additionWrapsAround() {
        value("the greatest int and 1", MIN, with(GREATEST, NUMBER, 1, ADD, 0));
        value("the greatest int and 0", MAX, with(GREATEST, NUMBER, 0, ADD, 0));
        value("the least int and -1", MAX, with(LEAST, NUMBER, -1, ADD, 0));
        value("the least int twice", 0, with(LEAST, KEEP, 0, CELL, 0, CELL, 0, ADD, 0));
    }

    private static void subtractionWrapsAround() {
        value("1 less than the least int", MAX, GREATEST);
        value("the greatest int less -1", MIN, with(GREATEST, NUMBER, -1, SUBTRACT, 0));
        value("0 less the least int", MIN, with(LEAST, KEEP, 0, NUMBER, 0, CELL, 0, SUBTRACT, 0));
        value("the first less the second", 3, NUMBER, 5, NUMBER, 2, SUBTRACT, 0);
    }

    private static void multiplicationWrapsAround() {
        value("the least int by -1", MIN, with(LEAST, NUMBER, -1, MULTIPLY, 0));
        value("the least int by 2", 0, with(LEAST, NUMBER, 2, MULTIPLY, 0));
        value("the greatest int by 2", -2, with(GREATEST, NUMBER, 2, MULTIPLY, 0));
        value("1000 by 1000 by 1000 by 1000", (int) 1_000_000_000_000L, NUMBER, 1000, NUMBER, 1000, MULTIPLY, 0,
                NUMBER, 1000, MULTIPLY, 0, NUMBER, 1000, MULTIPLY, 0);
    }

    // ---- "DIVIDE and REST towards 0"

    private static void divisionTowardsZero() {
        int[][] rows = {{7, 2, 3}, {-7, 2, -3}, {7, -2, -3}, {-7, -2, 3}, {1, 2, 0}, {-1, 2, 0}, {1, -2, 0}, {0, -5, 0}, {1000, 1000, 1}, {-1000, 1000, -1}, {999, 1000, 0}, {-999, 1000, 0}};
        for (int[] row : rows) {
            value(row[0] + " / " + row[1], row[2], NUMBER, row[0], NUMBER, row[1], DIVIDE, 0);
        }
    }

    private static void restTowardsZero() {
        int[][] rows = {{7, 2, 1}, {-7, 2, -1}, {7, -2, 1}, {-7, -2, -1}, {1, 2, 1}, {-1, 2, -1}, {0, -5, 0}, {1000, 1000, 0}, {999, 1000, 999}, {-999, 1000, -999}, {-999, -1000, -999}};
        for (int[] row : rows) {
            value(row[0] + " % " + row[1], row[2], NUMBER, row[0], NUMBER, row[1], REST, 0);
        }
    }

    private static void theLeastIntDivided() {
        value("the least int / -1", MIN, with(LEAST, NUMBER, -1, DIVIDE, 0));
        value("the least int % -1", 0, with(LEAST, NUMBER, -1, REST, 0));
        value("the least int / 1", MIN, with(LEAST, NUMBER, 1, DIVIDE, 0));
        value("the least int / 1000", MIN / 1000, with(LEAST, NUMBER, 1000, DIVIDE, 0));
        value("the least int % 1000", MIN % 1000, with(LEAST, NUMBER, 1000, REST, 0));
        value("1 / the least int", 0, with(LEAST, KEEP, 0, NUMBER, 1, CELL, 0, DIVIDE, 0));
        value("1 % the least int", 1, with(LEAST, KEEP, 0, NUMBER, 1, CELL, 0, REST, 0));
        value("the least int / itself", 1, with(LEAST, KEEP, 0, CELL, 0, CELL, 0, DIVIDE, 0));
    }

    // ---- "LESS 1 or 0"

    private static void lessIsOneOrZero() {
        int[][] rows = {{2, 3, 1}, {3, 3, 0}, {3, 2, 0}, {-1, 0, 1}, {0, 0, 0}, {0, -1, 0}, {-1000, 1000, 1}, {1000, -1000, 0}};
        for (int[] row : rows) {
            value(row[0] + " < " + row[1], row[2], NUMBER, row[0], NUMBER, row[1], LESS, 0);
        }
        value("the least int < the greatest", 1, with(LEAST, KEEP, 0, CELL, 0, CELL, 0, NUMBER, 1, SUBTRACT, 0, LESS, 0));
        value("the greatest int < the least", 0, with(LEAST, KEEP, 0, CELL, 0, NUMBER, 1, SUBTRACT, 0, CELL, 0, LESS, 0));
    }

    // ---- "3 KEEP: the top is taken and becomes the edition's cell"

    private static void keepTakesTheTop() {
        RiskHouse x = asked(100, with(LEAST, KEEP, 0));
        due("the least int is kept", x.edition(0, 0), MIN);
        due("and taken", x.look(0, 3), 0);
        RiskHouse y = asked(100, NUMBER, 3, NUMBER, 4, KEEP, 0);
        due("the top is kept", y.edition(0, 0), 4);
        due("the next is left", y.look(0, 3), 3);
    }

    // ---- "A RUN of a rule begins at operation 0 with an empty stack"

    private static void runBeginsWithAnEmptyStack() {
        RiskHouse x = new RiskHouse(100);
        rule(x, 0, false, EIGHT);
        rule(x, 0, false, KEEP, 0);
        rule(x, 0, false, EIGHT);
        rule(x, 0, false, END, 0);
        for (int c = 0; c < 2; c++) {
            due("points of case " + c, x.ask(0), 16);
            due("failures of case " + c, x.of(c, 4), 2);
            due("a full stack once more", x.look(2, 3), 8);
            due("an empty one behind it", x.look(3, 3), 0);
        }
        // A run that failed with a full stack leaves nothing to the next either.
        RiskHouse y = new RiskHouse(100);
        rule(y, 0, false, with(EIGHT, NUMBER, 9));
        rule(y, 0, false, EIGHT);
        rule(y, 0, false, IF_ZERO, 1, NUMBER, 5);
        due("points behind a failure", y.ask(0), 8);
        due("failures", y.of(0, 4), 5);
    }

    // ---- "and ends at END or behind the last operation"

    private static void runEndsAtEnd() {
        value("END alone", 0, END, 0);
        value("END ahead of others", 4, NUMBER, 4, END, 0, NUMBER, 5);
        value("END as the last", 4, NUMBER, 4, END, 0);
        due("steps to END", asked(100, NUMBER, 4, END, 0, NUMBER, 5).look(0, 4), 2);
        int[] sixteen = new int[32];
        for (int i = 0; i < 15; i++) {
            sixteen[2 * i] = GO_TO;
            sixteen[2 * i + 1] = i + 1;
        }
        sixteen[30] = END;
        value("END as operation 15", 0, sixteen);
        due("steps to END as operation 15", asked(16, sixteen).look(0, 4), 16);
    }

    private static void runEndsBehindTheLastOperation() {
        value("right behind the last", 1, NUMBER, 1, GO_TO, 3, NUMBER, 2);
        value("the last itself", 2, NUMBER, 1, GO_TO, 2, NUMBER, 2);
        for (int v = 2; v <= 16; v++) {
            value("GO TO " + v + " of 2 operations", 1, NUMBER, 1, GO_TO, v);
            due("its steps", asked(2, NUMBER, 1, GO_TO, v).look(0, 4), 2);
            value("IF ZERO " + v + " of 3 operations", 7, NUMBER, 7, NUMBER, 0, IF_ZERO, Math.max(3, v));
        }
        value("GO TO 16 of 16 operations", 7, NUMBER, 7, GO_TO, 16, ADD, 0, ADD, 0, ADD, 0, ADD, 0, ADD, 0, ADD, 0,
                ADD, 0, ADD, 0, ADD, 0, ADD, 0, ADD, 0, ADD, 0, ADD, 0, ADD, 0);
        value("GO TO 15 of 16 operations", 9, GO_TO, 15, ADD, 0, ADD, 0, ADD, 0, ADD, 0, ADD, 0, ADD, 0,
                ADD, 0, ADD, 0, ADD, 0, ADD, 0, ADD, 0, ADD, 0, ADD, 0, ADD, 0, NUMBER, 9);
        value("no operation at all", 0);
        due("steps of no operation", asked(100).look(0, 4), 0);
        due("no operation in a house of no steps", asked(0).count(2), 0);
    }

    // ---- "11 IF ZERO: the top is taken; go to operation v if it is 0"

    private static void ifZeroTakesTheTop() {
        value("0 goes", 9, NUMBER, 9, NUMBER, 0, IF_ZERO, 4, NUMBER, 1);
        for (int v : new int[] {-1000, -1, 1, 1000}) {
            value(v + " goes on", 1, NUMBER, 9, NUMBER, v, IF_ZERO, 4, NUMBER, 1);
            value(v + " is taken", 9, NUMBER, 9, NUMBER, v, IF_ZERO, 0);
        }
        value("the least int goes on", 1, with(LEAST, IF_ZERO, 16, NUMBER, 1));
        // Back to operation 0 with an empty stack: the second round finds the cell kept.
        value("0 goes back", 6, CELL, 0, NUMBER, 6, KEEP, 0, IF_ZERO, 0, CELL, 0);
    }

    // ---- "Each operation is a STEP"

    private static void everyOperationIsAStep() {
        int[] all = {NUMBER, 1, FIELD, 0, CELL, 0, KEEP, 0, ADD, 0, NUMBER, 1, SUBTRACT, 0, NUMBER, 1, MULTIPLY, 0, NUMBER, 1, DIVIDE, 0,
            NUMBER, 2, LESS, 0, IF_ZERO, 14, GO_TO, 15, END, 0};
        due("steps of all", asked(100, all).look(0, 4), 16);
        due("failures of all", asked(16, all).count(2), 0);
        fails("a step too few for all", 15, STEPS, 15, 15, all);
    }

    // ---- "Its VALUE is the top of the stack at the end (0 if that is empty)"

    private static void valueIsTheTopOrZero() {
        value("empty at the end", 0, NUMBER, 5, KEEP, 0);
        value("empty at END", 0, NUMBER, 5, IF_ZERO, 0, END, 0);
        value("one left", 5, NUMBER, 5);
        value("the top of two", -6, NUMBER, 5, NUMBER, -6);
        value("the top of eight", 8, EIGHT);
        value("the least int", MIN, LEAST);
        value("the greatest int", MAX, GREATEST);
    }

    // ---- "It FAILS: 1 if more steps than those of the house would be made"

    private static void failsIfMoreStepsWouldBeMade() {
        int[] sum = {NUMBER, 1, NUMBER, 2, ADD, 0};
        for (int steps = 0; steps < 3; steps++) {
            fails("3 steps of " + steps, steps, STEPS, steps, steps, sum);
        }
        for (int steps = 3; steps < 5; steps++) {
            due("3 steps of " + steps + ": points", asked(steps, sum).of(0, 1), 3);
            due("3 steps of " + steps + ": failures", asked(steps, sum).count(2), 0);
        }
        due("GO TO behind the last as the last step", asked(2, NUMBER, 1, GO_TO, 16, ADD, 0).count(2), 0);
        due("IF ZERO behind the last as the last step", asked(2, NUMBER, 0, IF_ZERO, 16, ADD, 0).count(2), 0);
        due("END as the last step", asked(2, NUMBER, 1, END, 0, ADD, 0).count(2), 0);
        fails("END as a step too many", 1, STEPS, 1, 1, NUMBER, 1, END, 0);
        fails("a failing operation as a step too many", 1, STEPS, 1, 1, NUMBER, 1, ADD, 0);
        fails("a failing operation as the last step", 2, STACK, 1, 2, NUMBER, 1, ADD, 0);
        fails("a division by 0 as a step too many", 2, STEPS, 2, 2, NUMBER, 1, NUMBER, 0, DIVIDE, 0);
        fails("round and round", 7, STEPS, 1, 7, NUMBER, 1, KEEP, 0, GO_TO, 0);
        // Every run has all the steps of the house.
        RiskHouse x = new RiskHouse(2);
        for (int r = 0; r < 3; r++) {
            rule(x, 0, r == 0, NUMBER, 4, NUMBER, 5);
        }
        due("each run has its own steps", x.ask(0), 10);
        due("and in the next case too", x.ask(0), 10);
    }

    // ---- "2 at a division (or rest) by 0"

    private static void failsAtDivisionByZero() {
        for (int code : new int[] {DIVIDE, REST}) {
            for (int v : new int[] {-1000, -1, 0, 1, 1000}) {
                fails("code " + code + " of " + v + " by 0", 100, BY_ZERO, 2, 3, NUMBER, v, NUMBER, 0, code, 0, NUMBER, 50);
            }
            fails("code " + code + " of the least int by 0", 100, BY_ZERO, 8, 9, with(LEAST, NUMBER, 0, code, 0));
            fails("code " + code + " by a field of 0", 100, BY_ZERO, 2, 3, NUMBER, 1, FIELD, 7, code, 0);
            fails("code " + code + " by a cell of 0", 100, BY_ZERO, 2, 3, NUMBER, 1, CELL, 0, code, 0);
            value("code " + code + " of 0 by 1", 0, NUMBER, 0, NUMBER, 1, code, 0);
            value("code " + code + " of 0 by -1", 0, NUMBER, 0, NUMBER, -1, code, 0);
        }
    }

    // ---- "3 if an operation takes from an empty stack"

    private static void failsIfItTakesFromAnEmptyStack() {
        for (int code : JOINING) {
            fails("code " + code + " on an empty stack", 100, STACK, 0, 1, code, 0, NUMBER, 50);
            fails("code " + code + " on a stack of one", 100, STACK, 1, 2, NUMBER, 7, code, 0, NUMBER, 50);
            fails("code " + code + " on a stack of one 0", 100, STACK, 1, 2, NUMBER, 0, code, 0);
            fails("code " + code + " on a stack emptied to one", 100, STACK, 3, 4, NUMBER, 7, NUMBER, 7, KEEP, 0, code, 0);
            due("code " + code + " on a stack of two", asked(100, NUMBER, 7, NUMBER, 7, code, 0).count(2), 0);
        }
        fails("KEEP on an empty stack", 100, STACK, 0, 1, KEEP, 0, NUMBER, 50);
        fails("KEEP on an emptied stack", 100, STACK, 2, 3, NUMBER, 1, KEEP, 0, KEEP, 0);
        fails("IF ZERO on an empty stack", 100, STACK, 0, 1, IF_ZERO, 1, NUMBER, 50);
        fails("IF ZERO on an emptied stack", 100, STACK, 2, 3, NUMBER, 0, IF_ZERO, 2, IF_ZERO, 3);
        value("those that take nothing", 0, GO_TO, 1, END, 0);
    }

    // ---- "or puts on one with 8"

    private static void failsIfItPutsOnAStackOfEight() {
        fails("NUMBER on a stack of 8", 100, STACK, 8, 9, with(EIGHT, NUMBER, 9));
        fails("FIELD on a stack of 8", 100, STACK, 8, 9, with(EIGHT, FIELD, 0));
        fails("CELL on a stack of 8", 100, STACK, 8, 9, with(EIGHT, CELL, 0));
        value("a stack of 8", 8, EIGHT);
        value("8 with a FIELD as the last", 0, with(Arrays.copyOf(EIGHT, 14), FIELD, 0));
        value("8 with a CELL as the last", 0, with(Arrays.copyOf(EIGHT, 14), CELL, 0));
        int[] joined = {15, -1, 56, 0, 7, 1};
        for (int i = 0; i < JOINING.length; i++) {
            value("code " + JOINING[i] + " on a stack of 8", joined[i], with(EIGHT, JOINING[i], 0));
            value("one more behind it", 9, with(EIGHT, JOINING[i], 0, NUMBER, 9));
            fails("two more behind it", 100, STACK, 10, 11, with(EIGHT, JOINING[i], 0, NUMBER, 9, NUMBER, 9));
        }
        value("KEEP makes room", 9, with(EIGHT, KEEP, 0, NUMBER, 9));
        value("IF ZERO makes room", 9, with(EIGHT, IF_ZERO, 0, NUMBER, 9));
        value("GO TO on a stack of 8", 8, with(EIGHT, GO_TO, 9));
        value("END on a stack of 8", 8, with(EIGHT, END, 0));
        fails("a number put again and again", 100, STACK, 0, 17, NUMBER, 1, GO_TO, 0);
    }

    // ---- "What it KEPT ahead of its failure stays"

    private static void keptAheadOfFailureStays() {
        int[][] failing = {{GO_TO, 2}, {NUMBER, 1, NUMBER, 0, DIVIDE, 0}, {KEEP, 0}};
        for (int[] tail : failing) {
            for (boolean start : new boolean[] {false, true}) {
                RiskHouse x = new RiskHouse(100);
                rule(x, 3, start, with(new int[] {NUMBER, 77, KEEP, 0}, tail));
                x.ask(0);
                due("failures", x.count(2), 1);
                due("kept ahead of a failure of code " + tail[0], x.edition(3, 0), 77);
            }
        }
        RiskHouse x = asked(100, NUMBER, 5, KEEP, 0, NUMBER, 6, KEEP, 0, ADD, 0, NUMBER, 7, KEEP, 0);
        due("the latest ahead of the failure", x.edition(0, 0), 6);
        RiskHouse y = asked(2, NUMBER, 5, KEEP, 0, NUMBER, 6, KEEP, 0);
        due("kept by the last step", y.edition(0, 0), 5);
        RiskHouse z = asked(1, NUMBER, 5, KEEP, 0);
        due("not kept by a step too many", z.edition(0, 0), 0);
    }

    // ---- "FAILURES are told in order (the first 60 are kept)"

    private static void firstSixtyFailuresAreKept() {
        RiskHouse x = new RiskHouse(10);
        for (int r = 0; r < 7; r++) {
            rule(x, r % 2, false, GO_TO, r % 3 + 1, NUMBER, 1, NUMBER, 2, ADD, 0, ADD, 0);
        }
        for (int c = 0; c < 8; c++) {
            x.ask(c % 4);
        }
        due("56 failures", x.count(2), 56);
        due("failure 55", x.failed(55, 0), 6);
        thrown("failure 56", IndexOutOfBoundsException.class, () -> x.failed(56, 0));
        for (int c = 8; c < 10; c++) {
            x.ask(c % 4);
        }
        for (int i = 0; i < 60; i++) {
            int r = i % 7;
            due("failure " + i + ": rule", x.failed(i, 0), r);
            due("failure " + i + ": which", x.failed(i, 1), STACK);
            due("failure " + i + ": operation", x.failed(i, 2), r % 3 == 0 ? 4 : 3);
            due("failure " + i + ": case", x.failed(i, 3), i / 7);
        }
        thrown("failure 60", IndexOutOfBoundsException.class, () -> x.failed(60, 0));
        due("bits of the case with the 60th", x.of(8, 4), 127);
        due("bits of the case behind it", x.of(9, 4), 127);
        due("failures told", x.count(2), 70);
    }

    // ---- "AN EDITION STARTS when the first case is asked behind its first rule"

    private static void editionStartsBehindItsFirstRule() {
        RiskHouse x = new RiskHouse(100);
        x.ask(0);
        for (int e = 0; e < 4; e++) {
            due("edition " + e + " without rules behind a case", x.edition(e, 1), 0);
            rule(x, e, e % 2 == 0, NUMBER, 10 + e);
            due("edition " + e + " with its first rule", x.edition(e, 1), 0);
            int mine = e;
            thrown("ask(4)", IllegalArgumentException.class, () -> x.ask(4));
            due("edition " + e + " behind a refused case", x.edition(e, 1), 0);
            due("one more rule ahead of the case", x.rule(e, false), 2 * e + 1);
            x.decide(0);
            due("edition " + e + " behind a decision", x.edition(e, 1), 0);
            x.ask(e);
            due("edition " + e + " behind its case", x.edition(mine, 1), 1);
        }
        RiskHouse bare = new RiskHouse(100);
        bare.rule(3, false);
        bare.ask(0);
        due("an edition with a rule of no operations", bare.edition(3, 1), 1);
    }

    // ---- "(several with one case by their numbers): its STARTS run, by number"

    private static void severalStartByTheirNumbers() {
        RiskHouse x = new RiskHouse(100);
        for (int r = 0; r < 8; r++) {
            rule(x, 3 - r % 4, true, r < 4 ? new int[] {CELL, 0, NUMBER, 1, ADD, 0, KEEP, 0} : new int[] {CELL, 0, ADD, 0});
        }
        rule(x, 0, false, ADD, 0);
        rule(x, 3, false, ADD, 0);
        x.ask(0);
        int[] failed = {7, 6, 5, 4};
        due("failures", x.count(2), 4);
        for (int i = 0; i < 4; i++) {
            due("failure " + i, x.failed(i, 0), failed[i]);
            due("edition " + i, x.edition(i, 1), 2);
            due("cell " + i, x.edition(i, 0), 1);
        }
        RiskHouse y = new RiskHouse(100);
        rule(y, 0, false, KEEP, 0);
        rule(y, 3, true, KEEP, 0);
        y.ask(0);
        due("a start runs ahead of plain rules", y.failed(0, 0), 1);
        due("and they behind it", y.failed(1, 0), 0);
        RiskHouse z = new RiskHouse(100);
        rule(z, 1, true, NUMBER, 2, KEEP, 0);
        rule(z, 1, true, CELL, 0, NUMBER, 10, MULTIPLY, 0, KEEP, 0);
        rule(z, 1, true, CELL, 0, NUMBER, 7, ADD, 0, KEEP, 0);
        z.ask(0);
        due("starts by number", z.edition(1, 0), 27);
    }

    // ---- "once"

    private static void startsRunOnce() {
        RiskHouse x = new RiskHouse(100);
        rule(x, 1, true, CELL, 0, NUMBER, 1, ADD, 0, KEEP, 0);
        for (int c = 0; c < 5; c++) {
            x.ask(c % 4);
            due("starts of case " + c, x.edition(1, 0), 1);
        }
        rule(x, 2, true, CELL, 0, NUMBER, 1, ADD, 0, KEEP, 0, ADD, 0);
        for (int c = 0; c < 3; c++) {
            x.ask(0);
            due("the first edition starts no more", x.edition(1, 0), 1);
            due("a barred edition starts no more", x.edition(2, 0), 1);
            due("failures", x.count(2), 1);
        }
    }

    // ---- "if one FAILS, the edition is BARRED from then on, and the starts behind it do not run"

    private static void startsBehindAFailureDoNotRun() {
        for (int failing = 0; failing < 3; failing++) {
            RiskHouse x = new RiskHouse(100);
            for (int r = 0; r < 3; r++) {
                rule(x, 2, true, NUMBER, r + 1, KEEP, 0, r == failing ? ADD : END, 0);
            }
            int plain = rule(x, 2, false, NUMBER, 30);
            int other = rule(x, 3, false, NUMBER, 40);
            for (int c = 0; c < 2; c++) {
                due("points of case " + c, x.ask(0), 40);
                due("barred behind case " + c, x.edition(2, 1), 2);
                due("not barred beside it", x.edition(3, 1), 1);
                due("failures behind case " + c, x.count(2), 1);
                due("bits of case " + c, x.of(c, 4), c == 0 ? 1 << failing : 0);
            }
            for (int r = 0; r < 3; r++) {
                due("steps of start " + r, x.look(r, 4), r <= failing ? 3 : 0);
            }
            due("cell", x.edition(2, 0), failing + 1);
            due("steps of the plain rule", x.look(plain, 4), 0);
            due("steps of the other edition's", x.look(other, 4), 1);
        }
        RiskHouse y = new RiskHouse(100);
        rule(y, 0, false, ADD, 0);
        y.ask(0);
        due("a plain rule that fails bars nothing", y.edition(0, 1), 1);
        y.ask(0);
        due("it runs again", y.count(2), 2);
    }

    // ---- "From then on nothing can be told to that edition's rules, and none added"

    private static void nothingIsToldToAStartedEdition() {
        RiskHouse x = new RiskHouse(100);
        rule(x, 0, true, NUMBER, 1);
        rule(x, 0, false, NUMBER, 2);
        rule(x, 1, true, ADD, 0);
        rule(x, 1, false, NUMBER, 3);
        x.ask(0);
        for (int r = 0; r < 4; r++) {
            int rule = r;
            thrown("operation of rule " + r, IllegalStateException.class, () -> x.operation(rule, NUMBER, 9));
            due("operations of rule " + r, x.look(r, 2), 1);
        }
        for (int e = 0; e < 2; e++) {
            int edition = e;
            thrown("rule of edition " + e, IllegalStateException.class, () -> x.rule(edition, true));
            due("rules of edition " + e, x.edition(e, 2), 2);
        }
        due("rules", x.count(0), 4);
        due("an edition that has not started takes a rule", x.rule(2, false), 4);
        due("and an operation", x.operation(4, NUMBER, 5), 1);
        due("points", x.ask(0), 7);
    }

    // ---- "all plain rules of editions that are not barred run, by number"

    private static void plainRulesRunByNumber() {
        RiskHouse x = new RiskHouse(100);
        rule(x, 3, false, CELL, 0, NUMBER, 1, ADD, 0, KEEP, 0, CELL, 0);
        rule(x, 0, false, CELL, 0, NUMBER, 5, ADD, 0, KEEP, 0, CELL, 0);
        rule(x, 3, false, CELL, 0, NUMBER, 10, MULTIPLY, 0, KEEP, 0, CELL, 0);
        rule(x, 0, false, CELL, 0, NUMBER, 2, MULTIPLY, 0, KEEP, 0, CELL, 0);
        due("points of the first", x.ask(0), 1 + 5 + 10 + 10);
        due("points of the second", x.ask(0), 11 + 15 + 100 + 30);
        due("the value behind 100 points", x.look(2, 3), 110);
    }

    // ---- "POINTS of one that does not fail are its VALUE, held to 0 .. 100"

    private static void pointsOfARuleAreHeld() {
        int[][] held = {{-1000, 0}, {-1, 0}, {0, 0}, {1, 1}, {99, 99}, {100, 100}, {101, 100}, {1000, 100}};
        RiskHouse x = fieldHouse();
        for (int i = 0; i < held.length; i++) {
            due("points of " + held[i][0], askWith(x, 0, held[i][0]), held[i][1]);
            due("points of case " + i, x.of(i, 1), held[i][1]);
            due("value of " + held[i][0], x.look(0, 3), held[i][0]);
        }
        due("points of the least int", asked(100, LEAST).of(0, 1), 0);
        due("points of the greatest int", asked(100, GREATEST).of(0, 1), 100);
        RiskHouse two = new RiskHouse(100);
        rule(two, 0, false, NUMBER, -50);
        rule(two, 1, false, NUMBER, 150);
        rule(two, 2, false, NUMBER, 7);
        due("each is held ahead of the sum", two.ask(0), 107);
    }

    // ---- "the case's POINTS are their sum, held to 1000"

    private static void pointsOfACaseAreHeld() {
        int[][] sums = {{-5, 900}, {0, 900}, {1, 901}, {99, 999}, {100, 1000}, {101, 1000}};
        for (int[] sum : sums) {
            RiskHouse x = new RiskHouse(100);
            for (int r = 0; r < 9; r++) {
                rule(x, r % 4, false, NUMBER, 100);
            }
            rule(x, 0, false, FIELD, 0);
            due("9 times 100 and " + sum[0], askWith(x, 0, sum[0]), sum[1]);
        }
        for (int eleventh : new int[] {0, 1, 100}) {
            RiskHouse x = new RiskHouse(100);
            for (int r = 0; r < 10; r++) {
                rule(x, 0, false, NUMBER, 100);
            }
            rule(x, 1, false, NUMBER, eleventh);
            rule(x, 1, false, NUMBER, 100 - eleventh);
            due("10 times 100, " + eleventh + " and the rest", x.ask(0), 1000);
            due("points of the case", x.of(0, 1), 1000);
            x.decide(0);
            due("path of 1000", x.of(0, 2), 3);
        }
        due("no rule, no points", new RiskHouse(100).ask(0), 0);
    }

    // ---- "A rule that fails gives none"

    private static void ruleThatFailsGivesNone() {
        RiskHouse x = new RiskHouse(100);
        rule(x, 0, false, NUMBER, 10, FIELD, 0, DIVIDE, 0);
        rule(x, 0, false, NUMBER, 3);
        due("without a failure", askWith(x, 0, 2), 8);
        due("with one", askWith(x, 0, 0), 3);
        due("its latest value gives nothing", x.look(0, 3), 5);
        due("without one again", askWith(x, 0, 1), 13);
        RiskHouse top = asked(100, NUMBER, 60, NUMBER, 1, NUMBER, 0, REST, 0);
        due("what is left on its stack gives nothing", top.of(0, 1), 0);
    }

    // ---- "A CASE is asked for an office (0 .. 3)"; "IllegalStateException if there are 40 cases"

    private static void fortyCases() {
        RiskHouse x = fieldHouse();
        for (int c = 0; c < 40; c++) {
            due("cases ahead of case " + c, x.count(1), c);
            due("case " + c, askWith(x, c % 4, c), c);
        }
        for (int o = 0; o < 4; o++) {
            int office = o;
            thrown("case 40 of office " + o, IllegalStateException.class, () -> x.ask(office));
        }
        thrown("case 40 of office 4", IllegalArgumentException.class, () -> x.ask(4));
        due("cases", x.count(1), 40);
        due("the last case's office", x.of(39, 0), 3);
        due("the last case's points", x.of(39, 1), 39);
        due("decided", x.decide(3), 10);
        thrown("case 40 with others decided", IllegalStateException.class, () -> x.ask(3));
        RiskHouse y = new RiskHouse(10);
        for (int o : new int[] {MIN, -1, 4, MAX}) {
            thrown("ask(" + o + ")", IllegalArgumentException.class, () -> y.ask(o));
        }
        due("no case came of it", y.count(1), 0);
    }

    // ---- "PATH by points: 0 below 20, 1 below 50, 2 below 80, else 3"

    private static void pathByPoints() {
        int[][] rows = {{0, 0}, {1, 0}, {19, 0}, {20, 1}, {21, 1}, {49, 1}, {50, 2}, {51, 2}, {79, 2}, {80, 3}, {81, 3}, {99, 3}, {100, 3}};
        RiskHouse x = fieldHouse();
        for (int[] row : rows) {
            askWith(x, 0, row[0]);
        }
        due("decided", x.decide(0), rows.length);
        for (int c = 0; c < rows.length; c++) {
            due("path of " + rows[c][0], x.of(c, 2), rows[c][1]);
            due("by chance of " + rows[c][0], x.of(c, 3), 0);
        }
    }

    // ---- "(the SHARE up / down; 0 / 1 at first)"

    private static void shareAtFirst() {
        RiskHouse x = fieldHouse();
        for (int v : new int[] {0, 1, 999}) {
            x.tape(v);
        }
        for (int c = 0; c < 3; c++) {
            x.ask(0);
            due("by chance at first: case " + c, x.of(c, 3), 0);
            due("numbers left", x.count(3), 2 - c);
        }
        x.decide(0);
        paths("at first", x, 0, 0, 0);
    }

    // ---- "by CHANCE it has path 1 if number * down < up * 1000"

    private static void shareIsExact() {
        int[][] rows = {{0, 0, 1, 0}, {0, 0, 1000, 0}, {0, 1, 1000, 1}, {1, 1, 1000, 0}, {1, 2, 1000, 1}, {999, 1, 1, 1}, {999, 1000, 1000, 1},
            {999, 999, 1000, 0}, {998, 999, 1000, 1}, {499, 1, 2, 1}, {500, 1, 2, 0}, {333, 1, 3, 1}, {334, 1, 3, 0}, {666, 2, 3, 1}, {667, 2, 3, 0},
            {142, 1, 7, 1}, {143, 1, 7, 0}, {1, 1, 999, 1}, {2, 1, 999, 0}, {998, 998, 999, 1}, {999, 998, 999, 0}, {249, 250, 1000, 1}, {250, 250, 1000, 0}};
        for (int[] row : rows) {
            RiskHouse x = fieldHouse();
            String name = row[0] + " held against " + row[1] + " / " + row[2];
            due("tape(" + row[0] + ")", x.tape(row[0]), true);
            due("share(" + row[1] + ", " + row[2] + ")", x.share(row[1], row[2]), true);
            due(name + ": points", askWith(x, 2, 19), 19);
            due(name + ": by chance", x.of(0, 3), row[3]);
            due(name + ": points of the case", x.of(0, 1), 19);
            x.decide(2);
            due(name + ": path", x.of(0, 2), row[3]);
        }
    }

    // ---- "The SHARE: true; false if down is not 1 .. 1000, or up not 0 .. down"

    private static void sharesThatCanBe() {
        RiskHouse x = fieldHouse();
        for (int down : new int[] {1, 2, 999, 1000}) {
            due("share(0, " + down + ")", x.share(0, down), true);
            due("share(1, " + down + ")", x.share(1, down), true);
            due("share(" + down + ", " + down + ")", x.share(down, down), true);
            due("share(" + (down + 1) + ", " + down + ")", x.share(down + 1, down), false);
            due("share(-1, " + down + ")", x.share(-1, down), false);
        }
        for (int down : new int[] {MIN, -1, 0, 1001, MAX}) {
            for (int up : new int[] {MIN, -1, 0, 1, MAX}) {
                due("share(" + up + ", " + down + ")", x.share(up, down), false);
            }
        }
        x.tape(999);
        x.ask(0);
        due("1000 / 1000 stays", x.of(0, 3), 1);
    }

    // ---- "A case of path 0 takes the next number of the TAPE"

    private static void chanceOnlyFromPathZero() {
        RiskHouse x = fieldHouse();
        x.share(1, 1);
        for (int v = 0; v < 3; v++) {
            x.tape(v);
        }
        int[] points = {100, 80, 79, 50, 49, 20};
        for (int c = 0; c < points.length; c++) {
            askWith(x, 0, points[c]);
            due("numbers left behind " + points[c], x.count(3), 3);
            due("by chance of " + points[c], x.of(c, 3), 0);
        }
        askWith(x, 0, 19);
        due("numbers left behind 19", x.count(3), 2);
        due("by chance of 19", x.of(6, 3), 1);
        askWith(x, 0, 0);
        due("numbers left behind 0", x.count(3), 1);
        due("by chance of 0", x.of(7, 3), 1);
        x.cap(0, 1);
        x.decide(0);
        paths("beside the cap", x, 3, 1, 1, 1, 1, 1, 1, 1);
        due("a path by the cap is not by chance", x.of(1, 3), 0);
        due("a path by chance stays so", x.of(7, 3), 1);
        due("decisions take no number", x.count(3), 1);
    }

    // ---- "if there is one"

    private static void chanceOnlyWithANumber() {
        RiskHouse x = fieldHouse();
        x.share(1, 1);
        x.ask(0);
        due("by chance without a number", x.of(0, 3), 0);
        due("numbers left", x.count(3), 0);
        x.tape(5);
        due("a number behind the case", x.of(0, 3), 0);
        due("is left", x.count(3), 1);
        x.ask(0);
        due("by chance with it", x.of(1, 3), 1);
        x.ask(0);
        due("by chance behind the last number", x.of(2, 3), 0);
        due("none is left", x.count(3), 0);
        x.decide(0);
        paths("with one number", x, 0, 1, 0);
    }

    // ---- "A number comes behind those of the TAPE: true; false if it is not 0 .. 999, or 60 came"

    private static void sixtyTapeNumbers() {
        RiskHouse x = fieldHouse();
        for (int v : new int[] {MIN, -1, 1000, MAX}) {
            due("tape(" + v + ")", x.tape(v), false);
        }
        x.share(1, 2);
        for (int i = 0; i < 60; i++) {
            due("tape number " + i, x.tape(i % 3 == 0 ? 999 : 0), true);
            due("numbers left", x.count(3), i + 1);
        }
        due("tape number 60", x.tape(0), false);
        for (int c = 0; c < 40; c++) {
            x.ask(c % 4);
            due("number " + c, x.of(c, 3), c % 3 == 0 ? 0 : 1);
        }
        due("numbers left at the end", x.count(3), 20);
        due("60 came though 40 are taken", x.tape(0), false);
        due("numbers left behind it", x.count(3), 20);
        RiskHouse one = fieldHouse();
        for (int i = 0; i < 40; i++) {
            one.tape(i);
            one.ask(0);
        }
        for (int i = 40; i < 60; i++) {
            due("tape number " + i + " behind 40 taken", one.tape(i), true);
        }
        due("tape number 60 behind 40 taken", one.tape(0), false);
    }

    // ---- "keep it as far as the office's CAP goes (20 at first); the others of these have path 1"

    private static void capAtFirst() {
        for (int office = 0; office < 4; office++) {
            for (int many : new int[] {19, 20, 21, 40}) {
                RiskHouse x = fieldHouse();
                for (int c = 0; c < many; c++) {
                    askWith(x, office, 50);
                }
                due("decided of " + many, x.decide(office), many);
                for (int c = 0; c < many; c++) {
                    due("case " + c + " of " + many, x.of(c, 2), c < 20 ? 2 : 1);
                }
            }
        }
    }

    // ---- "An office's CAP: true; false if there is none such, or it is not 0 .. 20"

    private static void capsThatCanBe() {
        for (int n : new int[] {0, 1, 2, 19, 20}) {
            RiskHouse x = fieldHouse();
            due("cap(1, " + n + ")", x.cap(1, n), true);
            due("cap(1, 21)", x.cap(1, 21), false);
            due("cap(1, -1)", x.cap(1, -1), false);
            for (int c = 0; c < 22; c++) {
                askWith(x, 1, 90);
            }
            x.decide(1);
            for (int c = 0; c < 22; c++) {
                due("cap " + n + ": case " + c, x.of(c, 2), c < n ? 3 : 1);
            }
        }
        RiskHouse x = fieldHouse();
        for (int o : new int[] {MIN, -1, 4, MAX}) {
            due("cap(" + o + ", 0)", x.cap(o, 0), false);
        }
        for (int o = 0; o < 4; o++) {
            due("cap(" + o + ", " + o + ")", x.cap(o, o), true);
        }
        for (int c = 0; c < 16; c++) {
            askWith(x, c % 4, 60);
        }
        for (int o = 0; o < 4; o++) {
            x.decide(o);
        }
        for (int c = 0; c < 16; c++) {
            due("an office's own cap: case " + c, x.of(c, 2), c / 4 < c % 4 ? 2 : 1);
        }
    }

    // ---- "those of path 2 or 3 in the order of their points (the greatest first"

    private static void greatestPointsFirst() {
        int[] points = {50, 79, 80, 100, 49, 0, 99, 51};
        int[] rank = {5, 3, 2, 0, 9, 9, 1, 4};
        for (int cap = 0; cap <= 7; cap++) {
            RiskHouse x = fieldHouse();
            x.cap(3, cap);
            for (int p : points) {
                askWith(x, 3, p);
                askWith(x, 0, 100);
            }
            due("decided", x.decide(3), 8);
            for (int i = 0; i < points.length; i++) {
                int byPoints = points[i] < 20 ? 0 : points[i] < 50 ? 1 : points[i] < 80 ? 2 : 3;
                boolean cut = byPoints >= 2 && rank[i] >= cap;
                due("cap " + cap + ": path of " + points[i], x.of(2 * i, 2), cut ? 1 : byPoints);
                due("another office's case", x.of(2 * i + 1, 2), -1);
            }
        }
    }

    // ---- "of equal ones the one asked first)"

    private static void ofEqualOnesTheFirstAsked() {
        RiskHouse x = fieldHouse();
        x.cap(2, 3);
        for (int p : new int[] {80, 80, 81, 80, 80}) {
            askWith(x, 2, p);
        }
        x.decide(2);
        paths("equal ones", x, 3, 3, 3, 1, 1);
        RiskHouse y = new RiskHouse(100);
        for (int r = 0; r < 12; r++) {
            rule(y, 0, false, FIELD, 0);
        }
        y.cap(0, 2);
        for (int p : new int[] {84, 1000, 100, 83}) {
            askWith(y, 0, p);
        }
        y.decide(0);
        paths("equal ones held to 1000", y, 3, 3, 1, 1);
    }

    // ---- "DECIDED are the cases of an office that are not, at once"

    private static void onlyThoseNotDecided() {
        RiskHouse x = fieldHouse();
        x.cap(1, 1);
        askWith(x, 1, 60);
        askWith(x, 1, 90);
        due("decide(1)", x.decide(1), 2);
        paths("at first", x, 1, 3);
        due("decide(1) again", x.decide(1), 0);
        x.cap(1, 20);
        due("decide(1) with a greater cap", x.decide(1), 0);
        paths("a greater cap gives nothing back", x, 1, 3);
        x.cap(1, 0);
        due("decide(1) with no cap", x.decide(1), 0);
        paths("no cap takes nothing", x, 1, 3);
        x.cap(1, 1);
        askWith(x, 1, 50);
        due("decide(1) for a new case", x.decide(1), 1);
        paths("those decided do not count for the cap", x, 1, 3, 2);
        due("decided", x.count(4), 3);
    }

    // ---- "how many. IllegalArgumentException if there is no such office"

    private static void anOfficeWithoutCases() {
        RiskHouse x = fieldHouse();
        for (int o = 0; o < 4; o++) {
            due("decide(" + o + ") of none", x.decide(o), 0);
        }
        askWith(x, 2, 60);
        for (int o : new int[] {MIN, -1, 4, MAX}) {
            thrown("decide(" + o + ")", IllegalArgumentException.class, () -> x.decide(o));
        }
        due("decided", x.count(4), 0);
        due("path", x.of(0, 2), -1);
        for (int o = 0; o < 4; o++) {
            due("decide(" + o + ")", x.decide(o), o == 2 ? 1 : 0);
        }
    }

    // ---- "2: path (NONE till it is decided)"; "IndexOutOfBoundsException if there is none such, or no such what"

    private static void pathIsNoneTillDecided() {
        RiskHouse x = fieldHouse();
        x.share(1, 1);
        x.tape(0);
        thrown("of(0, 0) without cases", IndexOutOfBoundsException.class, () -> x.of(0, 0));
        int[] points = {0, 20, 50, 80};
        for (int o = 0; o < 4; o++) {
            askWith(x, o, points[o]);
        }
        paths("not decided", x, RiskHouse.NONE, RiskHouse.NONE, RiskHouse.NONE, RiskHouse.NONE);
        x.decide(2);
        paths("one decided", x, RiskHouse.NONE, RiskHouse.NONE, 2, RiskHouse.NONE);
        x.decide(0);
        paths("two decided", x, 1, RiskHouse.NONE, 2, RiskHouse.NONE);
        for (int c : new int[] {MIN, -1, 4, 40, MAX}) {
            thrown("of(" + c + ", 0)", IndexOutOfBoundsException.class, () -> x.of(c, 0));
        }
        for (int what : new int[] {MIN, -1, 5, MAX}) {
            thrown("of(3, " + what + ")", IndexOutOfBoundsException.class, () -> x.of(3, what));
        }
    }

    // ---- "4: rules that failed (starts too), as bits"

    private static void failedRulesAsBits() {
        for (int failing = 0; failing < 12; failing++) {
            RiskHouse x = new RiskHouse(10);
            for (int r = 0; r < 12; r++) {
                rule(x, r % 4, r % 3 == 0, r == failing ? ADD : END, 0);
            }
            x.ask(0);
            x.ask(0);
            due("bits of rule " + failing, x.of(0, 4), 1 << failing);
            due("bits of the next case", x.of(1, 4), failing % 3 == 0 ? 0 : 1 << failing);
        }
        RiskHouse all = new RiskHouse(0);
        for (int r = 0; r < 12; r++) {
            rule(all, 0, false, END, 0);
        }
        all.ask(0);
        due("all bits", all.of(0, 4), 4095);
        due("all failures", all.count(2), 12);
    }

    // ---- "3: the case (of a start that by which it started)"

    private static void caseOfAFailedStart() {
        RiskHouse x = new RiskHouse(10);
        thrown("failed(0, 0) without failures", IndexOutOfBoundsException.class, () -> x.failed(0, 0));
        for (int e = 0; e < 4; e++) {
            x.ask(0);
            rule(x, e, true, NUMBER, 1, ADD, 0);
            x.ask(3);
            due("failure " + e + ": rule", x.failed(e, 0), e);
            due("failure " + e + ": which", x.failed(e, 1), STACK);
            due("failure " + e + ": operation", x.failed(e, 2), 1);
            due("failure " + e + ": case", x.failed(e, 3), 2 * e + 1);
        }
        for (int i : new int[] {MIN, -1, 4, 59, 60, MAX}) {
            thrown("failed(" + i + ", 0)", IndexOutOfBoundsException.class, () -> x.failed(i, 0));
        }
        for (int what : new int[] {MIN, -1, 4, MAX}) {
            thrown("failed(3, " + what + ")", IndexOutOfBoundsException.class, () -> x.failed(3, what));
        }
    }

    // ---- "1: 0 it has not started, 1 it has, 2 it is BARRED, 2: rules"

    private static void statesOfAnEdition() {
        RiskHouse x = new RiskHouse(10);
        rule(x, 1, false, END, 0);
        rule(x, 2, true, ADD, 0);
        rule(x, 3, true, END, 0);
        rule(x, 3, true, END, 0);
        int[][] want = {{0, 0}, {1, 1}, {2, 1}, {1, 2}};
        for (int e = 0; e < 4; e++) {
            due("edition " + e + " ahead of a case", x.edition(e, 1), 0);
        }
        x.ask(0);
        for (int e = 0; e < 4; e++) {
            due("edition " + e + ": state", x.edition(e, 1), want[e][0]);
            due("edition " + e + ": rules", x.edition(e, 2), want[e][1]);
        }
        for (int e : new int[] {MIN, -1, 4, MAX}) {
            thrown("edition(" + e + ", 0)", IndexOutOfBoundsException.class, () -> x.edition(e, 0));
        }
        for (int what : new int[] {MIN, -1, 3, MAX}) {
            thrown("edition(3, " + what + ")", IndexOutOfBoundsException.class, () -> x.edition(3, what));
        }
    }

    // ---- "3: VALUE of its latest run that did not fail (0 without), 4: steps of its latest run, that of an
    // operation that failed too (0 without)"

    private static void latestRunThatDidNotFail() {
        RiskHouse x = new RiskHouse(10);
        thrown("look(0, 0) without rules", IndexOutOfBoundsException.class, () -> x.look(0, 0));
        rule(x, 0, false, FIELD, 0, IF_ZERO, 4, NUMBER, -7, END, 0, NUMBER, 3, ADD, 0);
        due("value without a run", x.look(0, 3), 0);
        due("steps without a run", x.look(0, 4), 0);
        askWith(x, 0, 0);
        due("value without a good run", x.look(0, 3), 0);
        due("steps of a failed run", x.look(0, 4), 4);
        askWith(x, 0, 1);
        due("value of a good run", x.look(0, 3), -7);
        due("steps of a good run", x.look(0, 4), 4);
        rule(x, 1, false, FIELD, 0, FIELD, 0, FIELD, 1, DIVIDE, 0, ADD, 0);
        x.field(1, 1);
        askWith(x, 0, 5);
        due("value of the other", x.look(1, 3), 10);
        due("steps of the other", x.look(1, 4), 5);
        x.field(1, 0);
        askWith(x, 0, 0);
        due("value behind a failed run", x.look(0, 3), -7);
        due("value of the other behind a failed run", x.look(1, 3), 10);
        due("steps of the other behind a failed run", x.look(1, 4), 4);
        for (int r : new int[] {MIN, -1, 2, 12, MAX}) {
            thrown("look(" + r + ", 0)", IndexOutOfBoundsException.class, () -> x.look(r, 0));
        }
        for (int what : new int[] {MIN, -1, 5, MAX}) {
            thrown("look(1, " + what + ")", IndexOutOfBoundsException.class, () -> x.look(1, what));
        }
    }

    // ---- "from 10 on the value of field what - 10. NONE for another what or field"

    private static void countsAndFields() {
        RiskHouse x = fieldHouse();
        for (int f = 0; f < 8; f++) {
            x.field(f, f - 1);
        }
        for (int f = 0; f < 8; f++) {
            due("count(" + (10 + f) + ")", x.count(10 + f), f - 1);
        }
        for (int what : new int[] {MIN, MIN + 9, MIN + 10, MIN + 17, -10, -1, 5, 6, 7, 8, 9, 18, 19, 100, MAX}) {
            due("count(" + what + ")", x.count(what), RiskHouse.NONE);
        }
        due("NONE", RiskHouse.NONE, -1);
    }
}
