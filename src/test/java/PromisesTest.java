import java.util.function.IntSupplier;

/** The promises of the document one by one: ordinary inputs, the edges that it names, and wrong inputs. */
public final class PromisesTest {
    private static final int NUMBER = 0, FIELD = 1, CELL = 2, KEEP = 3, ADD = 4, SUBTRACT = 5, MULTIPLY = 6,
            DIVIDE = 7, REST = 8, LESS = 9, GO_TO = 10, IF_ZERO = 11, END = 12;
    private static final int MIN = Integer.MIN_VALUE, MAX = Integer.MAX_VALUE;

    private static int wrong = 0;

    public static void main(String[] args) {
        promise1NewObject();
        promise1Steps();
        promise2Rule();
        promise3Operation();
        promise3OperationStates();
        promise4Field();
        promise5Tape();
        promise6Share();
        promise7Cap();
        promise8Joining();
        promise8Jumps();
        promise8StackFailures();
        promise8DivisionFailures();
        promise8Points();
        promise8Starts();
        promise8StartOrder();
        promise8Limit();
        promise9Decide();
        promise9Order();
        promise9AllCases();
        promise10Of();
        promise10Chance();
        promise11Failed();
        promise11FirstSixty();
        promise12Edition();
        promise13Look();
        promise14Count();
        System.out.println(wrong == 0 ? "all answers are as due" : wrong + " answers are not as due");
        if (wrong != 0) {
            System.exit(1);
        }
    }

    // ---- helpers

    private static void due(String call, long got, long want) {
        if (got != want) {
            wrong++;
            System.out.println(call + " answered " + got + ", due is " + want);
        }
    }

    private static void due(String call, boolean got, boolean want) {
        due(call, got ? 1 : 0, want ? 1 : 0);
    }

    /** The very class is due, so that what the machine itself throws does not pass for a class above it. */
    private static void thrown(String call, Class<?> want, IntSupplier body) {
        String got;
        try {
            got = "answered " + body.getAsInt();
        } catch (RuntimeException e) {
            if (e.getClass() == want) {
                return;
            }
            got = "threw " + e;
        }
        wrong++;
        System.out.println(call + " " + got + ", due is " + want.getSimpleName());
    }

    private static void badArgument(String call, IntSupplier body) {
        thrown(call, IllegalArgumentException.class, body);
    }

    private static void badState(String call, IntSupplier body) {
        thrown(call, IllegalStateException.class, body);
    }

    private static void badIndex(String call, IntSupplier body) {
        thrown(call, IndexOutOfBoundsException.class, body);
    }

    /** One more rule with operations given as pairs of a code and a number. */
    private static int rule(RiskHouse x, int edition, boolean start, int... pairs) {
        int r = x.rule(edition, start);
        for (int i = 0; i + 1 < pairs.length; i += 2) {
            due("operation of rule " + r, x.operation(r, pairs[i], pairs[i + 1]), i / 2 + 1);
        }
        return r;
    }

    private static int plain(RiskHouse x, int... pairs) {
        return rule(x, 0, false, pairs);
    }

    /** The value of a plain rule that runs once, and must not fail. */
    private static void value(String name, int want, int... pairs) {
        RiskHouse x = new RiskHouse(1000);
        int r = plain(x, pairs);
        x.ask(0);
        due(name + ": failures", x.count(2), 0);
        due(name + ": value", x.look(r, 3), want);
    }

    private static void failure(String name, int which, int operation, int steps, int... pairs) {
        RiskHouse x = new RiskHouse(1000);
        int r = plain(x, pairs);
        due(name + ": points", x.ask(0), 0);
        due(name + ": failures", x.count(2), 1);
        due(name + ": which", x.failed(0, 1), which);
        due(name + ": operation", x.failed(0, 2), operation);
        due(name + ": steps", x.look(r, 4), steps);
        due(name + ": value", x.look(r, 3), 0);
        due(name + ": bits", x.of(0, 4), 1 << r);
    }

    /** A house whose one rule gives the value of field 0. */
    private static RiskHouse fieldHouse() {
        RiskHouse x = new RiskHouse(100);
        plain(x, FIELD, 0);
        return x;
    }

    private static int askWith(RiskHouse x, int office, int points) {
        x.field(0, points);
        return x.ask(office);
    }

    // ---- promise 1

    private static void promise1NewObject() {
        RiskHouse x = new RiskHouse(10);
        due("NONE", RiskHouse.NONE, -1);
        for (int what = 0; what < 5; what++) {
            due("new: count(" + what + ")", x.count(what), 0);
        }
        for (int f = 0; f < 8; f++) {
            due("new: field " + f, x.count(10 + f), 0);
        }
        for (int e = 0; e < 4; e++) {
            for (int what = 0; what < 3; what++) {
                due("new: edition(" + e + ", " + what + ")", x.edition(e, what), 0);
            }
            due("new: decide(" + e + ")", x.decide(e), 0);
        }
        badIndex("new: of(0, 0)", () -> x.of(0, 0));
        badIndex("new: failed(0, 0)", () -> x.failed(0, 0));
        badIndex("new: look(0, 0)", () -> x.look(0, 0));
        due("new: ask without rules", x.ask(0), 0);
    }

    private static void promise1Steps() {
        int[][] heldTo = {{MIN, 0}, {-1, 0}, {0, 0}, {1, 1}, {7, 7}, {65535, 65535}, {65536, 65536}, {65537, 65536}, {MAX, 65536}};
        for (int[] pair : heldTo) {
            RiskHouse x = new RiskHouse(pair[0]);
            int r = plain(x, GO_TO, 1, GO_TO, 0);
            x.ask(0);
            due("steps " + pair[0] + ": made", x.look(r, 4), pair[1]);
            due("steps " + pair[0] + ": which", x.failed(0, 1), 1);
            due("steps " + pair[0] + ": operation", x.failed(0, 2), pair[1] % 2);
        }
        RiskHouse none = new RiskHouse(0);
        plain(none);
        none.ask(0);
        due("an empty rule needs no step", none.count(2), 0);
        RiskHouse enough = new RiskHouse(3);
        plain(enough, NUMBER, 1, NUMBER, 2, ADD, 0);
        due("just enough steps", enough.ask(0), 3);
        due("just enough steps: failures", enough.count(2), 0);
        RiskHouse short1 = new RiskHouse(2);
        plain(short1, NUMBER, 1, NUMBER, 2, ADD, 0);
        due("a step too few", short1.ask(0), 0);
        due("a step too few: operation", short1.failed(0, 2), 2);
        RiskHouse ends = new RiskHouse(2);
        plain(ends, NUMBER, 9, END, 0, DIVIDE, 0);
        due("END is a step", ends.ask(0), 9);
        due("END is a step: steps", ends.look(0, 4), 2);
        RiskHouse first = new RiskHouse(0);
        plain(first, ADD, 0);
        first.ask(0);
        due("steps fail ahead of the stack", first.failed(0, 1), 1);
    }

    // ---- promise 2

    private static void promise2Rule() {
        RiskHouse x = new RiskHouse(10);
        for (int bad : new int[] {-1, 4, MIN, MAX}) {
            badArgument("rule of edition " + bad, () -> x.rule(bad, false));
        }
        due("a refused rule changes nothing", x.count(0), 0);
        for (int i = 0; i < 11; i++) {
            due("rule " + i, x.rule(i % 3, i % 2 == 0), i);
        }
        due("rule 11", x.rule(3, false), 11);
        badState("rule 12", () -> x.rule(0, false));
        badArgument("rule 12 of no edition", () -> x.rule(4, false));
        due("rules", x.count(0), 12);
        due("rules of edition 0", x.edition(0, 2), 4);

        RiskHouse y = new RiskHouse(10);
        y.rule(1, false);
        y.ask(0);
        badState("rule of a started edition", () -> y.rule(1, true));
        due("rule of another edition", y.rule(2, true), 1);
        y.ask(4 - 1);
        badState("rule of an edition started later", () -> y.rule(2, false));
        due("edition 1 keeps its rules", y.edition(1, 2), 1);

        RiskHouse barred = new RiskHouse(10);
        int r = rule(barred, 0, true, ADD, 0);
        barred.ask(0);
        badState("rule of a barred edition", () -> barred.rule(0, false));
        badState("operation of a barred edition", () -> barred.operation(r, NUMBER, 0));
    }

    // ---- promise 3

    private static void promise3Operation() {
        RiskHouse x = new RiskHouse(10);
        badArgument("operation without rules", () -> x.operation(0, NUMBER, 0));
        x.rule(0, false);
        for (int bad : new int[] {-1, 1, 12, MIN, MAX}) {
            badArgument("operation of rule " + bad, () -> x.operation(bad, NUMBER, 0));
        }
        for (int bad : new int[] {-1, 13, MIN, MAX}) {
            badArgument("operation of code " + bad, () -> x.operation(0, bad, 0));
        }
        badV(x, NUMBER, -1001, 1001, MIN, MAX);
        badV(x, FIELD, -1, 8, MIN, MAX);
        badV(x, GO_TO, -1, 17, MIN, MAX);
        badV(x, IF_ZERO, -1, 17, MIN, MAX);
        for (int code : new int[] {CELL, KEEP, ADD, SUBTRACT, MULTIPLY, DIVIDE, REST, LESS, END}) {
            badV(x, code, -1, 1, MIN, MAX);
        }
        due("refused operations change nothing", x.look(0, 2), 0);
        int[][] good = {{NUMBER, -1000}, {NUMBER, 1000}, {FIELD, 0}, {FIELD, 7}, {CELL, 0}, {KEEP, 0}, {ADD, 0},
            {SUBTRACT, 0}, {MULTIPLY, 0}, {DIVIDE, 0}, {REST, 0}, {LESS, 0}, {GO_TO, 0}, {GO_TO, 16}, {IF_ZERO, 16}, {END, 0}};
        for (int i = 0; i < good.length; i++) {
            due("operation " + i, x.operation(0, good[i][0], good[i][1]), i + 1);
        }
        badState("operation 16", () -> x.operation(0, NUMBER, 0));
        badArgument("operation 16 of no code", () -> x.operation(0, 13, 0));
        badArgument("operation 16 of a v that can't be", () -> x.operation(0, FIELD, 8));
        due("operations", x.look(0, 2), 16);
    }

    private static void badV(RiskHouse x, int code, int... vs) {
        for (int v : vs) {
            badArgument("operation(0, " + code + ", " + v + ")", () -> x.operation(0, code, v));
        }
    }

    private static void promise3OperationStates() {
        RiskHouse x = new RiskHouse(10);
        plain(x, NUMBER, 1);
        int other = rule(x, 1, false, NUMBER, 2);
        x.ask(0);
        badState("operation of a started edition", () -> x.operation(0, NUMBER, 1));
        badState("operation of the other", () -> x.operation(other, NUMBER, 1));
        badArgument("a code ahead of the state", () -> x.operation(0, 13, 1));
        int later = x.rule(2, false);
        due("operation of an edition not started", x.operation(later, NUMBER, 5), 1);
        due("operations stay", x.look(0, 2), 1);
        due("points with the new edition", x.ask(0), 8);

        RiskHouse full = new RiskHouse(100);
        for (int r = 0; r < 12; r++) {
            full.rule(r % 4, false);
            for (int i = 0; i < 15; i++) {
                full.operation(r, GO_TO, i + 1);
            }
            due("operations of rule " + r, full.operation(r, NUMBER, r + 1), 16);
        }
        due("every rule has a row of its own", full.ask(0), 78);
        due("a full row takes 16 steps", full.look(11, 4), 16);
    }

    // ---- promise 4

    private static void promise4Field() {
        RiskHouse x = fieldHouse();
        due("field(7, 1000)", x.field(7, 1000), true);
        due("field(0, -1000)", x.field(0, -1000), true);
        due("field(3, -1)", x.field(3, -1), true);
        int[][] bad = {{-1, 0}, {8, 0}, {MIN, 0}, {MAX, 0}, {7, 1001}, {7, -1001}, {7, MIN}, {7, MAX}};
        for (int[] b : bad) {
            due("field(" + b[0] + ", " + b[1] + ")", x.field(b[0], b[1]), false);
        }
        due("field 7", x.count(17), 1000);
        due("field 0", x.count(10), -1000);
        due("field 3", x.count(13), -1);
        due("field 1", x.count(11), 0);
        x.ask(0);
        due("a run sees the field", x.look(0, 3), -1000);
        due("field behind a start", x.field(0, 44), true);
        due("the next run sees it", x.ask(0), 44);
    }

    // ---- promise 5

    private static void promise5Tape() {
        RiskHouse x = new RiskHouse(10);
        for (int bad : new int[] {-1, 1000, MIN, MAX}) {
            due("tape(" + bad + ")", x.tape(bad), false);
        }
        due("nothing on the tape", x.count(3), 0);
        due("tape(0)", x.tape(0), true);
        due("tape(999)", x.tape(999), true);
        for (int i = 2; i < 60; i++) {
            due("tape number " + i, x.tape(500), true);
        }
        due("tape number 60", x.tape(500), false);
        x.share(999, 1000);
        x.ask(0);
        due("a number is taken", x.count(3), 59);
        due("60 came all the same", x.tape(1), false);
        due("the first number first", x.of(0, 3), 1);
        x.ask(0);
        due("then the second", x.of(1, 3), 0);
        x.ask(0);
        due("then the third", x.of(2, 3), 1);
    }

    // ---- promise 6

    private static void promise6Share() {
        RiskHouse x = new RiskHouse(10);
        x.share(1, 4);
        int[][] bad = {{0, 0}, {0, -1}, {0, 1001}, {1, MIN}, {1, MAX}, {2, 1}, {-1, 1}, {MIN, 1000}, {MAX, 1000}, {1001, 1000}, {-3, -2}};
        for (int[] b : bad) {
            due("share(" + b[0] + ", " + b[1] + ")", x.share(b[0], b[1]), false);
        }
        chance(x, "a refused share changes nothing", 249, 1);
        chance(x, "a quarter is left out", 250, 0);
        due("share(1000, 1000)", x.share(1000, 1000), true);
        chance(x, "the whole", 999, 1);
        due("share(0, 1000)", x.share(0, 1000), true);
        chance(x, "nothing", 0, 0);
        due("share(0, 1)", x.share(0, 1), true);
        due("share(1, 1)", x.share(1, 1), true);
        chance(x, "one of one", 999, 1);
        x.share(1, 3);
        chance(x, "a third holds 333", 333, 1);
        chance(x, "a third leaves 334 out", 334, 0);
        x.share(2, 7);
        chance(x, "two sevenths hold 285", 285, 1);
        chance(x, "two sevenths leave 286 out", 286, 0);
        x.share(999, 1000);
        chance(x, "998 of 1000", 998, 1);
        chance(x, "999 of 1000", 999, 0);
    }

    private static void chance(RiskHouse x, String name, int number, int want) {
        x.tape(number);
        x.ask(0);
        due(name, x.of(x.count(1) - 1, 3), want);
    }

    // ---- promise 7

    private static void promise7Cap() {
        RiskHouse x = fieldHouse();
        int[][] bad = {{-1, 0}, {4, 0}, {MIN, 0}, {MAX, 0}, {2, -1}, {2, 21}, {2, MIN}, {2, MAX}};
        for (int[] b : bad) {
            due("cap(" + b[0] + ", " + b[1] + ")", x.cap(b[0], b[1]), false);
        }
        for (int i = 0; i < 21; i++) {
            askWith(x, 2, 90);
        }
        due("decide 21", x.decide(2), 21);
        due("the cap is 20 at first: the 20th", x.of(19, 2), 3);
        due("the cap is 20 at first: the 21st", x.of(20, 2), 1);
        due("cap(2, 0)", x.cap(2, 0), true);
        due("cap(3, 1)", x.cap(3, 1), true);
        askWith(x, 2, 90);
        askWith(x, 3, 90);
        askWith(x, 3, 90);
        x.decide(2);
        x.decide(3);
        due("cap 0", x.of(21, 2), 1);
        due("cap 1: the first", x.of(22, 2), 3);
        due("cap 1: the second", x.of(23, 2), 1);
        due("cap(2, 20)", x.cap(2, 20), true);
        askWith(x, 2, 90);
        x.decide(2);
        due("cap 20 again", x.of(24, 2), 3);
    }

    // ---- promise 8

    private static void promise8Joining() {
        value("number", -1000, NUMBER, -1000);
        value("add", 5, NUMBER, 2, NUMBER, 3, ADD, 0);
        value("subtract", -1, NUMBER, 2, NUMBER, 3, SUBTRACT, 0);
        value("multiply", -6, NUMBER, 2, NUMBER, -3, MULTIPLY, 0);
        value("divide", 3, NUMBER, 7, NUMBER, 2, DIVIDE, 0);
        value("divide towards 0", -3, NUMBER, -7, NUMBER, 2, DIVIDE, 0);
        value("divide by less than 0", -3, NUMBER, 7, NUMBER, -2, DIVIDE, 0);
        value("divide 0", 0, NUMBER, 0, NUMBER, 2, DIVIDE, 0);
        value("divide by 1", 7, NUMBER, 7, NUMBER, 1, DIVIDE, 0);
        value("rest by 1", 0, NUMBER, 7, NUMBER, 1, REST, 0);
        value("rest", 1, NUMBER, 7, NUMBER, 2, REST, 0);
        value("rest towards 0", -1, NUMBER, -7, NUMBER, 2, REST, 0);
        value("rest by less than 0", 1, NUMBER, 7, NUMBER, -2, REST, 0);
        value("less", 1, NUMBER, 2, NUMBER, 3, LESS, 0);
        value("less of equal ones", 0, NUMBER, 3, NUMBER, 3, LESS, 0);
        value("less of a greater one", 0, NUMBER, 4, NUMBER, 3, LESS, 0);
        value("multiply wraps around", (int) (1000L * 1000 * 1000 * 1000), NUMBER, 1000, NUMBER, 1000, MULTIPLY, 0,
                NUMBER, 1000, MULTIPLY, 0, NUMBER, 1000, MULTIPLY, 0);
        // -512 * 512 * 128 * 64 is the least int, which has no counterpart above 0.
        int[] least = {NUMBER, -512, NUMBER, 512, MULTIPLY, 0, NUMBER, 128, MULTIPLY, 0, NUMBER, 64, MULTIPLY, 0};
        value("the least int", MIN, least);
        value("the least int by -1", MIN, with(least, NUMBER, -1, DIVIDE, 0));
        value("the rest of the least int by -1", 0, with(least, NUMBER, -1, REST, 0));
        value("subtract wraps around", MAX, with(least, NUMBER, 1, SUBTRACT, 0));
        value("add wraps around", MAX, with(least, NUMBER, -1, ADD, 0));
        value("less is exact", 1, with(least, NUMBER, 1, LESS, 0));
        for (int code : new int[] {ADD, SUBTRACT, MULTIPLY, DIVIDE, REST, LESS}) {
            value("code " + code + " takes both", 0, NUMBER, 9, NUMBER, 4, code, 0, KEEP, 0);
            value("code " + code + " leaves what lies below", 3, NUMBER, 3, NUMBER, 9, NUMBER, 4, code, 0, KEEP, 0);
        }
        value("no operation", 0);
        value("an empty stack at the end", 0, NUMBER, 5, KEEP, 0);
        value("the top of several", 6, NUMBER, 5, NUMBER, 6);
    }

    private static int[] with(int[] head, int... tail) {
        int[] all = java.util.Arrays.copyOf(head, head.length + tail.length);
        System.arraycopy(tail, 0, all, head.length, tail.length);
        return all;
    }

    private static void promise8Jumps() {
        value("go to", 2, GO_TO, 2, NUMBER, 1, NUMBER, 2);
        value("go to right behind the last", 1, NUMBER, 1, GO_TO, 3, NUMBER, 2);
        value("go to far behind the last", 1, NUMBER, 1, GO_TO, 16, NUMBER, 2);
        value("if zero goes", 9, NUMBER, 9, NUMBER, 0, IF_ZERO, 4, NUMBER, 1);
        value("if zero goes on", 1, NUMBER, 9, NUMBER, 5, IF_ZERO, 4, NUMBER, 1);
        value("if zero goes on below 0", 1, NUMBER, 9, NUMBER, -5, IF_ZERO, 4, NUMBER, 1);
        value("if zero far behind the last", 9, NUMBER, 9, NUMBER, 0, IF_ZERO, 16, NUMBER, 1);
        value("end", 4, NUMBER, 4, END, 0, NUMBER, 5);
        RiskHouse x = new RiskHouse(1000);
        // The cell counts down from 5: a loop of 6 operations, the last round of 2.
        int s = rule(x, 0, true, NUMBER, 5, KEEP, 0);
        int r = plain(x, CELL, 0, IF_ZERO, 16, CELL, 0, NUMBER, 1, SUBTRACT, 0, KEEP, 0, GO_TO, 0);
        x.ask(0);
        due("a loop ends: failures", x.count(2), 0);
        due("a loop ends: steps", x.look(r, 4), 5 * 7 + 2);
        due("a loop ends: cell", x.edition(0, 0), 0);
        due("the start ran once", x.look(s, 4), 2);
        x.ask(0);
        due("the cell stays between cases", x.look(r, 4), 2);
    }

    private static void promise8StackFailures() {
        int[] takers = {ADD, SUBTRACT, MULTIPLY, DIVIDE, REST, LESS};
        for (int code : takers) {
            failure("code " + code + " on an empty stack", 3, 0, 1, code, 0);
            failure("code " + code + " on a stack of 1", 3, 1, 2, NUMBER, 7, code, 0);
            failure("code " + code + " on a stack of one 0", 3, 1, 2, NUMBER, 0, code, 0);
        }
        failure("keep on an empty stack", 3, 0, 1, KEEP, 0);
        failure("if zero on an empty stack", 3, 0, 1, IF_ZERO, 1);
        int[] eight = {NUMBER, 1, NUMBER, 2, NUMBER, 3, NUMBER, 4, NUMBER, 5, NUMBER, 6, NUMBER, 7, NUMBER, 8};
        value("a stack of 8", 8, eight);
        value("a stack of 8 joined", 15, with(eight, ADD, 0));
        value("a stack of 8 kept from and filled", 9, with(eight, KEEP, 0, NUMBER, 9));
        failure("a ninth number", 3, 8, 9, with(eight, NUMBER, 9));
        failure("a ninth field", 3, 8, 9, with(eight, FIELD, 1));
        failure("a ninth cell", 3, 8, 9, with(eight, CELL, 0));
        RiskHouse x = new RiskHouse(100);
        plain(x, eight);
        plain(x, ADD, 0);
        x.ask(0);
        due("each run has an empty stack", x.failed(0, 0), 1);
    }

    private static void promise8DivisionFailures() {
        failure("divide by 0", 2, 2, 3, NUMBER, 7, NUMBER, 0, DIVIDE, 0);
        failure("rest by 0", 2, 2, 3, NUMBER, 7, NUMBER, 0, REST, 0);
        failure("divide 0 by 0", 2, 2, 3, NUMBER, 0, NUMBER, 0, DIVIDE, 0);
        RiskHouse x = new RiskHouse(100);
        int r = plain(x, FIELD, 0, KEEP, 0, NUMBER, 60, FIELD, 1, DIVIDE, 0, NUMBER, 1, KEEP, 0);
        x.field(0, 33);
        x.ask(0);
        due("what it kept stays", x.edition(0, 0), 33);
        due("a plain failure bars nothing", x.edition(0, 1), 1);
        x.field(1, 2);
        due("the rule runs again", x.ask(0), 30);
        due("and keeps", x.edition(0, 0), 1);
        x.field(1, 0);
        x.ask(0);
        due("the value of the latest run that did not fail", x.look(r, 3), 30);
        due("the steps of the latest run", x.look(r, 4), 5);
    }

    private static void promise8Points() {
        RiskHouse x = new RiskHouse(100);
        plain(x, FIELD, 0);
        rule(x, 1, false, FIELD, 1);
        rule(x, 2, true, NUMBER, 77);
        int[][] sums = {{10, 20, 30}, {100, 5, 105}, {101, 5, 105}, {1000, 1000, 200}, {-1, 5, 5}, {-1000, -1, 0}, {0, 0, 0}};
        for (int[] s : sums) {
            x.field(0, s[0]);
            x.field(1, s[1]);
            due("points of " + s[0] + " and " + s[1], x.ask(0), s[2]);
            due("points of the case", x.of(x.count(1) - 1, 1), s[2]);
        }
        due("a value is not held", x.look(0, 3), 0);
        x.field(0, 1000);
        x.ask(0);
        due("a great value is not held", x.look(0, 3), 1000);
        for (int rules = 9; rules <= 12; rules++) {
            RiskHouse y = new RiskHouse(100);
            for (int r = 0; r < rules; r++) {
                rule(y, r % 4, false, NUMBER, 100);
            }
            due("points of " + rules + " rules", y.ask(3), Math.min(1000, rules * 100));
        }
    }

    private static void promise8Starts() {
        RiskHouse x = new RiskHouse(100);
        rule(x, 1, false, CELL, 0);
        rule(x, 1, true, NUMBER, 8, KEEP, 0);
        rule(x, 1, true, CELL, 0, KEEP, 0, CELL, 0, NUMBER, 0, DIVIDE, 0, KEEP, 0);
        rule(x, 1, true, NUMBER, 1, KEEP, 0);
        rule(x, 2, false, NUMBER, 4);
        due("a barred edition gives no points", x.ask(2), 4);
        due("barred", x.edition(1, 1), 2);
        due("the others are not", x.edition(2, 1), 1);
        due("the edition without rules has not started", x.edition(0, 1), 0);
        due("what the starts kept stays", x.edition(1, 0), 8);
        due("the start behind did not run", x.look(3, 4), 0);
        due("the plain rule did not run", x.look(0, 4), 0);
        due("bits of the first case", x.of(0, 4), 4);
        x.ask(2);
        due("starts run once", x.count(2), 1);
        due("bits of the second case", x.of(1, 4), 0);
        due("still barred", x.edition(1, 1), 2);

        rule(x, 0, true, NUMBER, 6, KEEP, 0);
        rule(x, 0, false, CELL, 0);
        rule(x, 3, true, ADD, 0);
        due("not started till a case is asked", x.edition(0, 1), 0);
        due("editions start with a later case", x.ask(1), 10);
        due("started later", x.edition(0, 1), 1);
        due("the case by which a start failed", x.failed(1, 3), 2);
        due("its rule", x.failed(1, 0), 7);
        due("bits of the third case", x.of(2, 4), 1 << 7);
    }

    private static void promise8StartOrder() {
        RiskHouse x = new RiskHouse(100);
        rule(x, 3, false, ADD, 0);
        rule(x, 2, true, NUMBER, 1, NUMBER, 0, REST, 0);
        rule(x, 0, false, NUMBER, 2, NUMBER, 0, DIVIDE, 0);
        rule(x, 0, true, NUMBER, 9, KEEP, 0);
        rule(x, 1, true, KEEP, 0);
        rule(x, 0, true, GO_TO, 0);
        rule(x, 3, false, CELL, 0, NUMBER, 7, KEEP, 0);
        x.ask(0);
        int[] rules = {5, 4, 1, 0};
        int[] which = {1, 3, 2, 3};
        due("failures", x.count(2), rules.length);
        for (int i = 0; i < rules.length; i++) {
            due("rule of failure " + i, x.failed(i, 0), rules[i]);
            due("which of failure " + i, x.failed(i, 1), which[i]);
            due("case of failure " + i, x.failed(i, 3), 0);
        }
        due("bits", x.of(0, 4), 1 << 5 | 1 << 4 | 1 << 1 | 1);
        due("a cell is its edition's own", x.edition(3, 0), 7);
        due("a cell is its edition's own: 0", x.edition(0, 0), 9);
        due("a cell is its edition's own: 2", x.edition(2, 0), 0);
    }

    private static void promise8Limit() {
        RiskHouse x = new RiskHouse(100);
        for (int bad : new int[] {-1, 4, MIN, MAX}) {
            badArgument("ask of office " + bad, () -> x.ask(bad));
        }
        x.tape(1);
        plain(x, NUMBER, 1, ADD, 0);
        badArgument("ask of office 4", () -> x.ask(4));
        due("a refused case starts nothing", x.edition(0, 1), 0);
        due("and takes nothing", x.count(3), 1);
        for (int i = 0; i < 40; i++) {
            due("case " + i, x.ask(i % 4), 0);
        }
        rule(x, 1, true, ADD, 0);
        x.tape(1);
        badState("case 40", () -> x.ask(0));
        badArgument("case 40 of no office", () -> x.ask(4));
        due("case 40 starts nothing", x.edition(1, 1), 0);
        due("case 40 tells nothing", x.count(2), 40);
        due("case 40 takes nothing", x.count(3), 1);
        due("cases", x.count(1), 40);
    }

    // ---- promise 9

    private static void promise9Decide() {
        RiskHouse x = fieldHouse();
        for (int bad : new int[] {-1, 4, MIN, MAX}) {
            badArgument("decide of office " + bad, () -> x.decide(bad));
        }
        int[] points = {0, 19, 20, 49, 50, 79, 80, 100};
        int[] paths = {0, 0, 1, 1, 2, 2, 3, 3};
        for (int p : points) {
            askWith(x, 1, p);
        }
        askWith(x, 2, 90);
        due("decide(0)", x.decide(0), 0);
        due("decide(1)", x.decide(1), 8);
        for (int c = 0; c < points.length; c++) {
            due("path of " + points[c], x.of(c, 2), paths[c]);
        }
        due("another office's case waits", x.of(8, 2), -1);
        due("decided", x.count(4), 8);
        due("decide(1) again", x.decide(1), 0);
        x.cap(1, 0);
        x.cap(2, 0);
        askWith(x, 1, 60);
        due("decide(1) for one more", x.decide(1), 1);
        due("no cap", x.of(9, 2), 1);
        due("what was decided stays", x.of(7, 2), 3);
        due("decide(2)", x.decide(2), 1);
        due("no cap in office 2", x.of(8, 2), 1);
        due("its points stay", x.of(8, 1), 90);
        due("decided in all", x.count(4), 10);
    }

    private static void promise9Order() {
        RiskHouse x = fieldHouse();
        int[] points = {50, 90, 30, 70, 90, 70, 10, 100, 70};
        for (int p : points) {
            askWith(x, 0, p);
            askWith(x, 3, 100);
        }
        x.cap(0, 4);
        due("decide(0)", x.decide(0), points.length);
        int[] paths = {1, 3, 1, 2, 3, 1, 0, 3, 1};
        for (int i = 0; i < points.length; i++) {
            due("path of case " + 2 * i, x.of(2 * i, 2), paths[i]);
        }
        // The cases of one call are held against the whole cap.
        askWith(x, 0, 55);
        x.decide(0);
        due("path of the next call's case", x.of(18, 2), 2);

        RiskHouse y = fieldHouse();
        y.cap(1, 2);
        for (int p : new int[] {60, 60, 60, 61}) {
            askWith(y, 1, p);
        }
        y.decide(1);
        due("equal points: the first asked", y.of(0, 2), 2);
        due("equal points: the second", y.of(1, 2), 1);
        due("equal points: the third", y.of(2, 2), 1);
        due("more points", y.of(3, 2), 2);
    }

    private static void promise9AllCases() {
        RiskHouse x = fieldHouse();
        for (int c = 0; c < 40; c++) {
            askWith(x, 2, 51 + c);
        }
        x.cap(2, 15);
        due("decide all 40", x.decide(2), 40);
        for (int c = 0; c < 40; c++) {
            due("path of case " + c + " of 40", x.of(c, 2), c < 25 ? 1 : c < 29 ? 2 : 3);
        }
        due("all 40 are decided", x.count(4), 40);
        due("none is left", x.decide(2), 0);
    }

    // ---- promise 10

    private static void promise10Of() {
        RiskHouse x = fieldHouse();
        askWith(x, 3, 64);
        askWith(x, 0, 1000);
        int[][] want = {{3, 64, -1, 0, 0}, {0, 100, -1, 0, 0}};
        for (int c = 0; c < 2; c++) {
            for (int what = 0; what < 5; what++) {
                due("of(" + c + ", " + what + ")", x.of(c, what), want[c][what]);
            }
        }
        x.decide(3);
        due("path when decided", x.of(0, 2), 2);
        due("path of the other", x.of(1, 2), -1);
        for (int bad : new int[] {-1, 2, 40, MIN, MAX}) {
            badIndex("of(" + bad + ", 0)", () -> x.of(bad, 0));
        }
        for (int bad : new int[] {-1, 5, MIN, MAX}) {
            badIndex("of(0, " + bad + ")", () -> x.of(0, bad));
        }
    }

    private static void promise10Chance() {
        RiskHouse x = fieldHouse();
        x.tape(5);
        askWith(x, 0, 10);
        due("a share of 0 / 1 at first", x.of(0, 3), 0);
        due("takes a number all the same", x.count(3), 0);
        x.share(1, 1);
        askWith(x, 0, 10);
        due("no number on the tape", x.of(1, 3), 0);
        x.tape(5);
        askWith(x, 0, 20);
        due("path 1 takes no number", x.count(3), 1);
        due("path 1 is not by chance", x.of(2, 3), 0);
        askWith(x, 0, 80);
        due("path 3 takes no number", x.count(3), 1);
        askWith(x, 0, 19);
        due("path 0 takes it", x.count(3), 0);
        due("by chance ahead of the decision", x.of(4, 3), 1);
        due("path ahead of the decision", x.of(4, 2), -1);
        x.share(0, 1);
        x.cap(0, 0);
        x.decide(0);
        int[] paths = {0, 0, 1, 1, 1};
        for (int c = 0; c < 5; c++) {
            due("path of case " + c, x.of(c, 2), paths[c]);
        }
        due("still by chance", x.of(4, 3), 1);
        x.cap(1, 2);
        x.share(1, 1);
        x.tape(999);
        askWith(x, 1, 0);
        askWith(x, 1, 50);
        x.decide(1);
        due("path by chance", x.of(5, 2), 1);
        due("path by points beside it", x.of(6, 2), 2);
        due("not by chance but by the cap", x.of(3, 3), 0);
    }

    // ---- promise 11

    private static void promise11Failed() {
        RiskHouse x = new RiskHouse(6);
        plain(x, GO_TO, 1, GO_TO, 0);
        plain(x, NUMBER, 1);
        plain(x, NUMBER, 1, FIELD, 0, DIVIDE, 0);
        plain(x, NUMBER, 1, LESS, 0);
        x.ask(0);
        x.field(0, 1);
        x.ask(1);
        int[][] want = {{0, 1, 0, 0}, {2, 2, 2, 0}, {3, 3, 1, 0}, {0, 1, 0, 1}, {3, 3, 1, 1}};
        due("failures", x.count(2), want.length);
        for (int i = 0; i < want.length; i++) {
            for (int what = 0; what < 4; what++) {
                due("failed(" + i + ", " + what + ")", x.failed(i, what), want[i][what]);
            }
        }
        due("bits of case 0", x.of(0, 4), 13);
        due("bits of case 1", x.of(1, 4), 9);
        for (int bad : new int[] {-1, 5, 60, MIN, MAX}) {
            badIndex("failed(" + bad + ", 0)", () -> x.failed(bad, 0));
        }
        for (int bad : new int[] {-1, 4, MIN, MAX}) {
            badIndex("failed(0, " + bad + ")", () -> x.failed(0, bad));
        }
    }

    private static void promise11FirstSixty() {
        RiskHouse x = new RiskHouse(10);
        for (int r = 0; r < 7; r++) {
            plain(x, ADD, 0);
        }
        for (int c = 0; c < 9; c++) {
            x.ask(0);
        }
        due("failure 59: rule", x.failed(59, 0), 59 % 7);
        due("failure 59: case", x.failed(59, 3), 59 / 7);
        due("failure 0: rule", x.failed(0, 0), 0);
        badIndex("failure 60", () -> x.failed(60, 0));
        due("bits of a case behind the 60", x.of(8, 4), 127);
        due("failures told", x.count(2), 63);
    }

    // ---- promise 12

    private static void promise12Edition() {
        RiskHouse x = new RiskHouse(100);
        rule(x, 1, true, NUMBER, 12, KEEP, 0);
        rule(x, 1, false, CELL, 0, NUMBER, 1, ADD, 0, KEEP, 0);
        rule(x, 3, false, FIELD, 0, KEEP, 0);
        due("rules of 1", x.edition(1, 2), 2);
        due("rules of 3", x.edition(3, 2), 1);
        due("rules of 0", x.edition(0, 2), 0);
        due("not started", x.edition(1, 1), 0);
        x.field(0, -1000);
        x.ask(0);
        x.ask(0);
        due("cell of 1", x.edition(1, 0), 14);
        due("cell of 3", x.edition(3, 0), -1000);
        due("cell of 0", x.edition(0, 0), 0);
        due("started", x.edition(1, 1), 1);
        due("started without a start", x.edition(3, 1), 1);
        due("no rules, not started", x.edition(2, 1), 0);
        for (int bad : new int[] {-1, 4, MIN, MAX}) {
            badIndex("edition(" + bad + ", 0)", () -> x.edition(bad, 0));
        }
        for (int bad : new int[] {-1, 3, MIN, MAX}) {
            badIndex("edition(0, " + bad + ")", () -> x.edition(0, bad));
        }
    }

    // ---- promise 13

    private static void promise13Look() {
        RiskHouse x = new RiskHouse(100);
        rule(x, 2, true, NUMBER, -7, NUMBER, 300);
        rule(x, 3, false, FIELD, 0);
        int[][] ahead = {{2, 1, 2, 0, 0}, {3, 0, 1, 0, 0}};
        lookAll(x, "ahead", ahead);
        x.field(0, -5);
        x.ask(0);
        int[][] behind = {{2, 1, 2, 300, 2}, {3, 0, 1, -5, 1}};
        lookAll(x, "behind", behind);
        for (int bad : new int[] {-1, 2, 12, MIN, MAX}) {
            badIndex("look(" + bad + ", 0)", () -> x.look(bad, 0));
        }
        for (int bad : new int[] {-1, 5, MIN, MAX}) {
            badIndex("look(0, " + bad + ")", () -> x.look(0, bad));
        }
    }

    private static void lookAll(RiskHouse x, String name, int[][] want) {
        for (int r = 0; r < want.length; r++) {
            for (int what = 0; what < 5; what++) {
                due(name + ": look(" + r + ", " + what + ")", x.look(r, what), want[r][what]);
            }
        }
    }

    // ---- promise 14

    private static void promise14Count() {
        RiskHouse x = new RiskHouse(100);
        plain(x, FIELD, 0);
        plain(x, ADD, 0);
        x.rule(1, true);
        x.tape(1);
        x.tape(2);
        x.tape(3);
        askWith(x, 0, 10);
        askWith(x, 1, 90);
        askWith(x, 1, 70);
        askWith(x, 2, 5);
        x.decide(1);
        int[] want = {3, 4, 4, 1, 2};
        for (int what = 0; what < want.length; what++) {
            due("count(" + what + ")", x.count(what), want[what]);
        }
        for (int f = 0; f < 8; f++) {
            x.field(f, 100 * f - 300);
        }
        for (int f = 0; f < 8; f++) {
            due("count(" + (10 + f) + ")", x.count(10 + f), 100 * f - 300);
        }
        for (int bad : new int[] {-1, 5, 6, 7, 8, 9, 18, 19, MIN, MIN + 9, MIN + 17, MAX}) {
            due("count(" + bad + ")", x.count(bad), -1);
        }
    }
}
