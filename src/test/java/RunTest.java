/** Promises 9 to 12: run, go, same and said. */
public final class RunTest {
    private static final int MIN = Integer.MIN_VALUE;
    private static final int MAX = Integer.MAX_VALUE;

    public static void main(String[] args) {
        Check check = new Check();
        arithmetic(check);
        numbersOfTheRun(check);
        results(check);
        faults(check);
        saidIsOfTheLatestRun(check);
        callsSpoil(check);
        nothingAllocated(check);
        check.end();
    }

    /** The result of op on x and y, as it was written and as allocated with every number of registers. */
    private static void both(Check check, int op, int x, int y, int due) {
        AllocForge forge = Check.forge(Check.arg(0), Check.arg(1), Check.two(op, 0, 1));
        String what = "op " + op + " of " + x + " and " + y;
        check.due(due, what + ": run", () -> forge.run(x, y, 0, 0));
        for (int k = 1; k <= 5; k++) {
            forge.allocate(k);
            check.due(due, what + ": go with " + k, () -> forge.go(x, y, 0, 0));
            check.due(true, what + ": same with " + k, () -> forge.same(x, y, 0, 0));
        }
    }

    private static void arithmetic(Check check) {
        both(check, 2, 3, 4, 7);
        both(check, 2, MAX, 1, MIN);
        both(check, 3, 3, 4, -1);
        both(check, 3, MIN, 1, MAX);
        both(check, 4, 3, -4, -12);
        both(check, 4, 65536, 65536, 0);
        both(check, 4, MAX, 2, -2);
        both(check, 5, 7, 2, 3);
        both(check, 5, -7, 2, -3);
        both(check, 5, 7, -2, -3);
        both(check, 5, MIN, -1, MIN);
        both(check, 5, 0, 5, 0);
        both(check, 7, 5, 0, 16);
        both(check, 7, -1, 0, -2);
        both(check, 7, MAX, 0, MAX - 1);
        both(check, 7, MIN, 0, MIN + 1);
    }

    private static void numbersOfTheRun(Check check) {
        for (int number = 0; number < 4; number++) {
            AllocForge forge = Check.forge(Check.arg(number));
            forge.allocate(1);
            int due = 11 + number;
            check.due(due, "run: ARG " + number, () -> forge.run(11, 12, 13, 14));
            check.due(due, "go: ARG " + number, () -> forge.go(11, 12, 13, 14));
        }
        AllocForge forge = Check.forge(Check.constant(MIN, 0));
        check.due(MIN, "CONST", () -> forge.run(1, 1, 1, 1));
    }

    private static void results(Check check) {
        AllocForge forge = Check.forge(Check.constant(8, 0), Check.say(0));
        forge.allocate(2);
        check.due(0, "run ends with a SAY", () -> forge.run(0, 0, 0, 0));
        check.due(0, "go ends with a SAY", () -> forge.go(0, 0, 0, 0));
        forge.add(3, 0, 0, 0);
        forge.add(0, 21, 0, 0);
        check.due(21, "the last one made, used by none", () -> forge.run(0, 0, 0, 0));
        forge.clear();
        forge.allocate(2);
        check.due(0, "run of no CODE", () -> forge.run(1, 2, 3, 4));
        check.due(0, "go of no CODE", () -> forge.go(1, 2, 3, 4));
    }

    private static void faults(Check check) {
        AllocForge forge = Check.forge(
                Check.arg(0), Check.arg(1), Check.say(0), Check.two(5, 0, 1), Check.say(3), Check.constant(9, 0));
        forge.allocate(3);
        check.fault("run by 0", () -> forge.run(6, 0, 0, 0));
        check.due(1, "SAID before the FAULT", () -> forge.count(2));
        check.due(6, "what was SAID before it", () -> forge.said(0));
        check.badIndex("nothing SAID behind it", () -> forge.said(1));
        check.fault("go by 0", () -> forge.go(7, 0, 0, 0));
        check.due(1, "SAID before the FAULT of go", () -> forge.count(2));
        check.due(7, "what was SAID before that", () -> forge.said(0));
        check.due(true, "same: both a FAULT", () -> forge.same(8, 0, 0, 0));
        check.due(8, "SAID in same", () -> forge.said(0));
        check.fault("0 by 0", () -> forge.run(0, 0, 0, 0));
        check.due(9, "run behind a FAULT", () -> forge.run(6, 3, 0, 0));
        check.due(9, "go behind a FAULT", () -> forge.go(6, 3, 0, 0));
        check.due(2, "SAID without a FAULT", () -> forge.count(2));
        check.due(2, "the second SAID", () -> forge.said(1));
    }

    private static void saidIsOfTheLatestRun(Check check) {
        AllocForge forge = Check.forge(Check.arg(0), Check.say(0), Check.arg(1), Check.say(2), Check.say(0));
        forge.allocate(2);
        check.badIndex("said(0) before all RUNS", () -> forge.said(0));
        forge.run(1, 2, 0, 0);
        said(check, "run", forge, 1, 2, 1);
        forge.go(3, 4, 0, 0);
        said(check, "go", forge, 3, 4, 3);
        forge.run(5, 6, 0, 0);
        said(check, "run again", forge, 5, 6, 5);
        forge.same(7, 8, 0, 0);
        said(check, "same", forge, 7, 8, 7);
        forge.add(6, 2, 0, 0);
        said(check, "same, then add", forge, 7, 8, 7);
        check.badState("go", () -> forge.go(0, 0, 0, 0));
        check.badState("same", () -> forge.same(0, 0, 0, 0));
        said(check, "refused RUNS", forge, 7, 8, 7);
        forge.clear();
        said(check, "clear", forge, 7, 8, 7);
        forge.run(0, 0, 0, 0);
        said(check, "a RUN that says nothing", forge);
        saysAll(check);
    }

    private static void said(Check check, String what, AllocForge forge, int... due) {
        check.due(due.length, what + ": count(2)", () -> forge.count(2));
        for (int i = 0; i < due.length; i++) {
            int number = i;
            check.due(due[i], what + ": said(" + i + ")", () -> forge.said(number));
        }
        for (int i : new int[] {-1, due.length, 24, MIN, MAX}) {
            check.badIndex(what + ": said(" + i + ")", () -> forge.said(i));
        }
    }

    private static void saysAll(Check check) {
        AllocForge forge = Check.forge(Check.arg(3));
        for (int i = 1; i < 24; i++) {
            forge.add(6, 0, 0, 0);
        }
        forge.allocate(1);
        check.due(true, "23 SAID twice", () -> forge.same(0, 0, 0, 5));
        check.due(23, "23 SAID", () -> forge.count(2));
        check.due(5, "the last of 23", () -> forge.said(22));
        check.badIndex("one more", () -> forge.said(23));
    }

    // The CALL takes its value from register 2, which it spoils, and puts its own there.
    private static void callsSpoil(Check check) {
        AllocForge forge = Check.forge(
                Check.arg(0), Check.arg(1), Check.arg(2), Check.call(2), Check.two(2, 0, 1), Check.two(4, 3, 4),
                Check.say(5));
        for (int k = 1; k <= 5; k++) {
            forge.allocate(k);
            check.due(0, "calls: go with " + k, () -> forge.go(2, 3, 4, 0));
            check.due(65, "calls: SAID with " + k, () -> forge.said(0));
            check.due(true, "calls: same with " + k, () -> forge.same(2, 3, 4, 0));
        }
        check.due(2, "calls: the CALL's place", () -> forge.place(3));
        check.due(2, "calls: its value's place", () -> forge.place(2));
    }

    private static void nothingAllocated(Check check) {
        AllocForge forge = Check.forge(Check.arg(0), Check.arg(1), Check.two(5, 0, 1));
        check.badState("go", () -> forge.go(1, 0, 0, 0));
        check.badState("same", () -> forge.same(1, 0, 0, 0));
        check.fault("run", () -> forge.run(1, 0, 0, 0));
    }
}
