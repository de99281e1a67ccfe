/** Promise 2: add. */
public final class Promise02AddTest {
    private static final int[] WRONG = {-1, 2, 5, 6, 23, 24, Forges.MIN, Forges.MAX};

    public static void main(String[] args) {
        new Check("Promise 2").lookAt(
                Promise02AddTest::behindAllOthers,
                Promise02AddTest::nothingIsAllocatedThen,
                Promise02AddTest::howMany,
                Promise02AddTest::wrongOperation,
                Promise02AddTest::wrongDepth,
                Promise02AddTest::wrongArgument,
                Promise02AddTest::wrongLeft,
                Promise02AddTest::wrongRight,
                Promise02AddTest::rightIsNotLookedAt,
                Promise02AddTest::leftMayBeAnyIntForAConstant,
                Promise02AddTest::full,
                Promise02AddTest::wrongNumberWith24);
    }

    private static void refused(Check check, String what, Check.Call call) {
        check.refused(IllegalArgumentException.class, what + " while ALLOCATED", Forges::busy, call);
        check.refused(IllegalArgumentException.class, what, Forges::idle, call);
    }

    private static void behindAllOthers(Check check) {
        check.sentence("An INSTRUCTION comes behind all others");
        AllocForge forge = Forges.of(Forges.constant(5));
        check.due(5, "RESULT of the first", () -> forge.run(0, 0, 0, 0));
        Forges.add(forge, Forges.constant(6));
        check.due(6, "RESULT with a second", () -> forge.run(0, 0, 0, 0));
        Forges.add(forge, Forges.two(Forges.SUB, 1, 0));
        check.due(1, "RESULT with a third, that uses both", () -> forge.run(0, 0, 0, 0));
    }

    private static void nothingIsAllocatedThen(Check check) {
        check.sentence("nothing is ALLOCATED then");
        int[][] rows = {Forges.constant(1), Forges.arg(1), Forges.two(Forges.ADD, 0, 1), Forges.say(3), Forges.call(3)};
        for (int[] row : rows) {
            AllocForge forge = Forges.busy();
            Forges.add(forge, row);
            String what = " behind op " + row[0];
            check.badState("place" + what, () -> forge.place(0));
            check.badState("cost" + what, () -> forge.cost());
            check.badState("go" + what, () -> forge.go(1, 1, 1, 1));
            check.badState("same" + what, () -> forge.same(1, 1, 1, 1));
            for (int number = 3; number <= 7; number++) {
                int count = number;
                check.due(0, "count(" + number + ")" + what, () -> forge.count(count));
            }
            check.due(2, "numbers SAID" + what, () -> forge.count(2));
        }
        AllocForge empty = new AllocForge();
        empty.allocate(3);
        empty.add(0, 0, 0, 0);
        check.badState("cost behind the first add", () -> empty.cost());
    }

    private static void howMany(Check check) {
        check.sentence("how many");
        AllocForge forge = new AllocForge();
        for (int i = 1; i <= 24; i++) {
            int op = i % 2 == 0 ? 6 : 0;
            check.due(i, "add number " + i, () -> forge.add(op, 0, 0, 0));
        }
        check.due(24, "INSTRUCTIONS", () -> forge.count(0));
        check.due(12, "VALUES", () -> forge.count(1));
    }

    private static void wrongOperation(Check check) {
        check.sentence("IllegalArgumentException if a number is not as said: op");
        for (int op : new int[] {-1, 8, Forges.MIN, Forges.MAX}) {
            refused(check, "add with op " + op, forge -> forge.add(op, 0, 0, 0));
        }
    }

    private static void wrongDepth(Check check) {
        check.sentence("IllegalArgumentException if a number is not as said: depth");
        for (int depth : new int[] {-1, 4, Forges.MIN, Forges.MAX}) {
            for (int op = 0; op <= 7; op++) {
                int number = op;
                refused(check, "add with op " + op + ", depth " + depth, forge -> forge.add(number, 0, 0, depth));
            }
        }
    }

    private static void wrongArgument(Check check) {
        check.sentence("IllegalArgumentException if a number is not as said: a of an ARG");
        for (int a : new int[] {-1, 4, 5, Forges.MIN, Forges.MAX}) {
            refused(check, "add of ARG " + a, forge -> forge.add(1, a, 0, 0));
        }
    }

    private static void wrongLeft(Check check) {
        check.sentence("IllegalArgumentException if a number is not as said: a");
        for (int op = 2; op <= 7; op++) {
            int number = op;
            for (int a : WRONG) {
                refused(check, "add with op " + op + ", a " + a, forge -> forge.add(number, a, 0, 0));
            }
        }
    }

    private static void wrongRight(Check check) {
        check.sentence("IllegalArgumentException if a number is not as said: b");
        for (int op = 2; op <= 5; op++) {
            int number = op;
            for (int b : WRONG) {
                refused(check, "add with op " + op + ", b " + b, forge -> forge.add(number, 0, b, 0));
            }
        }
    }

    private static void rightIsNotLookedAt(Check check) {
        check.sentence("(b is looked at for 2 to 5)");
        for (int op : new int[] {0, 1, 6, 7}) {
            for (int b : WRONG) {
                AllocForge forge = Forges.busy();
                check.due(6, "add with op " + op + ", b " + b, () -> forge.add(op, 0, b, 0));
            }
            AllocForge used = Forges.busy();
            used.add(op, 0, 3, 0);
            check.due(1, "uses of 3 behind op " + op + " with b 3", () -> used.told(3, 1));
        }
    }

    private static void leftMayBeAnyIntForAConstant(Check check) {
        check.sentence("(but 0: any int");
        for (int a : WRONG) {
            AllocForge forge = Forges.busy();
            check.due(6, "add of CONST " + a, () -> forge.add(0, a, 0, 0));
            check.due(a, "RESULT", () -> forge.run(7, 2, 0, 0));
        }
    }

    private static AllocForge fullAndAllocated() {
        AllocForge forge = Forges.full();
        forge.allocate(1);
        forge.go(1, 0, 0, 0);
        return forge;
    }

    private static void full(Check check) {
        check.sentence("IllegalStateException with 24");
        int[][] rows = {Forges.constant(1), Forges.arg(0), Forges.two(Forges.ADD, 0, 23), Forges.two(Forges.DIV, 23, 0),
            Forges.say(23), Forges.call(0)};
        for (int[] row : rows) {
            Check.Call call = forge -> forge.add(row[0], row[1], row[2], row[3]);
            check.refused(IllegalStateException.class, "op " + row[0], Promise02AddTest::fullAndAllocated, call);
        }
        AllocForge forge = Forges.full();
        forge.clear();
        check.due(1, "add behind clear", () -> forge.add(0, 0, 0, 0));
    }

    // Both exceptions fit; IllegalArgumentException is the one named first.
    private static void wrongNumberWith24(Check check) {
        check.sentence("IllegalArgumentException if a number is not as said; IllegalStateException with 24");
        int[][] rows = {{8, 0, 0, 0}, {0, 0, 0, 4}, {1, 4, 0, 0}, {6, 24, 0, 0}, {2, 0, 24, 0}, {7, -1, 0, 0}};
        for (int[] row : rows) {
            String what = "add(" + row[0] + ", " + row[1] + ", " + row[2] + ", " + row[3] + ")";
            Check.Call call = forge -> forge.add(row[0], row[1], row[2], row[3]);
            check.refused(IllegalArgumentException.class, what, Promise02AddTest::fullAndAllocated, call);
        }
    }
}
