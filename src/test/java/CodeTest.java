/** Promises 1 to 3: a new object, add and clear. */
public final class CodeTest {
    private static final int MIN = Integer.MIN_VALUE;
    private static final int MAX = Integer.MAX_VALUE;

    public static void main(String[] args) {
        Check check = new Check();
        newObject(check);
        addOrdinary(check);
        addWrongNumbers(check);
        addWithoutAnythingBefore(check);
        addToFullCode(check);
        addEndsAllocation(check);
        clearing(check);
        check.end();
    }

    private static void newObject(Check check) {
        AllocForge forge = new AllocForge();
        for (int what = 0; what <= 7; what++) {
            int number = what;
            check.due(0, "new: count(" + what + ")", () -> forge.count(number));
        }
        check.badIndex("new: place(0)", () -> forge.place(0));
        check.badIndex("new: weight(0)", () -> forge.weight(0));
        check.badIndex("new: told(0, 0)", () -> forge.told(0, 0));
        check.badState("new: cost()", () -> forge.cost());
        check.badState("new: go", () -> forge.go(1, 2, 3, 4));
        check.badState("new: same", () -> forge.same(1, 2, 3, 4));
        check.badIndex("new: said(0)", () -> forge.said(0));
        check.due(0, "new: run", () -> forge.run(1, 2, 3, 4));
        check.due(0, "new: clear()", () -> forge.clear());
    }

    private static void addOrdinary(Check check) {
        AllocForge forge = new AllocForge();
        check.due(1, "add CONST least", () -> forge.add(0, MIN, MIN, 0));
        check.due(2, "add CONST greatest", () -> forge.add(0, MAX, MAX, 3));
        check.due(3, "add ARG 0", () -> forge.add(1, 0, -1, 1));
        check.due(4, "add ARG 3", () -> forge.add(1, 3, 99, 2));
        for (int op = 2; op <= 5; op++) {
            int number = op;
            check.due(op + 3, "add with two values, op " + op, () -> forge.add(number, number + 1, 0, 0));
        }
        check.due(9, "add SAY", () -> forge.add(6, 7, -5, 0));
        check.due(10, "add CALL", () -> forge.add(7, 7, 99, 0));
        check.due(10, "INSTRUCTIONS", () -> forge.count(0));
        check.due(9, "VALUES", () -> forge.count(1));
    }

    private static void addWrongNumbers(Check check) {
        AllocForge forge = Check.forge(Check.constant(5, 0), Check.say(0), Check.constant(6, 0));
        forge.allocate(2);
        for (int op : new int[] {-1, 8, MIN, MAX}) {
            check.badArgument("add op " + op, () -> forge.add(op, 0, 0, 0));
        }
        for (int depth : new int[] {-1, 4, MIN, MAX}) {
            check.badArgument("add depth " + depth, () -> forge.add(0, 0, 0, depth));
        }
        for (int number : new int[] {-1, 4, MIN, MAX}) {
            check.badArgument("add ARG " + number, () -> forge.add(1, number, 0, 0));
        }
        for (int v : new int[] {-1, 1, 3, 4, 24, MIN, MAX}) {
            for (int op = 2; op <= 7; op++) {
                int number = op;
                check.badArgument("add op " + op + " a " + v, () -> forge.add(number, v, 0, 0));
            }
            for (int op = 2; op <= 5; op++) {
                int number = op;
                check.badArgument("add op " + op + " b " + v, () -> forge.add(number, 0, v, 0));
            }
        }
        check.due(3, "INSTRUCTIONS behind wrong ones", () -> forge.count(0));
        check.due(1, "uses behind wrong ones", () -> forge.told(0, 1));
        check.due(2, "still ALLOCATED behind wrong ones", () -> forge.count(7));
    }

    private static void addWithoutAnythingBefore(Check check) {
        AllocForge forge = new AllocForge();
        for (int op = 2; op <= 7; op++) {
            int number = op;
            check.badArgument("first of all: op " + op, () -> forge.add(number, 0, 0, 0));
        }
        check.due(0, "INSTRUCTIONS", () -> forge.count(0));
    }

    private static void addToFullCode(Check check) {
        AllocForge forge = new AllocForge();
        for (int i = 0; i < 24; i++) {
            int number = i;
            check.due(i + 1, "add number " + i, () -> forge.add(0, number, 0, 0));
        }
        forge.allocate(1);
        check.badState("add with 24", () -> forge.add(0, 0, 0, 0));
        check.badState("add SAY with 24", () -> forge.add(6, 23, 0, 0));
        check.badArgument("a wrong add with 24", () -> forge.add(8, 0, 0, 0));
        check.badArgument("a wrong value with 24", () -> forge.add(6, 24, 0, 0));
        check.due(24, "INSTRUCTIONS", () -> forge.count(0));
        check.due(1, "still ALLOCATED behind a refused add", () -> forge.count(7));
        check.due(23, "RESULT of the last of 24", () -> forge.go(0, 0, 0, 0));
        check.due(24, "clear() of 24", () -> forge.clear());
        check.due(1, "add behind clear()", () -> forge.add(0, 0, 0, 0));
    }

    private static void addEndsAllocation(Check check) {
        AllocForge forge = Check.forge(Check.constant(5, 0), Check.constant(6, 0), Check.two(2, 0, 1));
        forge.allocate(1);
        check.due(1, "EVICTED before add", () -> forge.count(3));
        forge.add(6, 2, 0, 0);
        check.badState("place behind add", () -> forge.place(0));
        check.badState("cost behind add", () -> forge.cost());
        check.badState("go behind add", () -> forge.go(0, 0, 0, 0));
        check.badState("same behind add", () -> forge.same(0, 0, 0, 0));
        for (int what = 3; what <= 7; what++) {
            int number = what;
            check.due(0, "count(" + what + ") behind add", () -> forge.count(number));
        }
    }

    private static void clearing(Check check) {
        AllocForge forge = Check.forge(Check.constant(5, 2), Check.constant(6, 2), Check.two(2, 0, 1), Check.say(2));
        forge.allocate(1);
        forge.run(0, 0, 0, 0);
        check.due(4, "clear()", () -> forge.clear());
        check.due(0, "INSTRUCTIONS behind clear()", () -> forge.count(0));
        check.due(0, "VALUES behind clear()", () -> forge.count(1));
        for (int what = 3; what <= 7; what++) {
            int number = what;
            check.due(0, "count(" + what + ") behind clear()", () -> forge.count(number));
        }
        check.badIndex("weight behind clear()", () -> forge.weight(0));
        check.badIndex("told behind clear()", () -> forge.told(0, 0));
        check.badIndex("place behind clear()", () -> forge.place(0));
        check.badState("cost behind clear()", () -> forge.cost());
        check.badState("go behind clear()", () -> forge.go(0, 0, 0, 0));
        check.badState("same behind clear()", () -> forge.same(0, 0, 0, 0));
        check.badArgument("a value from before clear()", () -> forge.add(6, 0, 0, 0));
        check.due(11, "SAID in the latest RUN, behind clear()", () -> forge.said(0));
        check.due(0, "clear() again", () -> forge.clear());
        check.due(0, "run of no CODE", () -> forge.run(1, 2, 3, 4));
        check.due(0, "SAID in the RUN of no CODE", () -> forge.count(2));
        newCodeHasNothingOfTheOld(check, forge);
    }

    private static void newCodeHasNothingOfTheOld(Check check, AllocForge forge) {
        forge.add(0, 9, 0, 0);
        check.due(1, "THE END in new CODE", () -> forge.told(0, 0));
        check.due(0, "uses in new CODE", () -> forge.told(0, 1));
        check.due(1.0, "THE WEIGHT in new CODE", () -> forge.weight(0));
        check.due(9, "RESULT of new CODE", () -> forge.run(0, 0, 0, 0));
    }
}
