/** The document's terms on CODE, lives and weights, and how long an object is used. */
public final class TermsCodeTest {
    private static final int SAY = 6;
    private static final int CALL = 7;

    public static void main(String[] args) {
        new Check("Terms of CODE").lookAt(
                TermsCodeTest::usedFor512Calls,
                TermsCodeTest::atMost24Instructions,
                TermsCodeTest::depths,
                TermsCodeTest::valuesMadeBefore,
                TermsCodeTest::constantsAndArguments,
                TermsCodeTest::operations,
                TermsCodeTest::sayMakesNoValue,
                TermsCodeTest::ends,
                TermsCodeTest::meetings,
                TermsCodeTest::crossings,
                TermsCodeTest::prices,
                TermsCodeTest::weights);
    }

    private static void usedFor512Calls(Check check) {
        check.sentence("An object is used for at most 512 calls after it has been made");
        AllocForge forge = new AllocForge();
        int calls = 0;
        for (int turn = 0; turn < 17; turn++) {
            check.due(1, "call " + (calls + 1) + ", add", () -> forge.add(1, 0, 0, 0));
            for (int i = 1; i < 24; i++) {
                int v = i - 1;
                check.due(i + 1, "call " + (calls + i + 1) + ", add", () -> forge.add(CALL, v, 0, 3));
            }
            check.due(24, "call " + (calls + 25) + ", allocate", () -> forge.allocate(5));
            int number = turn;
            check.due(true, "call " + (calls + 26) + ", same", () -> forge.same(number, 0, 0, 0));
            int due = tripled(number, 23);
            check.due(due, "call " + (calls + 27) + ", go", () -> forge.go(number, 0, 0, 0));
            check.due(due, "call " + (calls + 28) + ", run", () -> forge.run(number, 0, 0, 0));
            check.due(0.0, "call " + (calls + 29) + ", cost", () -> forge.cost());
            check.due(24, "call " + (calls + 30) + ", clear", () -> forge.clear());
            calls += 30;
        }
        check.due(1, "call 511, add", () -> forge.add(0, -7, 0, 0));
        check.due(-7, "call 512, run", () -> forge.run(0, 0, 0, 0));
    }

    private static int tripled(int number, int times) {
        int due = number;
        for (int i = 0; i < times; i++) {
            due = due * 3 + 1;
        }
        return due;
    }

    private static void atMost24Instructions(Check check) {
        check.sentence("CODE is a row of at most 24 INSTRUCTIONS");
        AllocForge forge = Forges.full();
        check.due(24, "24 INSTRUCTIONS", () -> forge.count(0));
        check.due(24 * 11, "run of all 24", () -> forge.run(11, 0, 0, 0));
        check.due(23, "THE END of the first one", () -> forge.told(0, 0));
        check.due(24, "THE END of the last one", () -> forge.told(23, 0));
        check.badState("one more", () -> forge.add(0, 0, 0, 0));
        AllocForge saying = Forges.of(Forges.arg(0));
        for (int i = 1; i < 24; i++) {
            saying.add(SAY, 0, 0, 0);
        }
        check.badState("one more behind 23 that make no VALUE", () -> saying.add(SAY, 0, 0, 0));
    }

    private static void depths(Check check) {
        check.sentence("each with a DEPTH (0 to 3)");
        AllocForge forge = new AllocForge();
        for (int depth = 0; depth <= 3; depth++) {
            int number = depth;
            check.due(depth + 1, "DEPTH " + depth, () -> forge.add(0, 5, 0, number));
        }
        for (int depth : new int[] {-1, 4, Forges.MIN, Forges.MAX}) {
            check.badArgument("CONST with DEPTH " + depth, () -> forge.add(0, 5, 0, depth));
            check.badArgument("SAY with DEPTH " + depth, () -> forge.add(SAY, 0, 0, depth));
        }
    }

    private static void valuesMadeBefore(Check check) {
        check.sentence("a and b are VALUES made before it");
        for (int op = Forges.ADD; op <= CALL; op++) {
            int number = op;
            check.badArgument("op " + op + " before all VALUES", () -> new AllocForge().add(number, 0, 0, 0));
            check.due(4, "op " + op + " of the latest", () -> third().add(number, 2, 2, 0));
            check.due(4, "op " + op + " of the first", () -> third().add(number, 0, 0, 0));
            for (int v : new int[] {-1, 1, 3, 4, 23, 24, Forges.MIN, Forges.MAX}) {
                check.badArgument("op " + op + " of a " + v, () -> third().add(number, v, 0, 0));
            }
        }
        for (int op = Forges.ADD; op <= Forges.DIV; op++) {
            int number = op;
            for (int v : new int[] {-1, 1, 3, 4, 23, 24, Forges.MIN, Forges.MAX}) {
                check.badArgument("op " + op + " of b " + v, () -> third().add(number, 0, v, 0));
            }
        }
    }

    /** VALUES 0 and 2, and a SAY between them. */
    private static AllocForge third() {
        return Forges.of(Forges.constant(5), Forges.say(0), Forges.constant(6));
    }

    private static void constantsAndArguments(Check check) {
        check.sentence("(but 0: any int; 1: 0 to 3)");
        for (int number : new int[] {Forges.MIN, -1, 0, 1, 4, 24, Forges.MAX}) {
            AllocForge forge = Forges.of(Forges.constant(number));
            check.due(number, "run of CONST " + number, () -> forge.run(1, 2, 3, 4));
        }
        for (int number = 0; number <= 3; number++) {
            AllocForge forge = Forges.of(Forges.arg(number));
            check.due(11 + number, "run of ARG " + number, () -> forge.run(11, 12, 13, 14));
        }
        for (int number : new int[] {-1, 4, Forges.MIN, Forges.MAX}) {
            check.badArgument("ARG " + number, () -> new AllocForge().add(1, number, 0, 0));
        }
    }

    private static void operations(Check check) {
        check.sentence("(op, a, b): 0 CONST to 7 CALL");
        for (int op = 0; op <= CALL; op++) {
            int number = op;
            check.due(2, "op " + op, () -> Forges.of(Forges.constant(5)).add(number, 0, 0, 0));
        }
        for (int op : new int[] {-1, 8, Forges.MIN, Forges.MAX}) {
            check.badArgument("op " + op, () -> Forges.of(Forges.constant(5)).add(op, 0, 0, 0));
        }
    }

    private static void sayMakesNoValue(Check check) {
        check.sentence("6 SAY: VALUE a is SAID; it makes no VALUE");
        AllocForge forge = Forges.of(Forges.constant(5), Forges.say(0), Forges.constant(6));
        check.due(3, "INSTRUCTIONS", () -> forge.count(0));
        check.due(2, "VALUES", () -> forge.count(1));
        check.badIndex("weight of it", () -> forge.weight(1));
        check.badIndex("told of it", () -> forge.told(1, 0));
        check.badArgument("a SAY of it", () -> forge.add(SAY, 1, 0, 0));
        check.due(2, "allocate gives a REGISTER to VALUES alone", () -> forge.allocate(5));
        check.badIndex("place of it", () -> forge.place(1));
        check.due(6, "run", () -> forge.run(0, 0, 0, 0));
        check.due(5, "what was SAID", () -> forge.said(0));
        check.due(1, "how much was SAID", () -> forge.count(2));
    }

    private static void ends(Check check) {
        check.sentence("THE END of VALUE v is the last INSTRUCTION that uses it, but at least v + 1");
        AllocForge forge = Forges.of(
                Forges.constant(1), Forges.constant(2), Forges.two(Forges.ADD, 0, 0), Forges.say(0), Forges.call(2));
        check.due(3, "the last of several uses", () -> forge.told(0, 0));
        check.due(2, "no use", () -> forge.told(1, 0));
        check.due(4, "a use by a CALL", () -> forge.told(2, 0));
        check.due(5, "the last INSTRUCTION's", () -> forge.told(4, 0));
        Forges.add(forge, Forges.two(Forges.DIV, 0, 4));
        check.due(5, "a new use as a", () -> forge.told(0, 0));
        check.due(5, "a use as b by the next one", () -> forge.told(4, 0));
        check.due(6, "the new one's", () -> forge.told(5, 0));
        Forges.add(forge, Forges.constant(0), Forges.arg(1));
        check.due(5, "a of a CONST is no use", () -> forge.told(0, 0));
        check.due(2, "a of an ARG is no use", () -> forge.told(1, 0));
    }

    private static void meetings(Check check) {
        check.sentence("VALUES v and w MEET, if v is less than THE END of w and w less than THE END of v");
        AllocForge forge = Forges.of(
                Forges.constant(1), Forges.constant(2), Forges.say(1), Forges.two(Forges.ADD, 0, 1), Forges.say(3),
                Forges.constant(7));
        check.due(1, "0 with 1 alone: 3 begins where 0 ends", () -> forge.told(0, 3));
        check.due(1, "1 with 0 alone: 3 begins where 1 ends", () -> forge.told(1, 3));
        check.due(0, "3 with none, not with itself, nor with the SAY inside", () -> forge.told(3, 3));
        check.due(0, "5 with none", () -> forge.told(5, 3));
        Forges.add(forge, Forges.say(0));
        check.due(3, "0 with 1, 3 and 5 by a later use", () -> forge.told(0, 3));
        check.due(1, "5 with 0, that ends behind it", () -> forge.told(5, 3));
        AllocForge all = Forges.crowd(12);
        check.due(11, "the first of 12 that live at once", () -> all.told(0, 3));
        check.due(11, "the last of them", () -> all.told(11, 3));
    }

    private static void crossings(Check check) {
        check.sentence("A VALUE is CROSSED if there is a CALL behind v and before THE END");
        AllocForge forge = Forges.of(
                Forges.constant(1), Forges.constant(2), Forges.call(1), Forges.two(Forges.ADD, 0, 2),
                Forges.constant(3), Forges.call(3));
        check.due(1, "a CALL inside", () -> forge.told(0, 2));
        check.due(0, "a CALL at THE END", () -> forge.told(1, 2));
        check.due(0, "made by a CALL", () -> forge.told(2, 2));
        check.due(0, "a CALL at THE END, and one before v", () -> forge.told(3, 2));
        check.due(0, "no use, a CALL next", () -> forge.told(4, 2));
        check.due(0, "the last one, a CALL", () -> forge.told(5, 2));
        Forges.add(forge, Forges.say(4));
        check.due(1, "a later use", () -> forge.told(4, 2));
        AllocForge close = Forges.of(Forges.constant(1), Forges.call(0), Forges.say(0));
        check.due(1, "a CALL at v + 1, THE END at v + 2", () -> close.told(0, 2));
    }

    private static void prices(Check check) {
        check.sentence("THE PRICE of a place is 1, 10, 100, 1000 by its DEPTH");
        double[] due = {1.0, 10.0, 100.0, 1000.0};
        for (int depth = 0; depth <= 3; depth++) {
            AllocForge forge = Forges.of(Forges.constant(1, depth));
            check.due(due[depth], "made at DEPTH " + depth, () -> forge.weight(0));
            AllocForge used = Forges.of(Forges.constant(1), Forges.say(0, depth));
            check.due(1.0 + due[depth], "used at DEPTH " + depth, () -> used.weight(0));
        }
    }

    private static void weights(Check check) {
        check.sentence("of each of its uses (twice, if a and b are it), as a double, divided by its LENGTH");
        AllocForge forge = Forges.of(Forges.constant(1), Forges.constant(2, 3));
        check.due(1.0, "no use", () -> forge.weight(0));
        forge.add(Forges.ADD, 0, 0, 1);
        check.due(21.0 / 2, "twice used at DEPTH 1", () -> forge.weight(0));
        forge.add(Forges.SUB, 0, 2, 2);
        check.due(121.0 / 3, "used again at DEPTH 2", () -> forge.weight(0));
        check.due(110.0, "made at DEPTH 1, used as b at 2", () -> forge.weight(2));
        forge.add(SAY, 1, 0, 0);
        check.due(1001.0 / 3, "SAID at DEPTH 0", () -> forge.weight(1));
        AllocForge most = Forges.of(Forges.constant(1, 3));
        for (int i = 1; i < 24; i++) {
            most.add(Forges.MUL, 0, 0, 3);
        }
        check.due(47000.0 / 23, "used 46 times at DEPTH 3", () -> most.weight(0));
        AllocForge long0 = Forges.of(Forges.constant(1));
        for (int i = 1; i < 23; i++) {
            long0.add(0, 0, 0, 0);
        }
        long0.add(SAY, 0, 0, 0);
        check.due(2.0 / 23, "the greatest LENGTH, less than 1", () -> long0.weight(0));
    }
}
