/** The document's terms on what a RUN does, as it was written and as ALLOCATED. */
public final class TermsRunTest {
    private static final int MIN = Forges.MIN;
    private static final int MAX = Forges.MAX;
    private static final int CALL = 7;

    public static void main(String[] args) {
        new Check("Terms of a RUN").lookAt(
                TermsRunTest::wrapping,
                TermsRunTest::divisions,
                TermsRunTest::divisionsByZero,
                TermsRunTest::calls,
                TermsRunTest::callsSpoil,
                TermsRunTest::placesAreTakenFromBeforeTheyArePutTo,
                TermsRunTest::everyRunBeginsAnew,
                TermsRunTest::results);
    }

    /** What op makes of x and y, as it was written and as ALLOCATED with every number of REGISTERS. */
    private static void made(Check check, int op, int x, int y, int due) {
        AllocForge forge = Forges.of(Forges.arg(0), Forges.arg(1), Forges.two(op, 0, 1));
        String what = "op " + op + " of " + x + " and " + y;
        check.due(due, what + ", run", () -> forge.run(x, y, 0, 0));
        for (int k = 1; k <= 5; k++) {
            forge.allocate(k);
            check.due(due, what + ", go with " + k, () -> forge.go(x, y, 0, 0));
        }
    }

    private static void wrapping(Check check) {
        check.sentence("2 ADD, 3 SUB, 4 MUL: a and b, wrapping");
        made(check, Forges.ADD, 3, 4, 7);
        made(check, Forges.ADD, MAX, 1, MIN);
        made(check, Forges.ADD, MIN, -1, MAX);
        made(check, Forges.ADD, MIN, MIN, 0);
        made(check, Forges.SUB, 3, 4, -1);
        made(check, Forges.SUB, MIN, 1, MAX);
        made(check, Forges.SUB, MAX, -1, MIN);
        made(check, Forges.SUB, 0, MIN, MIN);
        made(check, Forges.MUL, 3, -4, -12);
        made(check, Forges.MUL, 65536, 65536, 0);
        made(check, Forges.MUL, MAX, 2, -2);
        made(check, Forges.MUL, MAX, MAX, 1);
        made(check, Forges.MUL, MIN, -1, MIN);
    }

    private static void divisions(Check check) {
        check.sentence("5 DIV: as in Java");
        made(check, Forges.DIV, 7, 2, 3);
        made(check, Forges.DIV, -7, 2, -3);
        made(check, Forges.DIV, 7, -2, -3);
        made(check, Forges.DIV, -7, -2, 3);
        made(check, Forges.DIV, MIN, -1, MIN);
        made(check, Forges.DIV, MIN, 1, MIN);
        made(check, Forges.DIV, MAX, MIN, 0);
        made(check, Forges.DIV, 0, 5, 0);
        made(check, Forges.DIV, 1, MAX, 0);
    }

    private static void divisionsByZero(Check check) {
        check.sentence("by 0 it is a FAULT");
        AllocForge forge = Forges.of(Forges.arg(0), Forges.arg(1), Forges.two(Forges.DIV, 0, 1));
        for (int k = 1; k <= 5; k++) {
            forge.allocate(k);
            for (int x : new int[] {1, 0, -1, MIN, MAX}) {
                check.fault("run, " + x + " by 0", () -> forge.run(x, 0, 0, 0));
                check.fault("go with " + k + ", " + x + " by 0", () -> forge.go(x, 0, 0, 0));
            }
        }
        AllocForge self = Forges.of(Forges.arg(0), Forges.two(Forges.DIV, 0, 0), Forges.constant(9));
        check.fault("by itself, 0, nobody using what it makes", () -> self.run(0, 0, 0, 0));
        check.due(9, "by itself, not 0", () -> self.run(5, 0, 0, 0));
    }

    private static void calls(Check check) {
        check.sentence("7 CALL: VALUE a times 3, and 1 more, wrapping");
        made(check, CALL, 5, 0, 16);
        made(check, CALL, 0, 0, 1);
        made(check, CALL, -1, 0, -2);
        made(check, CALL, MAX, 0, MAX - 1);
        made(check, CALL, MIN, 0, MIN + 1);
        made(check, CALL, 715827882, 0, MAX);
        made(check, CALL, 715827883, 0, MIN + 2);
    }

    // VALUES 0 and 1 live across the CALL, in REGISTERS that it leaves alone; with 3 and more, the CALL
    // takes from REGISTER 2, which it spoils, and puts there what it makes.
    private static void callsSpoil(Check check) {
        check.sentence("a CALL makes REGISTERS from 2 on -1 before it puts something");
        AllocForge forge = Forges.of(
                Forges.arg(0), Forges.arg(1), Forges.arg(2), Forges.call(2), Forges.two(Forges.ADD, 0, 1),
                Forges.two(Forges.MUL, 3, 4), Forges.say(5));
        for (int k = 1; k <= 5; k++) {
            forge.allocate(k);
            check.due(0, "go with " + k, () -> forge.go(2, 3, 4, 0));
            check.due(65, "SAID with " + k, () -> forge.said(0));
            check.due(true, "same with " + k, () -> forge.same(2, 3, 4, 0));
        }
        check.due(2, "where the CALL takes from", () -> forge.place(2));
        check.due(2, "where the CALL puts to", () -> forge.place(3));
        AllocForge last = Forges.of(
                Forges.arg(0), Forges.arg(1), Forges.arg(2), Forges.arg(3), Forges.constant(100), Forges.call(4),
                Forges.two(Forges.SUB, 5, 0), Forges.two(Forges.SUB, 6, 1));
        last.allocate(5);
        check.due(301 - 10 - 20, "go with VALUES in REGISTERS to 4", () -> last.go(10, 20, 30, 40));
        check.due(true, "same with VALUES in REGISTERS to 4", () -> last.same(10, 20, 30, 40));
    }

    private static void placesAreTakenFromBeforeTheyArePutTo(Check check) {
        check.sentence("an INSTRUCTION takes a and b from where they are, and puts what it makes where that is");
        AllocForge chain = Forges.full();
        chain.allocate(2);
        check.due(24 * 5, "go where each is put where the one before was", () -> chain.go(5, 0, 0, 0));
        AllocForge crowd = new AllocForge();
        for (int v = 0; v < 8; v++) {
            crowd.add(0, 1 << v, 0, 0);
        }
        crowd.add(Forges.ADD, 0, 1, 0);
        for (int v = 2; v < 8; v++) {
            crowd.add(Forges.ADD, v, v + 6, 0);
        }
        for (int k = 3; k <= 5; k++) {
            crowd.allocate(k);
            check.due(255, "go with many in SLOTS, " + k, () -> crowd.go(0, 0, 0, 0));
            check.due(true, "same with many in SLOTS, " + k, () -> crowd.same(0, 0, 0, 0));
        }
    }

    private static void everyRunBeginsAnew(Check check) {
        check.sentence("As ALLOCATED it goes by REGISTERS and SLOTS, all 0 at first");
        AllocForge forge = Forges.of(
                Forges.arg(0), Forges.arg(1), Forges.arg(2), Forges.two(Forges.SUB, 0, 1),
                Forges.two(Forges.SUB, 3, 2));
        for (int k = 1; k <= 3; k++) {
            forge.allocate(k);
            check.due(100, "go with " + k, () -> forge.go(111, 10, 1, 0));
            check.due(-5, "go again with " + k, () -> forge.go(0, 2, 3, 0));
            check.due(100, "go as at first with " + k, () -> forge.go(111, 10, 1, 0));
        }
    }

    private static void results(Check check) {
        check.sentence("THE RESULT is what the last INSTRUCTION made (0 if it is a SAY, or there is none)");
        AllocForge forge = new AllocForge();
        check.due(0, "run of none", () -> forge.run(1, 2, 3, 4));
        forge.allocate(1);
        check.due(0, "go of none", () -> forge.go(1, 2, 3, 4));
        Forges.add(forge, Forges.constant(8), Forges.say(0));
        forge.allocate(1);
        check.due(0, "run that ends with a SAY", () -> forge.run(0, 0, 0, 0));
        check.due(0, "go that ends with a SAY", () -> forge.go(0, 0, 0, 0));
        Forges.add(forge, Forges.two(Forges.SUB, 0, 0), Forges.constant(21));
        forge.allocate(1);
        check.due(21, "run that ends with one used by none", () -> forge.run(0, 0, 0, 0));
        check.due(21, "go that ends with one used by none", () -> forge.go(0, 0, 0, 0));
        forge.clear();
        check.due(0, "run of none any more", () -> forge.run(1, 2, 3, 4));
        forge.allocate(1);
        check.due(0, "go of none any more", () -> forge.go(1, 2, 3, 4));
    }
}
