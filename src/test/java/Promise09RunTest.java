import java.util.List;

/** Promise 9: run. */
public final class Promise09RunTest {
    public static void main(String[] args) {
        new Check("Promise 9").lookAt(
                Promise09RunTest::results,
                Promise09RunTest::noCode,
                Promise09RunTest::saidIsOfIt,
                Promise09RunTest::faults,
                Promise09RunTest::changesNothingElse);
    }

    private static void results(Check check) {
        check.sentence("A RUN as it was written with these numbers: THE RESULT");
        for (int number = 0; number < 4; number++) {
            AllocForge forge = Forges.of(Forges.arg(number));
            check.due(11 + number, "number " + number, () -> forge.run(11, 12, 13, 14));
            check.due(-11 - number, "number " + number + " of the next RUN", () -> forge.run(-11, -12, -13, -14));
        }
        check.due(24 * Forges.MAX, "all 24, wrapping", () -> Forges.full().run(Forges.MAX, 0, 0, 0));
        AllocForge roomless = Forges.crowd(12);
        check.due(0, "CODE for which there is no room", () -> roomless.run(0, 0, 0, 0));
        check.due(11, "its last number SAID", () -> roomless.said(11));
    }

    private static void noCode(Check check) {
        check.sentence("THE RESULT (0 if there is none)");
        check.due(0, "no CODE", () -> new AllocForge().run(1, 2, 3, 4));
        AllocForge forge = Forges.busy();
        Forges.add(forge, Forges.constant(5));
        check.due(5, "CODE", () -> forge.run(1, 2, 3, 4));
        forge.clear();
        check.due(0, "no CODE any more", () -> forge.run(1, 2, 3, 4));
        check.due(0, "numbers SAID", () -> forge.count(2));
    }

    private static void saidIsOfIt(Check check) {
        check.sentence("what was SAID is of it from now on");
        AllocForge forge = Forges.busy();
        forge.go(90, 9, 0, 0);
        forge.run(8, 4, 0, 0);
        check.due(4, "said(0) behind go and run", () -> forge.said(0));
        check.due(2, "said(1) behind go and run", () -> forge.said(1));
        check.due(2, "how many", () -> forge.count(2));
        forge.same(90, 9, 0, 0);
        forge.run(8, 1, 0, 0);
        check.due(1, "said(0) behind same and run", () -> forge.said(0));
        check.due(8, "said(1) behind same and run", () -> forge.said(1));
        forge.go(90, 9, 0, 0);
        check.fault("run with a FAULT", () -> forge.run(8, 0, 0, 0));
        check.due(0, "said(0) behind go and a run with a FAULT", () -> forge.said(0));
        check.due(1, "how many then", () -> forge.count(2));
    }

    private static void faults(Check check) {
        check.sentence("ArithmeticException for a FAULT");
        AllocForge forge = Forges.idle();
        check.fault("run", () -> forge.run(6, 0, 0, 0));
        check.due(1, "numbers SAID before it", () -> forge.count(2));
        check.due(0, "said(0)", () -> forge.said(0));
        check.badIndex("said(1), that is behind the FAULT", () -> forge.said(1));
        check.fault("run again", () -> forge.run(0, 0, 0, 0));
        check.due(0, "run without a FAULT", () -> forge.run(6, 3, 0, 0));
        check.due(2, "numbers SAID then", () -> forge.count(2));
        AllocForge first = Forges.of(Forges.constant(0), Forges.two(Forges.DIV, 0, 0), Forges.say(0));
        check.fault("run with a FAULT before all SAYs", () -> first.run(0, 0, 0, 0));
        check.due(0, "numbers SAID before that", () -> first.count(2));
    }

    private static void changesNothingElse(Check check) {
        check.sentence("A RUN as it was written (of the CODE, and what is ALLOCATED, nothing changes)");
        AllocForge forge = Forges.busy();
        List<String> before = Forges.state(forge);
        forge.run(7, 2, 3, 4);
        check.asBefore(before, "the same being SAID", forge);
        check.fault("a FAULT", () -> forge.run(7, 0, 3, 4));
        forge.run(7, 2, 9, 9);
        check.asBefore(before, "behind a FAULT", forge);
    }
}
