import java.util.List;

/** Promise 11: same. */
public final class Promise11SameTest {
    public static void main(String[] args) {
        new Check("Promise 11").lookAt(
                Promise11SameTest::sameSaidAndResult,
                Promise11SameTest::bothAFault,
                Promise11SameTest::saidIsOfTheSecond,
                Promise11SameTest::noCode,
                Promise11SameTest::changesNothingElse,
                Promise11SameTest::nothingAllocated);
    }

    private static void sameSaidAndResult(Check check) {
        check.sentence("whether they SAY the same and have the same RESULT");
        int[] numbers = {0, 1, -1, 7, Forges.MIN, Forges.MAX};
        AllocForge forge = Forges.of(
                Forges.arg(0), Forges.arg(1), Forges.arg(2), Forges.arg(3), Forges.call(2), Forges.say(4),
                Forges.two(Forges.MUL, 0, 4), Forges.two(Forges.SUB, 6, 1), Forges.say(7),
                Forges.two(Forges.ADD, 7, 3));
        for (int k = 1; k <= 5; k++) {
            forge.allocate(k);
            for (int x : numbers) {
                check.due(true, "same of " + x + " with " + forge.count(7), () -> forge.same(x, 2, x, 3));
            }
        }
    }

    private static void bothAFault(Check check) {
        check.sentence("or both a FAULT (behind the same that was SAID)");
        for (int k = 1; k <= 5; k++) {
            AllocForge forge = Forges.idle();
            forge.allocate(k);
            check.due(true, "same with " + k, () -> forge.same(6, 0, 0, 0));
            check.due(1, "numbers SAID", () -> forge.count(2));
            check.due(0, "said(0)", () -> forge.said(0));
            check.badIndex("said(1)", () -> forge.said(1));
            check.due(true, "same without a FAULT", () -> forge.same(6, 2, 0, 0));
            check.due(true, "same with 0 by 0", () -> forge.same(0, 0, 0, 0));
            check.due(true, "same with the least by 0", () -> forge.same(Forges.MIN, 0, 0, 0));
        }
    }

    private static void saidIsOfTheSecond(Check check) {
        check.sentence("What was SAID is of the second one then");
        AllocForge forge = Forges.busy();
        forge.run(90, 9, 0, 0);
        forge.same(8, 4, 0, 0);
        check.due(4, "said(0) behind run and same", () -> forge.said(0));
        check.due(2, "said(1) behind run and same", () -> forge.said(1));
        check.due(2, "how many, of one RUN alone", () -> forge.count(2));
        forge.go(90, 9, 0, 0);
        forge.same(8, 1, 0, 0);
        check.due(1, "said(0) behind go and same", () -> forge.said(0));
        check.due(8, "said(1) behind go and same", () -> forge.said(1));
    }

    private static void noCode(Check check) {
        check.sentence("Both RUNS, also of no CODE");
        AllocForge forge = Forges.busy();
        forge.clear();
        forge.allocate(1);
        check.due(true, "same", () -> forge.same(1, 2, 3, 4));
        check.due(0, "numbers SAID", () -> forge.count(2));
    }

    private static void changesNothingElse(Check check) {
        check.sentence("Both RUNS with these numbers (of the CODE, and what is ALLOCATED, nothing changes)");
        AllocForge forge = Forges.busy();
        List<String> before = Forges.state(forge);
        forge.same(7, 2, 3, 4);
        check.asBefore(before, "the same being SAID", forge);
        forge.same(7, 0, 3, 4);
        forge.same(7, 2, 9, 9);
        check.asBefore(before, "behind a FAULT", forge);
    }

    private static void nothingAllocated(Check check) {
        check.sentence("IllegalStateException if nothing is ALLOCATED");
        check.refused(IllegalStateException.class, "same of a new object", AllocForge::new,
                forge -> forge.same(1, 2, 3, 4));
        check.refused(IllegalStateException.class, "same", Forges::idle, forge -> forge.same(1, 2, 3, 4));
        check.refused(IllegalStateException.class, "same with a FAULT to come", Forges::idle,
                forge -> forge.same(1, 0, 3, 4));
        check.refused(IllegalStateException.class, "same behind add", () -> {
            AllocForge forge = Forges.busy();
            forge.add(0, 0, 0, 0);
            return forge;
        }, forge -> forge.same(1, 2, 3, 4));
        check.refused(IllegalStateException.class, "same behind clear", () -> {
            AllocForge forge = Forges.busy();
            forge.clear();
            return forge;
        }, forge -> forge.same(1, 2, 3, 4));
    }
}
