import java.util.List;

/** Promise 10: go. */
public final class Promise10GoTest {
    public static void main(String[] args) {
        new Check("Promise 10").lookAt(
                Promise10GoTest::results,
                Promise10GoTest::noCode,
                Promise10GoTest::saidIsOfIt,
                Promise10GoTest::faults,
                Promise10GoTest::changesNothingElse,
                Promise10GoTest::nothingAllocated);
    }

    private static void results(Check check) {
        check.sentence("A RUN as ALLOCATED, likewise: THE RESULT");
        for (int number = 0; number < 4; number++) {
            AllocForge forge = Forges.of(Forges.arg(number));
            forge.allocate(1);
            check.due(11 + number, "number " + number, () -> forge.go(11, 12, 13, 14));
            check.due(-11 - number, "number " + number + " of the next RUN", () -> forge.go(-11, -12, -13, -14));
        }
        AllocForge full = Forges.full();
        AllocForge crowd = Forges.crowd(11);
        for (int k = 1; k <= 5; k++) {
            full.allocate(k);
            check.due(24 * Forges.MAX, "all 24, wrapping, with " + k, () -> full.go(Forges.MAX, 0, 0, 0));
        }
        crowd.allocate(5);
        check.due(0, "every REGISTER and every SLOT in use", () -> crowd.go(0, 0, 0, 0));
        for (int i = 0; i < 11; i++) {
            int number = i;
            check.due(i, "said(" + i + ")", () -> crowd.said(number));
        }
    }

    private static void noCode(Check check) {
        check.sentence("THE RESULT (0 if there is none), likewise");
        AllocForge forge = Forges.busy();
        Forges.add(forge, Forges.constant(5));
        forge.allocate(5);
        check.due(5, "CODE, ALLOCATED", () -> forge.go(1, 2, 3, 4));
        forge.clear();
        forge.allocate(5);
        check.due(0, "no CODE, ALLOCATED", () -> forge.go(1, 2, 3, 4));
        check.due(0, "numbers SAID", () -> forge.count(2));
    }

    private static void saidIsOfIt(Check check) {
        check.sentence("likewise: what was SAID is of it from now on");
        AllocForge forge = Forges.busy();
        forge.run(90, 9, 0, 0);
        forge.go(8, 4, 0, 0);
        check.due(4, "said(0) behind run and go", () -> forge.said(0));
        check.due(2, "said(1) behind run and go", () -> forge.said(1));
        check.due(2, "how many", () -> forge.count(2));
        forge.go(9, 3, 0, 0);
        check.due(3, "said(0) behind go again", () -> forge.said(0));
        check.due(2, "how many then", () -> forge.count(2));
        forge.run(90, 9, 0, 0);
        check.fault("go with a FAULT", () -> forge.go(8, 0, 0, 0));
        check.due(0, "said(0) behind run and a go with a FAULT", () -> forge.said(0));
        check.due(1, "how many behind it", () -> forge.count(2));
    }

    private static void faults(Check check) {
        check.sentence("likewise: ArithmeticException for a FAULT");
        for (int k = 1; k <= 5; k++) {
            AllocForge forge = Forges.idle();
            forge.allocate(k);
            check.fault("go", () -> forge.go(6, 0, 0, 0));
            check.due(1, "numbers SAID before it", () -> forge.count(2));
            check.due(0, "said(0)", () -> forge.said(0));
            check.badIndex("said(1), that is behind the FAULT", () -> forge.said(1));
            check.due(0, "go without a FAULT", () -> forge.go(6, 3, 0, 0));
            check.due(2, "said(1) then", () -> forge.said(1));
        }
    }

    private static void changesNothingElse(Check check) {
        check.sentence("A RUN as ALLOCATED (of the CODE, and what is ALLOCATED, nothing changes)");
        AllocForge forge = Forges.busy();
        List<String> before = Forges.state(forge);
        forge.go(7, 2, 3, 4);
        check.asBefore(before, "the same being SAID", forge);
        check.fault("a FAULT", () -> forge.go(7, 0, 3, 4));
        forge.go(7, 2, 9, 9);
        check.asBefore(before, "behind a FAULT", forge);
    }

    private static void nothingAllocated(Check check) {
        check.sentence("IllegalStateException if nothing is");
        check.refused(IllegalStateException.class, "go of a new object", AllocForge::new,
                forge -> forge.go(1, 2, 3, 4));
        check.refused(IllegalStateException.class, "go", Forges::idle, forge -> forge.go(1, 2, 3, 4));
        check.refused(IllegalStateException.class, "go with a FAULT to come", Forges::idle,
                forge -> forge.go(1, 0, 3, 4));
        check.refused(IllegalStateException.class, "go behind add", () -> {
            AllocForge forge = Forges.busy();
            forge.add(0, 0, 0, 0);
            return forge;
        }, forge -> forge.go(1, 2, 3, 4));
        check.refused(IllegalStateException.class, "go behind clear", () -> {
            AllocForge forge = Forges.busy();
            forge.clear();
            return forge;
        }, forge -> forge.go(1, 2, 3, 4));
    }
}
