/** Promise 12: said. */
public final class Promise12SaidTest {
    public static void main(String[] args) {
        new Check("Promise 12").lookAt(
                Promise12SaidTest::numbersInOrder,
                Promise12SaidTest::mostThatCanBeSaid,
                Promise12SaidTest::ofTheLatestRun,
                Promise12SaidTest::alsoWithAFault,
                Promise12SaidTest::refusedCallsAreNoRun,
                Promise12SaidTest::noSuchNumber);
    }

    /** Looks whether these numbers were SAID, and none else. */
    private static void said(Check check, String what, AllocForge forge, int... due) {
        check.due(due.length, "how many, " + what, () -> forge.count(2));
        for (int i = 0; i < due.length; i++) {
            int number = i;
            check.due(due[i], "said(" + i + "), " + what, () -> forge.said(number));
        }
        check.badIndex("said(" + due.length + "), " + what, () -> forge.said(due.length));
    }

    private static AllocForge saying() {
        AllocForge forge = Forges.of(
                Forges.arg(0), Forges.say(0), Forges.arg(1), Forges.say(2), Forges.say(2), Forges.say(0));
        forge.allocate(2);
        return forge;
    }

    private static void numbersInOrder(Check check) {
        check.sentence("The i-th number SAID");
        AllocForge forge = saying();
        forge.run(Forges.MIN, Forges.MAX, 0, 0);
        said(check, "run", forge, Forges.MIN, Forges.MAX, Forges.MAX, Forges.MIN);
        check.due(Forges.MAX, "said(1) asked again", () -> forge.said(1));
    }

    private static void mostThatCanBeSaid(Check check) {
        check.sentence("The i-th number SAID, of as many as there can be");
        AllocForge forge = Forges.of(Forges.arg(3));
        for (int i = 1; i < 24; i++) {
            Forges.add(forge, Forges.say(0));
        }
        forge.allocate(1);
        check.due(true, "same", () -> forge.same(0, 0, 0, 5));
        check.due(23, "how many", () -> forge.count(2));
        check.due(5, "said(22)", () -> forge.said(22));
        check.badIndex("said(23)", () -> forge.said(23));
    }

    private static void ofTheLatestRun(Check check) {
        check.sentence("in the latest RUN");
        AllocForge forge = saying();
        forge.run(1, 2, 0, 0);
        said(check, "run", forge, 1, 2, 2, 1);
        forge.go(3, 4, 0, 0);
        said(check, "go", forge, 3, 4, 4, 3);
        forge.run(5, 6, 0, 0);
        said(check, "run again", forge, 5, 6, 6, 5);
        forge.same(7, 8, 0, 0);
        said(check, "same", forge, 7, 8, 8, 7);
        forge.add(0, 1, 0, 0);
        said(check, "behind add", forge, 7, 8, 8, 7);
        forge.allocate(5);
        said(check, "behind allocate", forge, 7, 8, 8, 7);
        forge.clear();
        said(check, "behind clear", forge, 7, 8, 8, 7);
        forge.add(0, 1, 0, 0);
        forge.run(0, 0, 0, 0);
        said(check, "a RUN that says nothing", forge);
    }

    private static void alsoWithAFault(Check check) {
        check.sentence("(also if that had a FAULT)");
        AllocForge forge = Forges.busy();
        check.fault("run", () -> forge.run(4, 0, 0, 0));
        said(check, "run with a FAULT", forge, 0);
        forge.run(9, 3, 0, 0);
        said(check, "run without", forge, 3, 3);
        check.fault("go", () -> forge.go(4, 0, 0, 0));
        said(check, "go with a FAULT", forge, 0);
        forge.go(9, 1, 0, 0);
        said(check, "go without", forge, 1, 9);
        check.fault("run behind go", () -> forge.run(4, 0, 0, 0));
        said(check, "run with a FAULT behind go", forge, 0);
        forge.run(9, 1, 0, 0);
        forge.same(4, 0, 0, 0);
        said(check, "same with FAULTS", forge, 0);
        AllocForge first = Forges.of(Forges.arg(0), Forges.say(0), Forges.two(Forges.DIV, 0, 0), Forges.say(0));
        first.run(5, 0, 0, 0);
        said(check, "without a FAULT", first, 5, 5);
        check.fault("0 by 0", () -> first.run(0, 0, 0, 0));
        said(check, "with a FAULT before the last SAY", first, 0);
    }

    private static void refusedCallsAreNoRun(Check check) {
        check.sentence("in the latest RUN (a refused go or same is none)");
        AllocForge forge = Forges.idle();
        check.badState("go", () -> forge.go(90, 9, 0, 0));
        said(check, "behind a refused go", forge, 2, 3);
        check.badState("same", () -> forge.same(90, 9, 0, 0));
        said(check, "behind a refused same", forge, 2, 3);
    }

    private static void noSuchNumber(Check check) {
        check.sentence("IndexOutOfBoundsException if there is none");
        for (int i : new int[] {-1, 2, 3, 23, 24, Forges.MIN, Forges.MAX}) {
            check.refused(IndexOutOfBoundsException.class, "said(" + i + ")", Forges::busy, forge -> forge.said(i));
        }
        check.refused(IndexOutOfBoundsException.class, "said(0) before all RUNS", AllocForge::new,
                forge -> forge.said(0));
        AllocForge silent = saying();
        check.badIndex("said(0) of CODE that was never RUN", () -> silent.said(0));
    }
}
