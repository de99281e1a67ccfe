/** Promise 8: cost. */
public final class Promise08CostTest {
    public static void main(String[] args) {
        new Check("Promise 8").lookAt(
                Promise08CostTest::costs,
                Promise08CostTest::noneInSlots,
                Promise08CostTest::nothingAllocated);
    }

    private static void costs(Check check) {
        check.sentence("THE COST");
        check.due(2.0, "one in a SLOT, used once", () -> Forges.busy().cost());
        AllocForge forge = Forges.crowd(11);
        forge.allocate(5);
        check.due(12.0, "6 in SLOTS", () -> forge.cost());
        // 0 (2 uses by 2, at DEPTH 1) is lighter than 1 (1000), and put out by it.
        AllocForge twice = Forges.of(Forges.constant(1, 2), Forges.constant(2, 3));
        twice.add(Forges.MUL, 0, 0, 1);
        twice.allocate(1);
        check.due(120.0, "one in a SLOT, used twice by one", () -> twice.cost());
        // 1 to 23 find 0, used 23 times, in the REGISTER; 23 alone does not MEET it.
        AllocForge most = Forges.of(Forges.constant(1, 3));
        for (int i = 1; i < 24; i++) {
            most.add(Forges.MUL, 0, 0, 3);
        }
        most.allocate(1);
        check.due(22000.0, "22 in a SLOT, made at DEPTH 3", () -> most.cost());
    }

    private static void noneInSlots(Check check) {
        check.sentence("THE COST, if no VALUE is in a SLOT");
        AllocForge forge = Forges.busy();
        forge.allocate(2);
        check.due(0.0, "enough REGISTERS", () -> forge.cost());
        forge.clear();
        forge.allocate(1);
        check.due(0.0, "no CODE", () -> forge.cost());
    }

    private static void nothingAllocated(Check check) {
        check.sentence("IllegalStateException if nothing is ALLOCATED");
        check.refused(IllegalStateException.class, "cost of a new object", AllocForge::new, forge -> forge.cost());
        check.refused(IllegalStateException.class, "cost of CODE", Forges::idle, forge -> forge.cost());
        AllocForge forge = Forges.busy();
        forge.add(0, 0, 0, 0);
        check.badState("cost behind add", () -> forge.cost());
        AllocForge cleared = Forges.busy();
        cleared.clear();
        check.badState("cost behind clear", () -> cleared.cost());
        AllocForge roomless = Forges.crowd(12);
        check.badState("allocate without room", () -> roomless.allocate(1));
        check.badState("cost behind it", () -> roomless.cost());
        check.badArgument("allocate(0)", () -> roomless.allocate(0));
        check.badState("cost behind that", () -> roomless.cost());
    }
}
