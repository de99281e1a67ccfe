/** Promise 13: count. */
public final class Promise13CountTest {
    public static void main(String[] args) {
        new Check("Promise 13").lookAt(
                Promise13CountTest::instructions,
                Promise13CountTest::values,
                Promise13CountTest::numbersSaid,
                Promise13CountTest::nothingAllocated,
                Promise13CountTest::evicted,
                Promise13CountTest::valuesInSlots,
                Promise13CountTest::slotsUsed,
                Promise13CountTest::registersUsed,
                Promise13CountTest::withHowMany,
                Promise13CountTest::others);
    }

    private static void instructions(Check check) {
        check.sentence("What 0: INSTRUCTIONS");
        check.due(0, "count(0) of none", () -> new AllocForge().count(0));
        check.due(5, "count(0), SAYs too", () -> Forges.busy().count(0));
        check.due(24, "count(0) of 24", () -> Forges.full().count(0));
    }

    private static void values(Check check) {
        check.sentence("1: VALUES");
        check.due(0, "count(1) of none", () -> new AllocForge().count(1));
        check.due(3, "count(1), without SAYs", () -> Forges.busy().count(1));
        check.due(24, "count(1) of 24", () -> Forges.full().count(1));
        AllocForge refusing = Forges.full();
        check.badState("add with 24", () -> refusing.add(0, 0, 0, 0));
        check.due(24, "count(1) behind a refused add", () -> refusing.count(1));
    }

    private static void numbersSaid(Check check) {
        check.sentence("2: numbers SAID");
        AllocForge forge = Forges.of(Forges.arg(0), Forges.say(0), Forges.two(Forges.DIV, 0, 0), Forges.say(2));
        check.due(0, "count(2) before all RUNS", () -> forge.count(2));
        forge.run(1, 0, 0, 0);
        check.due(2, "count(2)", () -> forge.count(2));
        check.fault("a FAULT", () -> forge.run(0, 0, 0, 0));
        check.due(1, "count(2) behind a FAULT", () -> forge.count(2));
        forge.allocate(1);
        forge.same(1, 0, 0, 0);
        check.due(2, "count(2) behind same, of one RUN alone", () -> forge.count(2));
    }

    private static void nothingAllocated(Check check) {
        check.sentence("of what is ALLOCATED (0 without)");
        AllocForge added = Forges.busy();
        added.add(0, 0, 0, 0);
        AllocForge cleared = Forges.busy();
        cleared.clear();
        AllocForge roomless = Forges.crowd(12);
        check.badState("allocate without room", () -> roomless.allocate(1));
        AllocForge wrong = Forges.idle();
        check.badArgument("allocate(6)", () -> wrong.allocate(6));
        AllocForge[] forges = {new AllocForge(), Forges.idle(), added, cleared, roomless, wrong};
        String[] names = {"new", "never ALLOCATED", "behind add", "behind clear", "without room", "with 6"};
        for (int i = 0; i < forges.length; i++) {
            AllocForge forge = forges[i];
            for (int what = 3; what <= 7; what++) {
                int number = what;
                check.due(0, "count(" + what + "), " + names[i], () -> forge.count(number));
            }
        }
    }

    private static void evicted(Check check) {
        check.sentence("3: how often a VALUE was EVICTED");
        check.due(1, "one", () -> Forges.busy().count(3));
        AllocForge none = Forges.crowd(11);
        none.allocate(5);
        check.due(0, "none, though there are VALUES in SLOTS", () -> none.count(3));
        // 0 is put out of REGISTER 1 by 2, and out of REGISTER 2 by 3.
        AllocForge twice = Forges.of(
                Forges.constant(1), Forges.constant(2, 2), Forges.constant(3), Forges.constant(4), Forges.call(0),
                Forges.say(2, 3), new int[] {7, 1, 0, 2});
        twice.allocate(3);
        check.due(2, "one VALUE twice", () -> twice.count(3));
        twice.allocate(3);
        check.due(2, "the same, not added to the former", () -> twice.count(3));
        // 1 is put out of REGISTER 0, and gets 2.
        AllocForge kept = Forges.of(
                Forges.constant(1), Forges.constant(2), Forges.constant(3), Forges.constant(4),
                Forges.constant(5, 3), Forges.say(0), Forges.say(1), Forges.call(4), Forges.say(4));
        kept.allocate(3);
        check.due(1, "one that found another REGISTER", () -> kept.count(3));
    }

    private static void valuesInSlots(Check check) {
        check.sentence("4: VALUES in SLOTS");
        check.due(1, "one", () -> Forges.busy().count(4));
        AllocForge crowd = Forges.crowd(11);
        crowd.allocate(5);
        check.due(6, "6 in 6 SLOTS", () -> crowd.count(4));
        check.due(22, "22 in one SLOT", () -> inOneSlot().count(4));
        AllocForge none = Forges.busy();
        none.allocate(5);
        check.due(0, "none", () -> none.count(4));
    }

    /** VALUE 0 is in the only REGISTER for all the others but the last; these do not MEET one another. */
    private static AllocForge inOneSlot() {
        AllocForge forge = Forges.of(Forges.constant(1));
        for (int i = 1; i < 24; i++) {
            Forges.add(forge, Forges.two(Forges.SUB, 0, 0));
        }
        forge.allocate(1);
        return forge;
    }

    private static void slotsUsed(Check check) {
        check.sentence("5: SLOTS used");
        check.due(1, "one", () -> Forges.busy().count(5));
        check.due(1, "one by 22 VALUES", () -> inOneSlot().count(5));
        AllocForge crowd = Forges.crowd(11);
        crowd.allocate(5);
        check.due(6, "all", () -> crowd.count(5));
        AllocForge none = Forges.busy();
        none.allocate(5);
        check.due(0, "none", () -> none.count(5));
    }

    private static void registersUsed(Check check) {
        check.sentence("6: REGISTERS used");
        check.due(1, "one by 2 VALUES", () -> inOneSlot().count(6));
        AllocForge crowd = Forges.crowd(11);
        crowd.allocate(5);
        check.due(5, "all", () -> crowd.count(6));
        AllocForge fewer = Forges.busy();
        fewer.allocate(5);
        check.due(2, "2 of 5", () -> fewer.count(6));
        AllocForge none = new AllocForge();
        none.allocate(5);
        check.due(0, "none of 5", () -> none.count(6));
    }

    private static void withHowMany(Check check) {
        check.sentence("7: with how many it was");
        for (int k = 1; k <= 5; k++) {
            AllocForge forge = Forges.busy();
            forge.allocate(k);
            check.due(k, "count(7)", () -> forge.count(7));
        }
        AllocForge refusing = Forges.crowd(8);
        refusing.allocate(2);
        check.badState("allocate(1) without room", () -> refusing.allocate(1));
        check.due(2, "count(7) behind it", () -> refusing.count(7));
    }

    private static void others(Check check) {
        check.sentence("IllegalArgumentException for others");
        for (int what : new int[] {-1, 8, 9, Forges.MIN, Forges.MAX}) {
            Check.Call call = forge -> forge.count(what);
            check.refused(IllegalArgumentException.class, "count(" + what + ")", Forges::busy, call);
            check.refused(IllegalArgumentException.class, "count(" + what + ") of a new one", AllocForge::new, call);
        }
    }
}
