/** Promise 4: allocate. */
public final class Promise04AllocateTest {
    public static void main(String[] args) {
        new Check("Promise 4").lookAt(
                Promise04AllocateTest::allocatedWithK,
                Promise04AllocateTest::howManyGotOne,
                Promise04AllocateTest::emptyCode,
                Promise04AllocateTest::anotherNumber,
                Promise04AllocateTest::anotherNumberWithoutRoom,
                Promise04AllocateTest::noRoom,
                Promise04AllocateTest::nothingChangesThen,
                Promise04AllocateTest::lastThatFits);
    }

    private static void allocatedWithK(Check check) {
        check.sentence("It is ALLOCATED with k REGISTERS");
        AllocForge forge = Forges.of(Forges.arg(0), Forges.arg(1), Forges.two(Forges.ADD, 0, 1));
        int[] ks = {1, 5, 2, 1, 1, 4, 3};
        for (int k : ks) {
            int slots = k == 1 ? 1 : 0;
            check.due(3 - slots, "allocate(" + k + ")", () -> forge.allocate(k));
            check.due(k, "with how many", () -> forge.count(7));
            check.due(slots, "EVICTED with " + k, () -> forge.count(3));
            check.due(slots, "VALUES in SLOTS with " + k, () -> forge.count(4));
            check.due(k == 1 ? 10 : 0, "place(0) with " + k, () -> forge.place(0));
            check.due(k == 1 ? 0 : 1, "place(1) with " + k, () -> forge.place(1));
            check.due(2.0 * slots, "cost with " + k, () -> forge.cost());
        }
    }

    private static void howManyGotOne(Check check) {
        check.sentence("how many VALUES got one");
        check.due(1, "one VALUE, with 5", () -> Forges.of(Forges.constant(1)).allocate(5));
        for (int k = 1; k <= 5; k++) {
            int number = k;
            check.due(k, "7 that MEET, with " + k, () -> Forges.crowd(7).allocate(number));
        }
        check.due(24, "24 in one REGISTER", () -> apart(24).allocate(1));
        check.due(2, "SAYs get none", () -> Forges.of(
                Forges.constant(1), Forges.say(0), Forges.say(0), Forges.constant(2)).allocate(3));
        check.due(2, "one of 3 was EVICTED", () -> Forges.of(
                Forges.arg(0), Forges.arg(1), Forges.two(Forges.ADD, 0, 1)).allocate(1));
    }

    /** As many VALUES as said, of which none MEETS another. */
    private static AllocForge apart(int many) {
        AllocForge forge = new AllocForge();
        for (int i = 0; i < many; i++) {
            forge.add(0, i, 0, 0);
        }
        return forge;
    }

    private static void emptyCode(Check check) {
        check.sentence("It is ALLOCATED, also if there is no CODE");
        for (int k = 1; k <= 5; k++) {
            int number = k;
            AllocForge forge = new AllocForge();
            check.due(0, "allocate(" + k + ")", () -> forge.allocate(number));
            check.due(k, "with how many", () -> forge.count(7));
            check.due(0, "REGISTERS used", () -> forge.count(6));
            check.due(0.0, "cost", () -> forge.cost());
            check.due(0, "go", () -> forge.go(1, 2, 3, 4));
            check.due(true, "same", () -> forge.same(1, 2, 3, 4));
        }
    }

    private static void anotherNumber(Check check) {
        check.sentence("IllegalArgumentException for another k");
        for (int k : new int[] {-1, 0, 6, Forges.MIN, Forges.MAX}) {
            Check.Call call = forge -> forge.allocate(k);
            check.refused(IllegalArgumentException.class, "allocate(" + k + ")", Forges::idle, call);
            check.refused(IllegalArgumentException.class, "allocate(" + k + ") again", Forges::busy, call);
            check.refused(IllegalArgumentException.class, "allocate(" + k + ") of none", AllocForge::new, call);
        }
    }

    // Both exceptions fit; IllegalArgumentException is the one named first.
    private static void anotherNumberWithoutRoom(Check check) {
        check.sentence("IllegalArgumentException for another k; IllegalStateException if there is no room");
        for (int k : new int[] {-1, 0, 6}) {
            Check.Call call = forge -> forge.allocate(k);
            check.refused(IllegalArgumentException.class, "allocate(" + k + ")", () -> Forges.crowd(12), call);
        }
    }

    private static void noRoom(Check check) {
        check.sentence("IllegalStateException if there is no room");
        for (int k = 1; k <= 5; k++) {
            int number = k;
            check.refused(IllegalStateException.class, "allocate(" + k + ")", () -> Forges.crowd(12),
                    forge -> forge.allocate(number));
        }
    }

    private static void nothingChangesThen(Check check) {
        check.sentence("(nothing changes then)");
        Check.Maker maker = () -> {
            AllocForge forge = heavierAndHeavier();
            forge.allocate(2);
            forge.go(0, 0, 0, 0);
            return forge;
        };
        check.due(5, "EVICTED with 2", () -> maker.make().count(3));
        check.refused(IllegalStateException.class, "allocate(1)", maker, forge -> forge.allocate(1));
        AllocForge forge = maker.make();
        check.badState("allocate(1)", () -> forge.allocate(1));
        check.badState("allocate(1) again", () -> forge.allocate(1));
        check.due(0, "go as ALLOCATED before", () -> forge.go(0, 0, 0, 0));
        check.due(7, "the last number SAID", () -> forge.said(7));
        check.due(2, "allocate(2) again", () -> forge.allocate(2));
        check.due(5, "EVICTED with 2 again", () -> forge.count(3));
    }

    /** 8 VALUES that live at once, of one LENGTH; the later ones are heavier, and put others out. */
    private static AllocForge heavierAndHeavier() {
        AllocForge forge = new AllocForge();
        int[] depths = {0, 0, 1, 1, 2, 2, 3, 0};
        for (int v = 0; v < 8; v++) {
            forge.add(0, v, 0, depths[v]);
        }
        for (int v = 0; v < 8; v++) {
            forge.add(6, v, 0, 0);
        }
        return forge;
    }

    private static void lastThatFits(Check check) {
        check.sentence("if there is no room: 6 SLOTS and k REGISTERS are room for as many that MEET");
        for (int k = 1; k <= 5; k++) {
            int number = k;
            AllocForge forge = Forges.crowd(k + 6);
            check.due(k, "allocate(" + k + ")", () -> forge.allocate(number));
            check.due(6, "SLOTS used", () -> forge.count(5));
            check.refused(IllegalStateException.class, "allocate(" + k + ") with one more",
                    () -> Forges.crowd(number + 7), full -> full.allocate(number));
        }
    }
}
