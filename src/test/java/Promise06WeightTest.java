/** Promise 6: weight. */
public final class Promise06WeightTest {
    public static void main(String[] args) {
        new Check("Promise 6").lookAt(
                Promise06WeightTest::weights,
                Promise06WeightTest::asTheCodeGrows,
                Promise06WeightTest::noSuchValue);
    }

    private static void weights(Check check) {
        check.sentence("THE WEIGHT of VALUE v");
        for (Check.Maker maker : new Check.Maker[] {Forges::busy, Forges::idle}) {
            AllocForge forge = maker.make();
            check.due(2.0 / 3, "weight(0), used once in 3", () -> forge.weight(0));
            check.due(3.0 / 2, "weight(1), used twice in 2", () -> forge.weight(1));
            check.due(2.0, "weight(3), used once in 1", () -> forge.weight(3));
        }
        AllocForge full = Forges.full();
        check.due(25.0 / 23, "weight(0) of 24, used 24 times", () -> full.weight(0));
        check.due(1.0, "weight(23) of 24, not used", () -> full.weight(23));
    }

    private static void asTheCodeGrows(Check check) {
        check.sentence("THE WEIGHT of VALUE v, as the CODE stands");
        AllocForge forge = Forges.of(Forges.constant(1, 2));
        check.due(100.0, "not used", () -> forge.weight(0));
        Forges.add(forge, Forges.say(0, 3));
        check.due(1100.0, "used by the next", () -> forge.weight(0));
        Forges.add(forge, Forges.constant(2), Forges.say(0, 1));
        check.due(1110.0 / 3, "used again", () -> forge.weight(0));
        check.badArgument("a refused use", () -> forge.add(Forges.ADD, 0, 1, 0));
        check.due(1110.0 / 3, "behind a refused use", () -> forge.weight(0));
    }

    private static void noSuchValue(Check check) {
        check.sentence("throws IndexOutOfBoundsException");
        for (int v : new int[] {-1, 2, 4, 5, 23, 24, Forges.MIN, Forges.MAX}) {
            check.refused(IndexOutOfBoundsException.class, "weight(" + v + ")", Forges::busy,
                    forge -> forge.weight(v));
        }
        check.refused(IndexOutOfBoundsException.class, "weight(0) of no CODE", AllocForge::new,
                forge -> forge.weight(0));
        check.refused(IndexOutOfBoundsException.class, "weight(24) of 24", Forges::full,
                forge -> forge.weight(24));
    }
}
