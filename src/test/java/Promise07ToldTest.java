/** Promise 7: told. */
public final class Promise07ToldTest {
    public static void main(String[] args) {
        new Check("Promise 7").lookAt(
                Promise07ToldTest::theEnd,
                Promise07ToldTest::uses,
                Promise07ToldTest::crossed,
                Promise07ToldTest::meetings,
                Promise07ToldTest::anotherWhat,
                Promise07ToldTest::noSuchValue,
                Promise07ToldTest::neitherWhatNorValue);
    }

    private static void theEnd(Check check) {
        check.sentence("Of VALUE v what 0: THE END");
        AllocForge forge = Forges.busy();
        check.due(3, "told(0, 0)", () -> forge.told(0, 0));
        check.due(4, "told(3, 0)", () -> forge.told(3, 0));
        check.due(1, "told(0, 0) of one alone", () -> Forges.of(Forges.constant(1)).told(0, 0));
        check.due(24, "told(23, 0) of 24", () -> Forges.full().told(23, 0));
    }

    private static void uses(Check check) {
        check.sentence("1: how many uses");
        AllocForge forge = Forges.of(
                Forges.constant(1), Forges.arg(0), Forges.two(Forges.MUL, 0, 0), Forges.two(Forges.SUB, 2, 0),
                Forges.say(0), Forges.constant(0), Forges.arg(0), Forges.call(3));
        check.due(4, "twice in one, as b, and SAID", () -> forge.told(0, 1));
        check.due(0, "none", () -> forge.told(1, 1));
        check.due(1, "as a", () -> forge.told(2, 1));
        check.due(1, "by a CALL", () -> forge.told(3, 1));
        check.due(24, "24 uses in 23 INSTRUCTIONS", () -> Forges.full().told(0, 1));
        AllocForge most = Forges.of(Forges.constant(1));
        for (int i = 1; i < 24; i++) {
            Forges.add(most, Forges.two(Forges.SUB, 0, 0));
        }
        check.due(46, "46 uses in 23 INSTRUCTIONS", () -> most.told(0, 1));
    }

    private static void crossed(Check check) {
        check.sentence("2: 1 if it is CROSSED, else 0");
        AllocForge forge = Forges.of(Forges.constant(1), Forges.call(0), Forges.call(0), Forges.call(1), Forges.say(0));
        check.due(1, "by 3 CALLS", () -> forge.told(0, 2));
        check.due(1, "by 1 CALL, and used by the next", () -> forge.told(1, 2));
        check.due(0, "by none, a CALL next", () -> forge.told(2, 2));
        check.due(0, "by none", () -> forge.told(3, 2));
    }

    private static void meetings(Check check) {
        check.sentence("3: with how many other VALUES it MEETS");
        AllocForge forge = Forges.of(
                Forges.constant(1), Forges.say(0), Forges.constant(2), Forges.say(0), Forges.say(2));
        check.due(1, "0 with 2, not with itself, nor with a SAY", () -> forge.told(0, 3));
        check.due(1, "2 with 0", () -> forge.told(2, 3));
        check.due(0, "one alone", () -> Forges.of(Forges.constant(1)).told(0, 3));
        check.due(22, "the first of 24, that ends with the last", () -> Forges.full().told(0, 3));
        check.due(1, "the one before the last of 24", () -> Forges.full().told(22, 3));
        check.due(0, "the last of 24", () -> Forges.full().told(23, 3));
    }

    private static void anotherWhat(Check check) {
        check.sentence("IllegalArgumentException for another what");
        for (int what : new int[] {-1, 4, 5, Forges.MIN, Forges.MAX}) {
            check.refused(IllegalArgumentException.class, "told(0, " + what + ")", Forges::busy,
                    forge -> forge.told(0, what));
        }
    }

    private static void noSuchValue(Check check) {
        check.sentence("IndexOutOfBoundsException if there is no VALUE v");
        for (int v : new int[] {-1, 2, 4, 5, 23, 24, Forges.MIN, Forges.MAX}) {
            for (int what = 0; what <= 3; what++) {
                int number = what;
                check.refused(IndexOutOfBoundsException.class, "told(" + v + ", " + what + ")", Forges::busy,
                        forge -> forge.told(v, number));
            }
        }
        check.badIndex("told(0, 0) of no CODE", () -> new AllocForge().told(0, 0));
        check.badIndex("told(24, 3) of 24", () -> Forges.full().told(24, 3));
    }

    // Both exceptions fit; IllegalArgumentException is the one named first.
    private static void neitherWhatNorValue(Check check) {
        check.sentence("IllegalArgumentException for another what; IndexOutOfBoundsException if there is no VALUE v");
        for (int v : new int[] {-1, 2, 5, 24}) {
            for (int what : new int[] {-1, 4}) {
                check.refused(IllegalArgumentException.class, "told(" + v + ", " + what + ")", Forges::busy,
                        forge -> forge.told(v, what));
            }
        }
        check.badArgument("told(0, 4) of no CODE", () -> new AllocForge().told(0, 4));
    }
}
