/** Promises 6 and 7: weight and told. */
public final class LifetimeTest {
    public static void main(String[] args) {
        Check check = new Check();
        ends(check);
        uses(check);
        crossed(check);
        meetings(check);
        weights(check);
        wrongInputs(check);
        check.end();
    }

    private static void ends(Check check) {
        AllocForge forge = Check.forge(
                Check.constant(1, 0), Check.constant(2, 0), Check.two(2, 0, 0), Check.say(0), Check.call(2));
        check.due(3, "END is the last use", () -> forge.told(0, 0));
        check.due(2, "END without a use", () -> forge.told(1, 0));
        check.due(4, "END by a CALL", () -> forge.told(2, 0));
        check.due(5, "END of the last one", () -> forge.told(4, 0));
        forge.add(5, 0, 4, 0);
        check.due(5, "END moves with a new use as a", () -> forge.told(0, 0));
        check.due(5, "END stays at v + 1 with a use as b", () -> forge.told(4, 0));
    }

    private static void uses(Check check) {
        AllocForge forge = Check.forge(
                Check.constant(1, 0), Check.arg(0), Check.two(4, 0, 0), Check.two(3, 2, 0), Check.say(0));
        forge.add(0, 0, 0, 0);
        forge.add(1, 0, 0, 0);
        forge.add(7, 3, 0, 0);
        check.due(4, "uses, twice in one", () -> forge.told(0, 1));
        check.due(0, "no uses", () -> forge.told(1, 1));
        check.due(1, "one use as a", () -> forge.told(2, 1));
        check.due(1, "one use by a CALL", () -> forge.told(3, 1));
    }

    private static void crossed(Check check) {
        AllocForge forge = Check.forge(
                Check.constant(1, 0), Check.constant(2, 0), Check.call(1), Check.two(2, 0, 2), Check.constant(3, 0),
                Check.call(3));
        check.due(1, "a CALL inside", () -> forge.told(0, 2));
        check.due(0, "a CALL at THE END", () -> forge.told(1, 2));
        check.due(0, "the CALL that makes it", () -> forge.told(2, 2));
        check.due(0, "used last by a CALL", () -> forge.told(3, 2));
        check.due(0, "without a use, a CALL next", () -> forge.told(4, 2));
        forge.add(6, 4, 0, 0);
        check.due(1, "a later use makes it CROSSED", () -> forge.told(4, 2));
    }

    private static void meetings(Check check) {
        AllocForge forge = Check.forge(
                Check.constant(1, 0), Check.constant(2, 0), Check.say(1), Check.two(2, 0, 1), Check.say(3),
                Check.constant(7, 0));
        check.due(1, "0 MEETS 1; 3 begins where it ends", () -> forge.told(0, 3));
        check.due(1, "1 MEETS 0", () -> forge.told(1, 3));
        check.due(0, "3 MEETS none, nor itself", () -> forge.told(3, 3));
        check.due(0, "5 MEETS none", () -> forge.told(5, 3));
        forge.add(6, 0, 0, 0);
        check.due(3, "0 MEETS 1, 3 and 5 with a later use", () -> forge.told(0, 3));
        check.due(1, "5 MEETS 0", () -> forge.told(5, 3));
    }

    private static void weights(Check check) {
        AllocForge forge = Check.forge(Check.constant(1, 0), Check.constant(2, 3));
        check.due(1.0, "no use, DEPTH 0", () -> forge.weight(0));
        check.due(1000.0, "no use, DEPTH 3", () -> forge.weight(1));
        forge.add(2, 0, 0, 1);
        check.due((1.0 + 10 + 10) / 2, "twice used at DEPTH 1", () -> forge.weight(0));
        forge.add(3, 0, 2, 2);
        check.due((1.0 + 10 + 10 + 100) / 3, "used again at DEPTH 2", () -> forge.weight(0));
        check.due(110.0, "made at 1, used at 2", () -> forge.weight(2));
        forge.add(6, 1, 0, 0);
        check.due(1001.0 / 3, "SAID at DEPTH 0", () -> forge.weight(1));
    }

    private static void wrongInputs(Check check) {
        AllocForge forge = Check.forge(Check.constant(1, 0), Check.say(0));
        for (int v : new int[] {-1, 1, 2, 24, 100, Integer.MIN_VALUE, Integer.MAX_VALUE}) {
            check.badIndex("weight(" + v + ")", () -> forge.weight(v));
            check.badIndex("told(" + v + ", 0)", () -> forge.told(v, 0));
            check.badIndex("told(" + v + ", 3)", () -> forge.told(v, 3));
            check.badArgument("told(" + v + ", 4)", () -> forge.told(v, 4));
        }
        for (int what : new int[] {-1, 4, Integer.MIN_VALUE, Integer.MAX_VALUE}) {
            check.badArgument("told(0, " + what + ")", () -> forge.told(0, what));
        }
    }
}
