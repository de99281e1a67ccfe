/** Promise 3: clear. */
public final class Promise03ClearTest {
    public static void main(String[] args) {
        new Check("Promise 3").lookAt(
                Promise03ClearTest::noCode,
                Promise03ClearTest::nothingAllocated,
                Promise03ClearTest::howManyThereWere,
                Promise03ClearTest::nothingOfTheOldCode,
                Promise03ClearTest::saidStays);
    }

    private static void noCode(Check check) {
        check.sentence("There is no CODE");
        AllocForge forge = Forges.busy();
        forge.clear();
        check.due(0, "INSTRUCTIONS", () -> forge.count(0));
        check.due(0, "VALUES", () -> forge.count(1));
        for (int v = 0; v < 5; v++) {
            int value = v;
            check.badIndex("weight(" + v + ")", () -> forge.weight(value));
            check.badIndex("told(" + v + ", 0)", () -> forge.told(value, 0));
            check.badIndex("place(" + v + ")", () -> forge.place(value));
            check.badArgument("add of a SAY of " + v, () -> forge.add(6, value, 0, 0));
        }
        check.due(0, "run, that had a RESULT or a FAULT", () -> forge.run(1, 0, 3, 4));
        check.due(0, "numbers SAID in it", () -> forge.count(2));
    }

    private static void nothingAllocated(Check check) {
        check.sentence("There is no CODE: nothing of it is ALLOCATED");
        AllocForge forge = Forges.busy();
        forge.clear();
        check.badState("cost", () -> forge.cost());
        check.badState("go", () -> forge.go(1, 2, 3, 4));
        check.badState("same", () -> forge.same(1, 2, 3, 4));
        for (int what = 3; what <= 7; what++) {
            int number = what;
            check.due(0, "count(" + what + ")", () -> forge.count(number));
        }
    }

    private static void howManyThereWere(Check check) {
        check.sentence("how many INSTRUCTIONS there were");
        AllocForge forge = new AllocForge();
        check.due(0, "clear of none", () -> forge.clear());
        Forges.add(forge, Forges.constant(1), Forges.say(0), Forges.say(0));
        check.due(3, "clear of 3, of which 1 makes a VALUE", () -> forge.clear());
        check.due(0, "clear again", () -> forge.clear());
        check.due(24, "clear of 24", () -> Forges.full().clear());
        AllocForge refusing = Forges.full();
        check.badState("add with 24", () -> refusing.add(0, 0, 0, 0));
        check.due(24, "clear behind a refused add", () -> refusing.clear());
    }

    // The old CODE has a SAY where the new one has VALUES, and later ENDS, more uses and higher PRICES.
    private static void nothingOfTheOldCode(Check check) {
        check.sentence("There is no CODE: the next has nothing of the one before");
        AllocForge forge = Forges.of(Forges.constant(5, 3), Forges.say(0, 3), Forges.call(0), Forges.say(0, 3));
        forge.clear();
        Forges.add(forge, Forges.constant(9), Forges.constant(8));
        for (int v = 0; v < 2; v++) {
            int value = v;
            check.due(v + 1, "THE END of " + v, () -> forge.told(value, 0));
            check.due(0, "uses of " + v, () -> forge.told(value, 1));
            check.due(0, "whether " + v + " is CROSSED", () -> forge.told(value, 2));
            check.due(0, "how many " + v + " MEETS", () -> forge.told(value, 3));
            check.due(1.0, "THE WEIGHT of " + v, () -> forge.weight(value));
        }
        check.due(2, "VALUES", () -> forge.count(1));
        check.badIndex("weight of one that the old CODE had", () -> forge.weight(2));
        check.due(8, "run", () -> forge.run(0, 0, 0, 0));
        check.due(2, "allocate", () -> forge.allocate(1));
        check.due(0.0, "cost", () -> forge.cost());
    }

    // "The latest RUN" is still that of the old CODE.
    private static void saidStays(Check check) {
        check.sentence("There is no CODE (and nothing more: what was SAID is of the latest RUN)");
        AllocForge forge = Forges.busy();
        forge.clear();
        check.due(2, "numbers SAID", () -> forge.count(2));
        check.due(2, "said(0)", () -> forge.said(0));
        check.due(3, "said(1)", () -> forge.said(1));
    }
}
