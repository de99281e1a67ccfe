import java.util.List;

/** Promise 1: A new object. */
public final class Promise01NewObjectTest {
    public static void main(String[] args) {
        new Check("Promise 1").lookAt(
                Promise01NewObjectTest::noCode,
                Promise01NewObjectTest::nothingAllocated,
                Promise01NewObjectTest::nothingSaid,
                Promise01NewObjectTest::objectsAreApart);
    }

    private static void noCode(Check check) {
        check.sentence("No CODE");
        AllocForge forge = new AllocForge();
        check.due(0, "INSTRUCTIONS", () -> forge.count(0));
        check.due(0, "VALUES", () -> forge.count(1));
        check.badIndex("weight(0)", () -> forge.weight(0));
        check.badIndex("told(0, 0)", () -> forge.told(0, 0));
        check.badIndex("place(0)", () -> forge.place(0));
        check.due(0, "run", () -> forge.run(1, 2, 3, 4));
        check.due(0, "clear", () -> forge.clear());
        check.due(1, "the first add", () -> forge.add(0, 0, 0, 0));
    }

    private static void nothingAllocated(Check check) {
        check.sentence("No CODE: nothing is ALLOCATED");
        AllocForge forge = new AllocForge();
        check.badState("cost", () -> forge.cost());
        check.badState("go", () -> forge.go(1, 2, 3, 4));
        check.badState("same", () -> forge.same(1, 2, 3, 4));
        for (int what = 3; what <= 7; what++) {
            int number = what;
            check.due(0, "count(" + what + ")", () -> forge.count(number));
        }
    }

    private static void nothingSaid(Check check) {
        check.sentence("No CODE: nothing was SAID");
        AllocForge forge = new AllocForge();
        check.due(0, "numbers SAID", () -> forge.count(2));
        check.badIndex("said(0)", () -> forge.said(0));
    }

    private static void objectsAreApart(Check check) {
        check.sentence("A new object has no CODE, whatever others have");
        AllocForge first = Forges.busy();
        List<String> before = Forges.state(first);
        AllocForge second = new AllocForge();
        check.due(0, "INSTRUCTIONS of the second", () -> second.count(0));
        check.badState("cost of the second", () -> second.cost());
        check.badIndex("said(0) of the second", () -> second.said(0));
        second.add(0, 1, 0, 0);
        second.allocate(5);
        second.run(0, 0, 0, 0);
        check.asBefore(before, "of the first", first);
    }
}
