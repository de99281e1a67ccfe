import java.lang.reflect.Field;

/**
 * Promise 11 and the terms of a RUN where ALLOCATING never lets them be seen: a right allocation gives
 * the same RUNS, so VALUES are moved to wrong places here, past the face.
 */
public final class MisplacedTest {
    public static void main(String[] args) {
        new Check("Promises 10 and 11 with VALUES misplaced").lookAt(
                MisplacedTest::callsSpoilRegistersFrom2On,
                MisplacedTest::callsSpoilNothingElse,
                MisplacedTest::anotherResult,
                MisplacedTest::anotherNumberSaid,
                MisplacedTest::oneFaultAlone,
                MisplacedTest::faultsBehindOtherNumbers,
                MisplacedTest::saidIsOfTheSecond);
    }

    private static void move(AllocForge forge, int v, int home) {
        try {
            Object kept = field(forge, "kept");
            ((int[]) field(kept, "homes"))[v] = home;
        } catch (ReflectiveOperationException e) {
            throw new IllegalStateException("the rows have other names now", e);
        }
    }

    private static Object field(Object owner, String name) throws ReflectiveOperationException {
        Field field = owner.getClass().getDeclaredField(name);
        field.setAccessible(true);
        return field.get(owner);
    }

    /** VALUE 0 lives across a CALL, at the place that is said, and is SAID behind it. */
    private static AllocForge crossed(int home) {
        AllocForge forge = Forges.of(Forges.arg(0), Forges.constant(5), Forges.call(1), Forges.say(0));
        forge.allocate(5);
        move(forge, 0, home);
        move(forge, 1, 15);
        move(forge, 2, 15);
        return forge;
    }

    private static void callsSpoilRegistersFrom2On(Check check) {
        check.sentence("a CALL makes REGISTERS from 2 on -1 before it puts something");
        for (int register = 2; register <= 4; register++) {
            AllocForge forge = crossed(register);
            check.due(0, "go", () -> forge.go(7, 0, 0, 0));
            check.due(-1, "SAID from REGISTER " + register, () -> forge.said(0));
            check.due(false, "same", () -> forge.same(7, 0, 0, 0));
            check.due(true, "same where it is -1 before", () -> forge.same(-1, 0, 0, 0));
        }
    }

    private static void callsSpoilNothingElse(Check check) {
        check.sentence("REGISTERS from 2 on are SPOILED by it");
        for (int home : new int[] {0, 1, 10, 11, 12, 13, 14}) {
            AllocForge forge = crossed(home);
            check.due(0, "go", () -> forge.go(7, 0, 0, 0));
            check.due(7, "SAID from " + home, () -> forge.said(0));
            check.due(true, "same", () -> forge.same(7, 0, 0, 0));
        }
    }

    /** VALUES 0 and 1, the first two numbers, at one place, where the second stays. */
    private static AllocForge atOnePlace(int[]... rows) {
        AllocForge forge = Forges.of(Forges.arg(0), Forges.arg(1));
        Forges.add(forge, rows);
        forge.allocate(5);
        move(forge, 0, 4);
        move(forge, 1, 4);
        return forge;
    }

    private static void anotherResult(Check check) {
        check.sentence("whether they have the same RESULT");
        AllocForge forge = atOnePlace(Forges.two(Forges.SUB, 0, 1));
        check.due(false, "same, 9 less 4 and 4 less 4", () -> forge.same(9, 4, 0, 0));
        check.due(true, "same, 4 less 4 both times", () -> forge.same(4, 4, 0, 0));
    }

    private static void anotherNumberSaid(Check check) {
        check.sentence("whether they SAY the same");
        AllocForge forge = atOnePlace(Forges.say(1), Forges.say(0), Forges.say(1));
        check.due(false, "same, 4 9 4 and 4 4 4", () -> forge.same(9, 4, 0, 0));
        check.due(true, "same, 4 4 4 both times", () -> forge.same(4, 4, 0, 0));
    }

    private static void oneFaultAlone(Check check) {
        check.sentence("or both a FAULT");
        AllocForge forge = atOnePlace(Forges.two(Forges.DIV, 1, 0));
        check.due(false, "same, the first one by 0", () -> forge.same(0, 5, 0, 0));
        check.due(false, "same, the second one by 0", () -> forge.same(5, 0, 0, 0));
        check.due(true, "same, both by 0", () -> forge.same(0, 0, 0, 0));
    }

    private static void faultsBehindOtherNumbers(Check check) {
        check.sentence("(behind the same that was SAID)");
        AllocForge forge = atOnePlace(Forges.say(0), Forges.constant(0), Forges.two(Forges.DIV, 3, 3));
        check.due(false, "same, FAULTS behind 9 and behind 4", () -> forge.same(9, 4, 0, 0));
        check.due(true, "same, FAULTS behind 4 and behind 4", () -> forge.same(4, 4, 0, 0));
    }

    private static void saidIsOfTheSecond(Check check) {
        check.sentence("What was SAID is of the second one then");
        AllocForge forge = atOnePlace(Forges.say(0));
        forge.run(9, 4, 0, 0);
        check.due(9, "said(0) behind run", () -> forge.said(0));
        forge.same(9, 4, 0, 0);
        check.due(4, "said(0) behind same", () -> forge.said(0));
        check.due(1, "how many behind same", () -> forge.count(2));
    }
}
