/** Promises 4, 5, 8 and 13: allocate, place, cost and count. */
public final class AllocateTest {
    private static final int SAY = -1;

    public static void main(String[] args) {
        Check check = new Check();
        enoughRegisters(check);
        lighterIsEvicted(check);
        equalIsNotEvicted(check);
        leastOfEqualRegisters(check);
        lightestRegister(check);
        heaviestInARegisterCounts(check);
        severalEvictedAtOnce(check);
        crossedOnesKeepToTheFirstTwo(check);
        slotsAreShared(check);
        noRoom(check);
        emptyCode(check);
        wrongInputs(check);
        check.end();
    }

    private static void places(Check check, String what, AllocForge forge, int... due) {
        for (int v = 0; v < due.length; v++) {
            int value = v;
            if (due[v] == SAY) {
                check.badIndex(what + ": place(" + v + ") of a SAY", () -> forge.place(value));
            } else {
                check.due(due[v], what + ": place(" + v + ")", () -> forge.place(value));
            }
        }
    }

    /** EVICTED, VALUES in SLOTS, SLOTS used, REGISTERS used, with how many. */
    private static void counts(Check check, String what, AllocForge forge, int... due) {
        for (int i = 0; i < due.length; i++) {
            int number = i + 3;
            check.due(due[i], what + ": count(" + number + ")", () -> forge.count(number));
        }
    }

    private static void enoughRegisters(Check check) {
        AllocForge forge = Check.forge(Check.arg(0), Check.arg(1), Check.two(2, 0, 1));
        check.due(3, "enough: allocate(3)", () -> forge.allocate(3));
        places(check, "enough", forge, 0, 1, 0);
        counts(check, "enough", forge, 0, 0, 0, 2, 3);
        check.due(0.0, "enough: cost()", () -> forge.cost());
    }

    private static void lighterIsEvicted(Check check) {
        AllocForge forge = Check.forge(Check.arg(0), Check.arg(1), Check.two(2, 0, 1));
        check.due(2, "evict: allocate(1)", () -> forge.allocate(1));
        places(check, "evict", forge, 10, 0, 0);
        counts(check, "evict", forge, 1, 1, 1, 1, 1);
        check.due(2.0, "evict: cost()", () -> forge.cost());
        check.due(3, "allocate(2) takes the place of allocate(1)", () -> forge.allocate(2));
        counts(check, "evict, then 2", forge, 0, 0, 0, 2, 2);
        check.due(2, "allocate(1) again", () -> forge.allocate(1));
        counts(check, "evict again", forge, 1, 1, 1, 1, 1);
    }

    private static void equalIsNotEvicted(Check check) {
        AllocForge forge = Check.forge(Check.constant(5, 0), Check.constant(6, 0), Check.say(0));
        check.due(1, "equal: allocate(1)", () -> forge.allocate(1));
        places(check, "equal", forge, 0, 10, SAY);
        counts(check, "equal", forge, 0, 1, 1, 1, 1);
        check.due(1.0, "equal: cost()", () -> forge.cost());
    }

    private static void leastOfEqualRegisters(Check check) {
        AllocForge forge = Check.forge(
                Check.constant(1, 0), Check.constant(2, 0), Check.constant(3, 1), Check.say(2), Check.say(0),
                Check.say(1));
        check.due(2, "tie: allocate(2)", () -> forge.allocate(2));
        places(check, "tie", forge, 10, 1, 0, SAY, SAY, SAY);
        counts(check, "tie", forge, 1, 1, 1, 2, 2);
    }

    // 0 and 1 hold registers 0 and 1 with weights 101/4 and 2/4; 2 puts the lighter one out.
    private static void lightestRegister(Check check) {
        AllocForge forge = Check.forge(
                Check.constant(1, 2), Check.constant(2, 0), Check.constant(3, 3), Check.say(2), Check.say(0),
                Check.say(1));
        check.due(2, "lightest: allocate(2)", () -> forge.allocate(2));
        places(check, "lightest", forge, 0, 10, 1, SAY, SAY, SAY);
        counts(check, "lightest", forge, 1, 1, 1, 2, 2);
        check.due(2.0, "lightest: cost()", () -> forge.cost());
    }

    // 0 (weight 11/4) and 5 (1001/4) follow one another in register 0; 3 (11/3) meets both,
    // and is heavier than the one, but not than the other.
    private static void heaviestInARegisterCounts(Check check) {
        AllocForge forge = new AllocForge();
        forge.add(0, 1, 0, 0);
        forge.add(0, 2, 0, 0);
        forge.add(0, 3, 0, 0);
        forge.add(0, 4, 0, 0);
        forge.add(6, 0, 0, 1);
        forge.add(0, 5, 0, 3);
        forge.add(6, 3, 0, 1);
        forge.add(0, 6, 0, 0);
        forge.add(0, 7, 0, 0);
        forge.add(6, 5, 0, 0);
        check.due(2, "heaviest: allocate(1)", () -> forge.allocate(1));
        places(check, "heaviest", forge, 0, 10, 10, 10, SAY, 0, SAY, 10, 10, SAY);
        counts(check, "heaviest", forge, 0, 5, 1, 1, 1);
        check.due(15.0, "heaviest: cost()", () -> forge.cost());
    }

    // 1 (length 3, weight 1) and 4 (length 3, weight 2/3) follow one another in register 0;
    // 3 (length 2, weight 1001/2) meets both and puts both out.
    private static void severalEvictedAtOnce(Check check) {
        AllocForge forge = new AllocForge();
        forge.add(0, 1, 0, 0);
        forge.add(0, 2, 0, 0);
        forge.add(0, 3, 0, 0);
        forge.add(0, 4, 0, 3);
        forge.add(2, 1, 1, 0);
        forge.add(6, 3, 0, 0);
        forge.add(0, 5, 0, 0);
        forge.add(6, 4, 0, 0);
        check.due(4, "several: allocate(1)", () -> forge.allocate(1));
        places(check, "several", forge, 0, 10, 0, 0, 10, SAY, 0, SAY);
        counts(check, "several", forge, 2, 2, 1, 1, 1);
        check.due(5.0, "several: cost()", () -> forge.cost());
    }

    private static void crossedOnesKeepToTheFirstTwo(Check check) {
        AllocForge forge = Check.forge(
                Check.constant(1, 0), Check.constant(2, 0), Check.constant(3, 0), Check.constant(4, 0), Check.call(3),
                Check.say(0), Check.say(1), Check.say(2), Check.say(4));
        check.due(4, "crossed: allocate(5)", () -> forge.allocate(5));
        places(check, "crossed", forge, 0, 1, 10, 2, 2, SAY, SAY, SAY, SAY);
        counts(check, "crossed", forge, 0, 1, 1, 3, 5);
        check.due(true, "crossed: same", () -> forge.same(0, 0, 0, 0));
        check.due(2, "crossed: allocate(1)", () -> forge.allocate(1));
    }

    private static void slotsAreShared(Check check) {
        AllocForge forge = Check.forge(
                Check.constant(1, 0), Check.constant(2, 3), Check.two(2, 0, 1), Check.constant(3, 3),
                Check.two(2, 2, 3));
        check.due(3, "shared: allocate(1)", () -> forge.allocate(1));
        places(check, "shared", forge, 10, 0, 10, 0, 0);
        counts(check, "shared", forge, 2, 2, 1, 1, 1);
        check.due(4.0, "shared: cost()", () -> forge.cost());
    }

    /** As many CONSTs as said, all living at once, and then each of them SAID. */
    private static AllocForge crowd(int many) {
        AllocForge forge = new AllocForge();
        for (int v = 0; v < many; v++) {
            forge.add(0, v, 0, 0);
        }
        for (int v = 0; v < many; v++) {
            forge.add(6, v, 0, 0);
        }
        return forge;
    }

    private static void noRoom(Check check) {
        AllocForge forge = crowd(8);
        check.badState("8 with 1", () -> forge.allocate(1));
        check.badState("place behind no room", () -> forge.place(0));
        counts(check, "8 with 1", forge, 0, 0, 0, 0, 0);
        check.due(2, "8 with 2", () -> forge.allocate(2));
        places(check, "8 with 2", forge, 0, 1, 10, 11, 12, 13, 14, 15, SAY);
        counts(check, "8 with 2", forge, 0, 6, 6, 2, 2);
        check.due(12.0, "8 with 2: cost()", () -> forge.cost());
        check.badState("8 with 1 behind that", () -> forge.allocate(1));
        places(check, "nothing changed", forge, 0, 1, 10, 11, 12, 13, 14, 15, SAY);
        counts(check, "nothing changed", forge, 0, 6, 6, 2, 2);
        check.due(true, "nothing changed: same", () -> forge.same(0, 0, 0, 0));
        check.due(5, "11 with 5", () -> crowd(11).allocate(5));
        check.badState("12 with 5", () -> crowd(12).allocate(5));
    }

    private static void emptyCode(Check check) {
        AllocForge forge = new AllocForge();
        check.due(0, "empty: allocate(3)", () -> forge.allocate(3));
        counts(check, "empty", forge, 0, 0, 0, 0, 3);
        check.due(0.0, "empty: cost()", () -> forge.cost());
        check.due(true, "empty: same", () -> forge.same(1, 2, 3, 4));
        check.badIndex("empty: place(0)", () -> forge.place(0));
    }

    private static void wrongInputs(Check check) {
        AllocForge forge = Check.forge(Check.constant(1, 0), Check.say(0));
        forge.allocate(4);
        for (int k : new int[] {-1, 0, 6, Integer.MIN_VALUE, Integer.MAX_VALUE}) {
            check.badArgument("allocate(" + k + ")", () -> forge.allocate(k));
        }
        check.due(4, "nothing changed by a wrong k", () -> forge.count(7));
        for (int v : new int[] {-1, 1, 2, 24, Integer.MIN_VALUE, Integer.MAX_VALUE}) {
            check.badIndex("place(" + v + ")", () -> forge.place(v));
        }
        for (int what : new int[] {-1, 8, Integer.MIN_VALUE, Integer.MAX_VALUE}) {
            check.badArgument("count(" + what + ")", () -> forge.count(what));
        }
        forge.add(0, 0, 0, 0);
        check.badIndex("place of no value, nothing ALLOCATED", () -> forge.place(1));
        check.badState("place of a value, nothing ALLOCATED", () -> forge.place(0));
        check.badState("cost, nothing ALLOCATED", () -> forge.cost());
    }
}
