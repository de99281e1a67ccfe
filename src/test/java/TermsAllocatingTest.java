/** The document's terms on ALLOCATING and THE COST. */
public final class TermsAllocatingTest {
    private static final int NONE = -1;

    public static void main(String[] args) {
        new Check("Terms of ALLOCATING").lookAt(
                TermsAllocatingTest::greatestLengthFirst,
                TermsAllocatingTest::leastRegisterWithoutMeeting,
                TermsAllocatingTest::crossedOnesKeepToTheFirstTwo,
                TermsAllocatingTest::crossedOnesEvictInTheFirstTwo,
                TermsAllocatingTest::greatestWeightInARegister,
                TermsAllocatingTest::leastOfTheGreatest,
                TermsAllocatingTest::leastRegisterOfSeveral,
                TermsAllocatingTest::lessThanItsOwn,
                TermsAllocatingTest::thoseThatMeetAreEvicted,
                TermsAllocatingTest::evictedOnesWaitAgain,
                TermsAllocatingTest::leastSlotWithoutMeeting,
                TermsAllocatingTest::slotsAreForGood,
                TermsAllocatingTest::noRoom,
                TermsAllocatingTest::costs);
    }

    /** Allocates, and looks where every VALUE is; NONE stands for an INSTRUCTION that makes none. */
    private static void places(Check check, AllocForge forge, int k, int... due) {
        int inRegisters = 0;
        for (int home : due) {
            inRegisters += home != NONE && home < 10 ? 1 : 0;
        }
        check.due(inRegisters, "allocate(" + k + ")", () -> forge.allocate(k));
        for (int v = 0; v < due.length; v++) {
            int value = v;
            if (due[v] != NONE) {
                check.due(due[v], "place(" + v + ") with " + k, () -> forge.place(value));
            }
        }
    }

    private static void evictions(Check check, AllocForge forge, int due) {
        check.due(due, "how often a VALUE was EVICTED", () -> forge.count(3));
    }

    private static void greatestLengthFirst(Check check) {
        check.sentence("the one that waits with the greatest LENGTH, of several the least, is looked at");
        AllocForge longer = Forges.of(
                Forges.constant(1), Forges.constant(2), Forges.say(0), Forges.constant(3), Forges.say(1));
        places(check, longer, 2, 1, 0, NONE, 1, NONE);
        AllocForge equal = Forges.of(Forges.constant(1), Forges.constant(2), Forges.say(0), Forges.say(1));
        places(check, equal, 2, 0, 1, NONE, NONE);
        // 2 has the later END, 0 the greater LENGTH.
        AllocForge later = Forges.of(
                Forges.constant(1), Forges.constant(2), Forges.constant(3), Forges.say(0), Forges.say(2));
        places(check, later, 2, 0, 1, 1, NONE, NONE);
    }

    private static void leastRegisterWithoutMeeting(Check check) {
        check.sentence("it gets the least REGISTER that it may have in which no VALUE MEETS it");
        AllocForge forge = Forges.of(Forges.arg(0), Forges.arg(1), Forges.two(Forges.ADD, 0, 1));
        places(check, forge, 2, 0, 1, 0);
        evictions(check, forge, 0);
        places(check, forge, 5, 0, 1, 0);
        places(check, Forges.crowd(5), 5, 0, 1, 2, 3, 4);
        // 3 (weight 1000) takes the free REGISTER 1, though those in 0 are lighter.
        AllocForge free = Forges.of(
                Forges.constant(1), Forges.constant(2), Forges.say(0), Forges.constant(3, 3), Forges.say(0));
        places(check, free, 2, 0, 1, NONE, 1, NONE);
        evictions(check, free, 0);
    }

    private static void crossedOnesKeepToTheFirstTwo(Check check) {
        check.sentence("(a CROSSED one only 0 and 1)");
        AllocForge forge = Forges.of(
                Forges.constant(1), Forges.constant(2), Forges.constant(3), Forges.constant(4), Forges.call(3),
                Forges.say(0), Forges.say(1), Forges.say(2), Forges.say(4));
        for (int k = 3; k <= 5; k++) {
            places(check, forge, k, 0, 1, 10, 2, 2, NONE, NONE, NONE, NONE);
            evictions(check, forge, 0);
        }
        // Of the CROSSED ones and of 3 and 4, which are heavier than they, REGISTERS 0 and 1 go to the heavier.
        check.due(3, "allocate(2)", () -> forge.allocate(2));
        check.due(2, "allocate(1)", () -> forge.allocate(1));
    }

    // 0 and 1 hold REGISTERS 0 and 1; 4, CROSSED by 7, puts 0 out though 2 is free; 0 may have 2, and gets it.
    private static void crossedOnesEvictInTheFirstTwo(Check check) {
        check.sentence("of the REGISTERS that it may have");
        AllocForge forge = Forges.of(
                Forges.constant(1), Forges.constant(2), Forges.constant(3), Forges.constant(4),
                Forges.constant(5, 3), Forges.say(0), Forges.say(1), Forges.call(4), Forges.say(4));
        places(check, forge, 3, 2, 1, 0, 0, 0, NONE, NONE, 1, NONE);
        evictions(check, forge, 1);
    }

    // 0 (weight 11/4) and 5 (1001/4) follow one another in REGISTER 0; 3 (11/3) MEETS both,
    // and is heavier than the one, but not than the other.
    private static void greatestWeightInARegister(Check check) {
        check.sentence("the greatest WEIGHT of the VALUES that MEET it");
        AllocForge forge = Forges.of(
                Forges.constant(1), Forges.constant(2), Forges.constant(3), Forges.constant(4), Forges.say(0, 1),
                Forges.constant(5, 3), Forges.say(3, 1), Forges.constant(6), Forges.constant(7), Forges.say(5));
        places(check, forge, 1, 0, 10, 10, 10, NONE, 0, NONE, 10, 10, NONE);
        evictions(check, forge, 0);
        // The same with 1001/4 before 11/4.
        AllocForge heavyFirst = Forges.of(
                Forges.constant(1, 3), Forges.constant(2), Forges.constant(3), Forges.constant(4), Forges.say(0),
                Forges.constant(5), Forges.say(3, 1), Forges.constant(6), Forges.constant(7), Forges.say(5, 1));
        places(check, heavyFirst, 1, 0, 10, 10, 10, NONE, 0, NONE, 10, 10, NONE);
        evictions(check, heavyFirst, 0);
        // 0 (1010/4) and 5 (1100/4) in REGISTER 0 weigh more than 3 (1001/3) together, but each less.
        AllocForge together = Forges.of(
                Forges.constant(1, 3), Forges.constant(2), Forges.constant(3), Forges.constant(4, 3),
                Forges.say(0, 1), Forges.constant(5, 3), Forges.say(3), Forges.constant(6), Forges.constant(7),
                Forges.say(5, 2));
        places(check, together, 1, 10, 0, 0, 0, NONE, 10, NONE, 0, 0, NONE);
        evictions(check, together, 2);
    }

    // 0 and 1 hold REGISTERS 0 and 1 with weights 101/4 and 2/4; 2 puts the lighter one out.
    private static void leastOfTheGreatest(Check check) {
        check.sentence("the one in which the greatest WEIGHT of the VALUES that MEET it is least");
        AllocForge forge = Forges.of(
                Forges.constant(1, 2), Forges.constant(2), Forges.constant(3, 3), Forges.say(2), Forges.say(0),
                Forges.say(1));
        places(check, forge, 2, 0, 10, 1, NONE, NONE, NONE);
        evictions(check, forge, 1);
        // 3 puts 0 (1001/5) out of REGISTER 0; in 1 it MEETS 1 (10) and 2 (1010/2): the heavier one counts.
        AllocForge mixed = Forges.of(
                Forges.constant(1, 3), Forges.constant(2, 1), Forges.constant(3, 1), Forges.constant(4, 3),
                Forges.say(2, 3), Forges.say(0));
        places(check, mixed, 2, 10, 1, 1, 0, NONE, NONE);
        evictions(check, mixed, 1);
    }

    private static void leastRegisterOfSeveral(Check check) {
        check.sentence("of several the least REGISTER");
        AllocForge forge = Forges.of(
                Forges.constant(1), Forges.constant(2), Forges.constant(3, 1), Forges.say(2), Forges.say(0),
                Forges.say(1));
        places(check, forge, 2, 10, 1, 0, NONE, NONE, NONE);
        evictions(check, forge, 1);
    }

    private static void lessThanItsOwn(Check check) {
        check.sentence("if that is less than its own WEIGHT");
        // 0 has 2/2, 1 has 1/1.
        AllocForge equal = Forges.of(Forges.constant(5), Forges.constant(6), Forges.say(0));
        places(check, equal, 1, 0, 10, NONE);
        evictions(check, equal, 0);
        // 0 has 2/3, 1 has 1/1.
        AllocForge less = Forges.of(Forges.constant(5), Forges.constant(6), Forges.constant(7), Forges.say(0));
        places(check, less, 1, 10, 0, 0, NONE);
        evictions(check, less, 1);
        // 0 has 11/2, 1 has 1/1.
        AllocForge more = Forges.of(Forges.constant(5), Forges.constant(6), Forges.say(0, 1));
        places(check, more, 1, 0, 10, NONE);
        evictions(check, more, 0);
    }

    private static void thoseThatMeetAreEvicted(Check check) {
        check.sentence("those that MEET it there are EVICTED");
        // 1 (3/3) and 4 (2/3) follow one another in REGISTER 0; 3 (1001/2) MEETS both.
        AllocForge both = Forges.of(
                Forges.constant(1), Forges.constant(2), Forges.constant(3), Forges.constant(4, 3),
                Forges.two(Forges.ADD, 1, 1), Forges.say(3), Forges.constant(5), Forges.say(4));
        places(check, both, 1, 0, 10, 0, 0, 10, NONE, 0, NONE);
        evictions(check, both, 2);
        // 0 and 4 follow one another in REGISTER 0; 5 (1001/2) MEETS 4 alone, so 0 stays.
        AllocForge one = Forges.of(
                Forges.constant(1), Forges.say(0), Forges.say(0), Forges.say(0), Forges.two(Forges.ADD, 0, 0),
                Forges.constant(2, 3), Forges.say(4), Forges.say(5), Forges.say(4));
        places(check, one, 1, 0, NONE, NONE, NONE, 10, 0, NONE, NONE, NONE);
        evictions(check, one, 1);
    }

    private static void evictedOnesWaitAgain(Check check) {
        check.sentence("and wait again");
        // 0 is put out by 1, and 1 by 2; each finds a SLOT then.
        AllocForge chain = Forges.of(
                Forges.constant(1), Forges.constant(2, 1), Forges.constant(3, 3), Forges.say(0), Forges.say(1));
        places(check, chain, 1, 10, 11, 0, NONE, NONE);
        evictions(check, chain, 2);
        // 0 is put out of REGISTER 1 by 2, gets 2, which the CROSSED 2 may not have, and is put out of it by 3.
        AllocForge twice = Forges.of(
                Forges.constant(1), Forges.constant(2, 2), Forges.constant(3), Forges.constant(4), Forges.call(0),
                Forges.say(2, 3), new int[] {7, 1, 0, 2});
        places(check, twice, 3, 10, 0, 1, 2, 2, NONE, 0);
        evictions(check, twice, 2);
    }

    private static void leastSlotWithoutMeeting(Check check) {
        check.sentence("Else it gets the least SLOT (0 to 5) in which no VALUE MEETS it");
        places(check, Forges.crowd(7), 1, 0, 10, 11, 12, 13, 14, 15);
        AllocForge shared = Forges.of(
                Forges.constant(1), Forges.constant(2, 3), Forges.two(Forges.ADD, 0, 1), Forges.constant(3, 3),
                Forges.two(Forges.ADD, 2, 3));
        places(check, shared, 1, 10, 0, 10, 0, 0);
        check.due(1, "SLOTS used", () -> shared.count(5));
    }

    // 1 and 2 find 0 (120/8) in the REGISTER, and go to SLOTS; when 6 (1000) has put 0 out, the
    // REGISTER is free for them, and they stay where they are all the same.
    private static void slotsAreForGood(Check check) {
        check.sentence("and stays there");
        AllocForge forge = Forges.of(
                Forges.constant(1, 1), Forges.constant(2), Forges.constant(3), Forges.say(1), Forges.constant(4),
                Forges.say(0, 1), Forges.constant(5, 3), Forges.constant(6), Forges.say(0, 2));
        places(check, forge, 1, 12, 10, 11, NONE, 10, NONE, 0, 0, NONE);
    }

    private static void noRoom(Check check) {
        check.sentence("without one there is no room");
        for (int k = 1; k <= 5; k++) {
            int number = k;
            check.due(k, "allocate(" + k + ") for as many and 6", () -> Forges.crowd(number + 6).allocate(number));
            check.badState("allocate(" + k + ") for one more", () -> Forges.crowd(number + 7).allocate(number));
        }
        // 9 CROSSED ones: the REGISTERS from 2 on are of no use to them.
        AllocForge crossed = new AllocForge();
        for (int v = 0; v < 9; v++) {
            crossed.add(0, v, 0, 0);
        }
        crossed.add(7, 8, 0, 0);
        for (int v = 0; v < 9; v++) {
            crossed.add(6, v, 0, 0);
        }
        check.badState("allocate(5) for 9 CROSSED ones", () -> crossed.allocate(5));
    }

    private static void costs(Check check) {
        check.sentence("THE COST is the sum of THE PRICES of the INSTRUCTIONS that make VALUES in SLOTS, "
                + "and of each of their uses, as a double");
        AllocForge none = Forges.of(Forges.arg(0), Forges.arg(1), Forges.two(Forges.ADD, 0, 1));
        none.allocate(2);
        check.due(0.0, "no SLOT", () -> none.cost());
        none.allocate(1);
        check.due(2.0, "0 in a SLOT: made, and used once", () -> none.cost());
        // 1 (2017/20) finds 0 (2110/20) in the REGISTER.
        AllocForge deep = Forges.of(Forges.constant(1, 1), Forges.constant(2, 3), Forges.say(0, 2));
        for (int i = 3; i < 20; i++) {
            Forges.add(deep, Forges.say(1));
        }
        deep.add(Forges.MUL, 0, 0, 3);
        deep.add(6, 1, 0, 3);
        check.due(2, "allocate(1)", () -> deep.allocate(1));
        check.due(1000.0 + 17.0 + 1000.0, "1 in a SLOT: made and used at DEPTH 3, used 17 times at 0",
                () -> deep.cost());
        AllocForge many = Forges.crowd(7);
        many.allocate(1);
        check.due(12.0, "6 in SLOTS", () -> many.cost());
    }
}
