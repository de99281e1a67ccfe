import java.util.ArrayList;
import java.util.List;

/** Objects for the tests, and what can be asked of them. */
final class Forges {
    static final int MIN = Integer.MIN_VALUE;
    static final int MAX = Integer.MAX_VALUE;
    static final int LIMIT = 24;

    static final int ADD = 2;
    static final int SUB = 3;
    static final int MUL = 4;
    static final int DIV = 5;

    private static final int ANY = 0;

    private Forges() {
    }

    /** A new object with the instructions (op, a, b, depth) of the rows. */
    static AllocForge of(int[]... rows) {
        AllocForge forge = new AllocForge();
        add(forge, rows);
        return forge;
    }

    static void add(AllocForge forge, int[]... rows) {
        for (int[] row : rows) {
            forge.add(row[0], row[1], row[2], row[3]);
        }
    }

    static int[] constant(int number) {
        return constant(number, 0);
    }

    static int[] constant(int number, int depth) {
        return new int[] {0, number, ANY, depth};
    }

    static int[] arg(int number) {
        return new int[] {1, number, ANY, 0};
    }

    static int[] two(int op, int a, int b) {
        return new int[] {op, a, b, 0};
    }

    static int[] say(int a) {
        return say(a, 0);
    }

    static int[] say(int a, int depth) {
        return new int[] {6, a, ANY, depth};
    }

    static int[] call(int a) {
        return new int[] {7, a, ANY, 0};
    }

    /** As many CONSTs as said, all living at once with one weight, and then each of them SAID. */
    static AllocForge crowd(int many) {
        AllocForge forge = new AllocForge();
        for (int v = 0; v < many; v++) {
            forge.add(0, v, ANY, 0);
        }
        for (int v = 0; v < many; v++) {
            forge.add(6, v, ANY, 0);
        }
        return forge;
    }

    /** 24 INSTRUCTIONS: ARG 0, and 23 that each add it to the one before; the result is 24 times ARG 0. */
    static AllocForge full() {
        AllocForge forge = of(arg(0));
        for (int i = 1; i < LIMIT; i++) {
            forge.add(ADD, i - 1, 0, 0);
        }
        return forge;
    }

    /** Two ARGs, a SAY of the second, their DIV, a SAY of it; allocated with 1: an eviction and a slot. */
    static AllocForge busy() {
        AllocForge forge = idle();
        forge.allocate(1);
        return forge;
    }

    /** The same as busy, with nothing allocated. */
    static AllocForge idle() {
        AllocForge forge = of(arg(0), arg(1), say(1), two(DIV, 0, 1), say(3));
        forge.run(7, 2, 0, 0);
        return forge;
    }

    /** The answers to all that can be asked without changing anything. */
    static List<String> state(AllocForge forge) {
        List<String> all = new ArrayList<>();
        for (int what = 0; what <= 7; what++) {
            int number = what;
            note(all, "count", what, () -> forge.count(number));
        }
        note(all, "cost", 0, () -> forge.cost());
        for (int v = 0; v < forge.count(0); v++) {
            int value = v;
            note(all, "place", v, () -> forge.place(value));
            note(all, "weight", v, () -> forge.weight(value));
            for (int what = 0; what <= 3; what++) {
                int number = what;
                note(all, "told " + what + " of", v, () -> forge.told(value, number));
            }
        }
        for (int i = 0; i < forge.count(2); i++) {
            int number = i;
            note(all, "said", i, () -> forge.said(number));
        }
        return all;
    }

    private static void note(List<String> all, String what, int number, Check.Answer answer) {
        Object got;
        try {
            got = answer.get();
        } catch (RuntimeException e) {
            got = e.getClass().getSimpleName();
        }
        all.add(what + " " + number + ": " + got);
    }
}
