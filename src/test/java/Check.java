/** What the tests share: they print every answer that is not as due, and end with 1 if there was one. */
final class Check {
    interface Call {
        Object answer();
    }

    private static final int ANY = 0;

    private int wrong;
    private int looked;

    /** Looks whether the call answers what is due. */
    void due(Object want, String what, Call call) {
        looked++;
        Object got;
        try {
            got = call.answer();
        } catch (RuntimeException e) {
            got = e.getClass();
        }
        if (!want.equals(got)) {
            wrong++;
            System.out.println(what + " answered " + got + ", due is " + want);
        }
    }

    void badArgument(String what, Call call) {
        due(IllegalArgumentException.class, what, call);
    }

    void badState(String what, Call call) {
        due(IllegalStateException.class, what, call);
    }

    void badIndex(String what, Call call) {
        due(IndexOutOfBoundsException.class, what, call);
    }

    void fault(String what, Call call) {
        due(ArithmeticException.class, what, call);
    }

    void end() {
        System.out.println(looked + " answers looked at, " + wrong + " not as due");
        if (wrong > 0 || looked == 0) {
            System.exit(1);
        }
    }

    /** A new object with the instructions (op, a, b, depth) of the rows. */
    static AllocForge forge(int[]... rows) {
        AllocForge forge = new AllocForge();
        for (int[] row : rows) {
            forge.add(row[0], row[1], row[2], row[3]);
        }
        return forge;
    }

    static int[] constant(int number, int depth) {
        return new int[] {0, number, ANY, depth};
    }

    static int[] arg(int number) {
        return new int[] {1, number, ANY, 0};
    }

    static int[] two(int op, int a, int b) {
        return new int[] {op, a, b, 0};
    }

    static int[] say(int a) {
        return new int[] {6, a, ANY, 0};
    }

    static int[] call(int a) {
        return new int[] {7, a, ANY, 0};
    }
}
