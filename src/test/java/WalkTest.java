import java.util.ArrayList;
import java.util.List;
import java.util.Random;

/**
 * All promises on objects that live through 512 calls of any kind, right and wrong: what one call leaves
 * behind for later ones is held against what the document lets it leave. The seeds never change.
 */
public final class WalkTest {
    private static final int WALKS = 400;
    private static final int CALLS = 512;

    private final Check check;
    private final Random random;
    private final String name;
    private final AllocForge forge = new AllocForge();
    private final List<int[]> code = new ArrayList<>();
    private List<Integer> said = new ArrayList<>();
    private Oracle held;
    private int registers;

    private WalkTest(Check check, int seed) {
        this.check = check;
        this.random = new Random(seed);
        this.name = "walk " + seed + ": ";
    }

    public static void main(String[] args) {
        Check check = new Check("All promises, 512 calls long");
        check.sentence("An object is used for at most 512 calls after it has been made");
        for (int seed = 0; seed < WALKS; seed++) {
            WalkTest walk = new WalkTest(check, seed);
            for (int call = 0; call < CALLS; call++) {
                walk.step();
            }
        }
        check.end();
    }

    private void due(Object want, String what, Check.Answer answer) {
        check.due(want, name + what, answer);
    }

    private void step() {
        switch (random.nextInt(12)) {
            case 0, 1, 2:
                add();
                break;
            case 3:
                allocate(random.nextInt(8) - 1);
                break;
            case 4:
                place(number());
                break;
            case 5:
                weight(number());
                break;
            case 6:
                told(number(), random.nextInt(6) - 1);
                break;
            case 7:
                run();
                break;
            case 8:
                go();
                break;
            case 9:
                same();
                break;
            case 10:
                said(number());
                break;
            default:
                rest();
        }
    }

    /** Mostly one that is there, or stands beside those that are; now and then any int. */
    private int number() {
        return random.nextInt(20) == 0 ? random.nextInt() : random.nextInt(code.size() + 3) - 1;
    }

    private Oracle oracle() {
        return Oracle.of(code.toArray(new int[0][]));
    }

    private boolean isValue(int v) {
        return v >= 0 && v < code.size() && code.get(v)[0] != 6;
    }

    private void add() {
        int op = random.nextInt(30) == 0 ? 8 : random.nextInt(8);
        int a = op == 1 ? random.nextInt(5) : number();
        int b = number();
        int depth = random.nextInt(30) == 0 ? 4 : random.nextInt(4);
        boolean right = op < 8 && depth < 4 && (op != 1 || a < 4) && (op < 2 || isValue(a))
                && (op < 2 || op > 5 || isValue(b));
        Object due = !right ? IllegalArgumentException.class
                : code.size() == 24 ? IllegalStateException.class : code.size() + 1;
        due(due, "add(" + op + ", " + a + ", " + b + ", " + depth + ")", () -> forge.add(op, a, b, depth));
        if (due instanceof Integer) {
            code.add(new int[] {op, a, b, depth});
            held = null;
        }
    }

    private void allocate(int k) {
        Oracle trial = oracle();
        boolean right = k >= 1 && k <= 5;
        int many = right ? trial.allocate(k) : 0;
        Object due = !right ? IllegalArgumentException.class
                : many == Oracle.NO_ROOM ? IllegalStateException.class : many;
        due(due, "allocate(" + k + ")", () -> forge.allocate(k));
        if (due instanceof Integer) {
            held = trial;
            registers = k;
        }
    }

    private void place(int v) {
        Object due = !isValue(v) ? IndexOutOfBoundsException.class
                : held == null ? IllegalStateException.class : held.places()[v];
        due(due, "place(" + v + ")", () -> forge.place(v));
    }

    private void weight(int v) {
        Object due = isValue(v) ? oracle().weight(v) : IndexOutOfBoundsException.class;
        due(due, "weight(" + v + ")", () -> forge.weight(v));
    }

    private void told(int v, int what) {
        Object due = what < 0 || what > 3 ? IllegalArgumentException.class
                : isValue(v) ? toldOfValue(v, what) : IndexOutOfBoundsException.class;
        due(due, "told(" + v + ", " + what + ")", () -> forge.told(v, what));
    }

    private Integer toldOfValue(int v, int what) {
        Oracle oracle = oracle();
        return what == 0 ? oracle.end(v) : what == 1 ? oracle.users(v).size()
                : what == 2 ? (oracle.crossed(v) ? 1 : 0) : oracle.meets(v);
    }

    private int[] numbers() {
        return new int[] {random.nextInt(), random.nextInt(3), random.nextInt(3) - 1, -random.nextInt(100)};
    }

    /** THE RESULT or the class of the FAULT; what is SAID is of this RUN from now on. */
    private Object ran(int[] n) {
        said = new ArrayList<>();
        Integer result = oracle().run(n, said);
        return result == null ? ArithmeticException.class : result;
    }

    private void run() {
        int[] n = numbers();
        due(ran(n), "run", () -> forge.run(n[0], n[1], n[2], n[3]));
    }

    private void go() {
        int[] n = numbers();
        Object due = held == null ? IllegalStateException.class : ran(n);
        due(due, "go", () -> forge.go(n[0], n[1], n[2], n[3]));
    }

    private void same() {
        int[] n = numbers();
        Object due = IllegalStateException.class;
        if (held != null) {
            ran(n);
            due = true;
        }
        due(due, "same", () -> forge.same(n[0], n[1], n[2], n[3]));
    }

    private void said(int i) {
        Object due = i >= 0 && i < said.size() ? said.get(i) : IndexOutOfBoundsException.class;
        due(due, "said(" + i + ")", () -> forge.said(i));
    }

    private void rest() {
        if (random.nextInt(12) == 0) {
            due(code.size(), "clear()", () -> forge.clear());
            code.clear();
            held = null;
        } else if (random.nextInt(4) == 0) {
            Object due = held == null ? IllegalStateException.class : held.cost();
            due(due, "cost()", () -> forge.cost());
        } else {
            int what = random.nextInt(10) - 1;
            Object due = what < 0 || what > 7 ? IllegalArgumentException.class : counted(what);
            due(due, "count(" + what + ")", () -> forge.count(what));
        }
    }

    private Integer counted(int what) {
        if (what == 0) {
            return code.size();
        }
        if (what == 1) {
            return (int) code.stream().filter(row -> row[0] != 6).count();
        }
        if (what == 2) {
            return said.size();
        }
        if (held == null) {
            return 0;
        }
        return what == 3 ? held.evicted : what == 4 ? held.in(10, 16) : what == 5 ? held.distinct(10, 16)
                : what == 6 ? held.distinct(0, 5) : registers;
    }
}
