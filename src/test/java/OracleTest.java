import java.util.ArrayList;
import java.util.List;
import java.util.Random;

/** All promises on many codes, against the document's terms worked out anew; the seeds never change. */
public final class OracleTest {
    private static final int CODES = 6000;

    private final Check check = new Check("All promises");
    private int roomless;
    private int evicting;
    private int faulty;

    public static void main(String[] args) {
        OracleTest test = new OracleTest();
        test.check.sentence("all terms together");
        for (int seed = 0; seed < CODES; seed++) {
            test.lookAt(seed);
        }
        // Were these never met, the codes would be too tame to tell anything.
        test.check.due(true, "codes without room", () -> test.roomless > 100);
        test.check.due(true, "codes with evictions", () -> test.evicting > 100);
        test.check.due(true, "codes with faults", () -> test.faulty > 100);
        test.check.end();
    }

    private static int[][] code(Random random) {
        int many = random.nextInt(25);
        int firstUse = 1 + random.nextInt(12);
        boolean calls = random.nextBoolean();
        int[][] code = new int[many][];
        List<Integer> values = new ArrayList<>();
        for (int i = 0; i < many; i++) {
            int op = i < firstUse ? random.nextInt(2) : pickOp(random, calls);
            int a = op == 0 ? random.nextInt(5) - 2 : op == 1 ? random.nextInt(4) : pick(random, values);
            int b = op >= 2 && op <= 5 ? pick(random, values) : random.nextInt();
            code[i] = new int[] {op, a, b, random.nextInt(4)};
            if (op != 6) {
                values.add(i);
            }
        }
        return code;
    }

    private static int pickOp(Random random, boolean calls) {
        switch (random.nextInt(8)) {
            case 0:
                return 6;
            case 1:
                return calls ? 7 : 4;
            case 2:
                return random.nextInt(2);
            default:
                return 2 + random.nextInt(4);
        }
    }

    private static int pick(Random random, List<Integer> values) {
        return values.get(random.nextInt(values.size()));
    }

    private void lookAt(int seed) {
        Random random = new Random(seed);
        int[][] code = code(random);
        Oracle oracle = Oracle.of(code);
        AllocForge forge = new AllocForge();
        for (int i = 0; i < code.length; i++) {
            int[] row = code[i];
            check.due(i + 1, "code " + seed + ": add", () -> forge.add(row[0], row[1], row[2], row[3]));
        }
        lifetimes("code " + seed, code, oracle, forge);
        int held = 0;
        for (int turn = 0; turn < 3; turn++) {
            held = allocation("code " + seed, 1 + random.nextInt(5), held, oracle, code, forge);
            int[] numbers = {random.nextInt(), random.nextInt(3), random.nextInt(3) - 1, -random.nextInt(100)};
            runs("code " + seed, held, numbers, oracle, forge);
        }
        check.due(code.length, "code " + seed + ": clear()", () -> forge.clear());
    }

    private void lifetimes(String what, int[][] code, Oracle oracle, AllocForge forge) {
        for (int i = 0; i < code.length; i++) {
            int v = i;
            if (!oracle.makes(v)) {
                check.badIndex(what + ": weight of a SAY", () -> forge.weight(v));
                continue;
            }
            check.due(oracle.weight(v), what + ": weight(" + v + ")", () -> forge.weight(v));
            check.due(oracle.end(v), what + ": END of " + v, () -> forge.told(v, 0));
            check.due(oracle.users(v).size(), what + ": uses of " + v, () -> forge.told(v, 1));
            check.due(oracle.crossed(v) ? 1 : 0, what + ": CROSSED " + v, () -> forge.told(v, 2));
            check.due(oracle.meets(v), what + ": MEETS " + v, () -> forge.told(v, 3));
        }
    }

    /** Allocates, and answers with how many registers it is allocated now, 0 if it is not. */
    private int allocation(String code, int k, int held, Oracle oracle, int[][] rows, AllocForge forge) {
        String what = code + " with " + k;
        int due = oracle.allocate(k);
        int now = k;
        if (due == Oracle.NO_ROOM) {
            roomless++;
            check.badState(what + ": allocate", () -> forge.allocate(k));
            now = held;
            if (held > 0) {
                oracle.allocate(held);
            }
        } else {
            check.due(due, what + ": allocate", () -> forge.allocate(k));
        }
        if (now > 0) {
            evicting += oracle.evicted > 0 ? 1 : 0;
            allocated(what, now, oracle, rows, forge);
        } else {
            check.badState(what + ": cost()", () -> forge.cost());
        }
        return now;
    }

    private void allocated(String what, int k, Oracle oracle, int[][] rows, AllocForge forge) {
        int[] places = oracle.places();
        for (int i = 0; i < rows.length; i++) {
            int v = i;
            if (oracle.makes(v)) {
                check.due(places[v], what + ": place(" + v + ")", () -> forge.place(v));
            }
        }
        check.due(oracle.cost(), what + ": cost()", () -> forge.cost());
        check.due(oracle.evicted, what + ": count(3)", () -> forge.count(3));
        check.due(oracle.in(10, 16), what + ": count(4)", () -> forge.count(4));
        check.due(oracle.distinct(10, 16), what + ": count(5)", () -> forge.count(5));
        check.due(oracle.distinct(0, 5), what + ": count(6)", () -> forge.count(6));
        check.due(k, what + ": count(7)", () -> forge.count(7));
    }

    private void runs(String code, int held, int[] n, Oracle oracle, AllocForge forge) {
        List<Integer> said = new ArrayList<>();
        Integer result = oracle.run(n, said);
        faulty += result == null ? 1 : 0;
        Object due = result == null ? ArithmeticException.class : result;
        check.due(due, code + ": run", () -> forge.run(n[0], n[1], n[2], n[3]));
        said(code + " run", said, forge);
        if (held == 0) {
            check.badState(code + ": go", () -> forge.go(n[0], n[1], n[2], n[3]));
            return;
        }
        check.due(due, code + ": go", () -> forge.go(n[0], n[1], n[2], n[3]));
        said(code + " go", said, forge);
        check.due(true, code + ": same", () -> forge.same(n[0], n[1], n[2], n[3]));
        said(code + " same", said, forge);
    }

    private void said(String what, List<Integer> said, AllocForge forge) {
        check.due(said.size(), what + ": count(2)", () -> forge.count(2));
        for (int i = 0; i < said.size(); i++) {
            int number = i;
            check.due(said.get(i), what + ": said(" + i + ")", () -> forge.said(number));
        }
        check.badIndex(what + ": said behind all", () -> forge.said(said.size()));
    }
}
