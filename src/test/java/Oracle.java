import java.util.ArrayList;
import java.util.Arrays;
import java.util.List;

/** The document's terms in their plainest form, worked out anew from the code for every question. */
final class Oracle {
    static final int NO_ROOM = -1;

    private final int[][] code;
    private final Integer[] place;
    int evicted;

    private Oracle(int[][] code) {
        this.code = code;
        this.place = new Integer[code.length];
    }

    static Oracle of(int[][] code) {
        return new Oracle(code);
    }

    boolean makes(int v) {
        return code[v][0] != 6;
    }

    /** The instructions that use v, in their order; one that uses it twice stands there twice. */
    List<Integer> users(int v) {
        List<Integer> users = new ArrayList<>();
        for (int i = 0; i < code.length; i++) {
            int op = code[i][0];
            if (op >= 2 && code[i][1] == v) {
                users.add(i);
            }
            if (op >= 2 && op <= 5 && code[i][2] == v) {
                users.add(i);
            }
        }
        return users;
    }

    int end(int v) {
        List<Integer> users = users(v);
        return users.isEmpty() ? v + 1 : users.get(users.size() - 1);
    }

    double price(int i) {
        return Math.pow(10, code[i][3]);
    }

    double prices(int v) {
        double sum = price(v);
        for (int user : users(v)) {
            sum += price(user);
        }
        return sum;
    }

    double weight(int v) {
        return prices(v) / (end(v) - v);
    }

    boolean meet(int v, int w) {
        return v != w && v < end(w) && w < end(v);
    }

    boolean crossed(int v) {
        boolean crossed = false;
        for (int i = 0; i < code.length; i++) {
            crossed |= code[i][0] == 7 && v < i && i < end(v);
        }
        return crossed;
    }

    int meets(int v) {
        int many = 0;
        for (int w = 0; w < code.length; w++) {
            many += makes(w) && meet(v, w) ? 1 : 0;
        }
        return many;
    }

    /** How many values got a register, or NO_ROOM. */
    int allocate(int k) {
        Arrays.fill(place, null);
        evicted = 0;
        for (int v = next(); v >= 0; v = next()) {
            if (!takeFree(v, 0, allowed(v, k)) && !putOthersOut(v, k) && !takeFree(v, 10, 16)) {
                return NO_ROOM;
            }
        }
        int many = 0;
        for (Integer p : place) {
            many += p != null && p < 10 ? 1 : 0;
        }
        return many;
    }

    private int next() {
        int next = -1;
        for (int v = code.length - 1; v >= 0; v--) {
            if (makes(v) && place[v] == null && (next < 0 || end(v) - v >= end(next) - next)) {
                next = v;
            }
        }
        return next;
    }

    private int allowed(int v, int k) {
        return crossed(v) && k > 2 ? 2 : k;
    }

    private List<Integer> meetingIn(int v, int home) {
        List<Integer> there = new ArrayList<>();
        for (int w = 0; w < code.length; w++) {
            if (place[w] != null && place[w] == home && meet(v, w)) {
                there.add(w);
            }
        }
        return there;
    }

    private boolean takeFree(int v, int from, int to) {
        for (int home = from; home < to; home++) {
            if (meetingIn(v, home).isEmpty()) {
                place[v] = home;
                return true;
            }
        }
        return false;
    }

    private double greatest(List<Integer> values) {
        double greatest = Double.NEGATIVE_INFINITY;
        for (int w : values) {
            greatest = Math.max(greatest, weight(w));
        }
        return greatest;
    }

    private boolean putOthersOut(int v, int k) {
        int best = 0;
        for (int r = 1; r < allowed(v, k); r++) {
            if (greatest(meetingIn(v, r)) < greatest(meetingIn(v, best))) {
                best = r;
            }
        }
        List<Integer> out = meetingIn(v, best);
        if (greatest(out) >= weight(v)) {
            return false;
        }
        for (int w : out) {
            place[w] = null;
            evicted++;
        }
        place[v] = best;
        return true;
    }

    /** Where each value is, -1 for a SAY. */
    int[] places() {
        int[] places = new int[code.length];
        for (int v = 0; v < code.length; v++) {
            places[v] = place[v] == null ? -1 : place[v];
        }
        return places;
    }

    double cost() {
        double cost = 0;
        for (int v = 0; v < code.length; v++) {
            cost += places()[v] >= 10 ? prices(v) : 0;
        }
        return cost;
    }

    int distinct(int from, int to) {
        int many = 0;
        for (int home = from; home < to; home++) {
            many += in(home, home + 1) > 0 ? 1 : 0;
        }
        return many;
    }

    int in(int from, int to) {
        int many = 0;
        for (int home : places()) {
            many += home >= from && home < to ? 1 : 0;
        }
        return many;
    }

    /** The result of a run, or null for a fault; what is said is added to the list. */
    Integer run(int[] numbers, List<Integer> said) {
        int[] made = new int[code.length];
        for (int i = 0; i < code.length; i++) {
            int op = code[i][0];
            int a = code[i][1];
            int b = code[i][2];
            if (op == 5 && made[b] == 0) {
                return null;
            }
            if (op == 6) {
                said.add(made[a]);
            }
            made[i] = op == 0 ? a : op == 1 ? numbers[a] : op == 2 ? made[a] + made[b] : op == 3 ? made[a] - made[b]
                    : op == 4 ? made[a] * made[b] : op == 5 ? made[a] / made[b] : op == 7 ? made[a] * 3 + 1 : 0;
        }
        return code.length == 0 ? 0 : made[code.length - 1];
    }
}
