/** Promise 5: place. */
public final class Promise05PlaceTest {
    public static void main(String[] args) {
        new Check("Promise 5").lookAt(
                Promise05PlaceTest::registersAndSlots,
                Promise05PlaceTest::noSuchValue,
                Promise05PlaceTest::nothingAllocated,
                Promise05PlaceTest::neitherValueNorAllocation);
    }

    private static void registersAndSlots(Check check) {
        check.sentence("Where VALUE v is: its REGISTER, or 10 and its SLOT");
        AllocForge forge = Forges.crowd(11);
        forge.allocate(5);
        int[] due = {0, 1, 2, 3, 4, 10, 11, 12, 13, 14, 15};
        for (int v = 0; v < due.length; v++) {
            int value = v;
            check.due(due[v], "place(" + v + ")", () -> forge.place(value));
        }
        AllocForge full = Forges.full();
        full.allocate(2);
        check.due(1, "place(22) of 24", () -> full.place(22));
        check.due(0, "place(23) of 24", () -> full.place(23));
    }

    private static void noSuchValue(Check check) {
        check.sentence("IndexOutOfBoundsException if there is no VALUE v");
        for (int v : new int[] {-1, 2, 4, 5, 6, 10, 23, 24, Forges.MIN, Forges.MAX}) {
            check.refused(IndexOutOfBoundsException.class, "place(" + v + ")", Forges::busy,
                    forge -> forge.place(v));
        }
        check.refused(IndexOutOfBoundsException.class, "place(24) of 24", () -> {
            AllocForge forge = Forges.full();
            forge.allocate(1);
            return forge;
        }, forge -> forge.place(24));
        check.refused(IndexOutOfBoundsException.class, "place(0) of no CODE that is ALLOCATED", () -> {
            AllocForge forge = new AllocForge();
            forge.allocate(1);
            return forge;
        }, forge -> forge.place(0));
    }

    private static void nothingAllocated(Check check) {
        check.sentence("IllegalStateException if nothing is ALLOCATED");
        for (int v : new int[] {0, 1, 3}) {
            check.refused(IllegalStateException.class, "place(" + v + ")", Forges::idle, forge -> forge.place(v));
        }
        AllocForge roomless = Forges.crowd(12);
        check.badState("allocate without room", () -> roomless.allocate(5));
        check.badState("place(0) behind it", () -> roomless.place(0));
    }

    // Both exceptions fit; IndexOutOfBoundsException is the one named first.
    private static void neitherValueNorAllocation(Check check) {
        check.sentence("IndexOutOfBoundsException if there is no VALUE v; "
                + "IllegalStateException if nothing is ALLOCATED");
        for (int v : new int[] {-1, 2, 4, 5, 24, Forges.MIN, Forges.MAX}) {
            check.refused(IndexOutOfBoundsException.class, "place(" + v + ")", Forges::idle,
                    forge -> forge.place(v));
        }
        check.refused(IndexOutOfBoundsException.class, "place(0) of a new object", AllocForge::new,
                forge -> forge.place(0));
    }
}
