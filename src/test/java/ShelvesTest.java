/** Promises 1 and 3 to 9: a new object, and what SHELVES hold. */
public final class ShelvesTest {
    public static void main(String[] args) {
        newObject();
        rows();
        lowestBits();
        copies();
        copyRefusals();
        picturesOnShelves();
        kinds();
        Checks.end();
    }

    private static void newObject() {
        StudioYears x = new StudioYears();
        for (int what = 0; what <= 9; what++) {
            Checks.due("status of a new object", x.status(what), 0);
        }
        for (int s = 0; s < 8; s++) {
            Checks.due("holds of a new object", x.holds(s), -1);
        }
        Checks.due("fault of a new object", x.fault(), -1);
        Checks.due("who of a new object", x.who(0, 0), -1);
        Checks.due("about of a new object", x.about(0, 0), -1);
        Checks.due("NONE", StudioYears.NONE, -1);
    }

    private static void rows() {
        StudioYears x = new StudioYears();
        Checks.due("row shelf below", x.row(-1, 9, -1), -1);
        Checks.due("row shelf above", x.row(8, 0, 0), -1);
        Checks.due("row size below goes ahead of sort", x.row(0, 9, -1), -4);
        Checks.due("row sort goes ahead of room", x.row(0, 4, 61), -6);
        Checks.due("row sort below", x.row(0, -1, 0), -6);
        Checks.due("row room", x.row(0, 3, 61), -7);
        Checks.due("row refused leaves nothing", x.holds(0), -1);
        Checks.due("row of 60", x.row(7, 3, 60), 1);
        Checks.due("row of 0", x.row(0, 1, 0), 1);
        Checks.due("holds longs", x.holds(7), 103);
        Checks.due("holds shorts", x.holds(0), 101);
        Checks.due("element at first", x.element(7, 59), 0);
        Checks.due("set first", x.set(7, 0, 8), 1);
        Checks.due("set last", x.set(7, 59, 8), 1);
        Checks.due("set beyond", x.set(7, 60, 8), -5);
        Checks.due("set below", x.set(7, -1, 8), -5);
        Checks.due("set in an empty row", x.set(0, 0, 8), -5);
        Checks.due("set shelf", x.set(8, 0, 8), -1);
        Checks.due("set nothing", x.set(3, 0, 8), -3);
        Checks.due("element", x.element(7, 59), 8);
        Checks.due("element beyond", x.element(7, 60), 0);
        Checks.due("element below", x.element(7, -1), 0);
        Checks.due("element of no shelf", x.element(8, 0), 0);
        Checks.due("element of nothing", x.element(3, 0), 0);
        x.row(7, 2, 60);
        Checks.due("a new row is 0", x.element(7, 0), 0);
        Checks.due("a new row is 0", x.element(7, 59), 0);
        Checks.due("holds of no shelf", x.holds(-1), -1);
        Checks.due("holds of no shelf", x.holds(8), -1);
        Checks.due("-1", x.status(11), 3);
        Checks.due("-3", x.status(13), 1);
        Checks.due("-4", x.status(14), 1);
        Checks.due("-5", x.status(15), 3);
        Checks.due("-6", x.status(16), 2);
        Checks.due("-7", x.status(17), 1);
    }

    private static void lowestBits() {
        long wide = 0x1234_5678_9ABC_DEF0L;
        StudioYears x = new StudioYears();
        for (int sort = 0; sort < 4; sort++) {
            x.row(sort, sort, 1);
            x.set(sort, 0, wide);
        }
        Checks.due("bytes", x.element(0, 0), (byte) wide);
        Checks.due("shorts", x.element(1, 0), (short) wide);
        Checks.due("ints", x.element(2, 0), (int) wide);
        Checks.due("longs", x.element(3, 0), wide);
    }

    private static void copies() {
        StudioYears x = new StudioYears();
        Checks.fill(x, 0, 1, 2, 3, 4, 5);
        Checks.due("copy on itself upward", x.copy(0, 0, 0, 1, 4), 1);
        row(x, 0, 1, 1, 2, 3, 4);
        Checks.due("copy on itself downward", x.copy(0, 0, 1, 0, 4), 1);
        row(x, 0, 1, 2, 3, 4, 4);
        Checks.fill(x, 1, 9, 9, 9);
        Checks.due("copy", x.copy(0, 1, 2, 1, 2), 1);
        row(x, 1, 9, 3, 4);
        Checks.due("copy of none at the end", x.copy(0, 1, 5, 3, 0), 1);
        x.set(0, 2, 77);
        Checks.due("a copy is its own", x.element(1, 1), 3);
    }

    private static void row(StudioYears x, int s, long... elements) {
        for (int i = 0; i < elements.length; i++) {
            Checks.due("element " + i + " of shelf " + s, x.element(s, i), elements[i]);
        }
    }

    private static void copyRefusals() {
        StudioYears x = new StudioYears();
        x.picture(0);
        Checks.fill(x, 0, 1, 2, 3);
        Checks.fill(x, 1, 4, 5);
        Checks.fillSort(x, 2, 0, 6);
        x.show(3, 0);
        Checks.due("copy from no shelf", x.copy(-1, 3, 0, 0, -1), -1);
        Checks.due("copy to no shelf", x.copy(0, 8, 0, 0, 1), -1);
        Checks.due("copy from a picture to nothing", x.copy(3, 4, 0, 0, -1), -2);
        Checks.due("copy from nothing to a picture", x.copy(4, 3, 0, 0, 1), -2);
        Checks.due("copy of two sorts", x.copy(0, 2, 0, 0, -1), -2);
        Checks.due("copy from nothing", x.copy(4, 0, 0, 0, -1), -3);
        Checks.due("copy to nothing", x.copy(0, 4, 0, 0, -1), -3);
        Checks.due("copy of a size below", x.copy(0, 1, -1, 0, -1), -4);
        Checks.due("copy i below", x.copy(0, 1, -1, 0, 1), -5);
        Checks.due("copy j below", x.copy(0, 1, 0, -1, 1), -5);
        Checks.due("copy from beyond", x.copy(0, 1, 2, 0, 2), -5);
        Checks.due("copy to beyond", x.copy(0, 1, 0, 0, 3), -5);
        Checks.due("copy of none from beyond", x.copy(0, 1, 4, 0, 0), -5);
        Checks.due("copy far", x.copy(0, 1, Integer.MAX_VALUE, 0, Integer.MAX_VALUE), -5);
        Checks.due("copy far", x.copy(0, 1, 1, 0, Integer.MAX_VALUE), -5);
        row(x, 1, 4, 5);
    }

    private static void picturesOnShelves() {
        StudioYears x = new StudioYears();
        Checks.due("show no picture", x.show(0, 0), -1);
        x.picture(5);
        x.picture(2);
        Checks.due("show", x.show(0, 1), 1);
        Checks.due("holds a picture", x.holds(0), 1);
        Checks.due("set where a picture is", x.set(0, 0, 1), -2);
        Checks.due("element where a picture is", x.element(0, 0), 0);
        Checks.due("show below NONE", x.show(0, -2), -1);
        Checks.due("show no shelf", x.show(8, -1), -1);
        Checks.due("show beyond", x.show(0, 2), -1);
        Checks.due("held still", x.holds(0), 1);
        x.row(0, 0, 1);
        Checks.due("a row in its place", x.holds(0), 100);
        Checks.due("show in a row's place", x.show(0, 0), 1);
        Checks.due("holds picture 0", x.holds(0), 0);
        Checks.due("show nothing", x.show(0, -1), 0);
        Checks.due("holds nothing", x.holds(0), -1);
        Checks.due("set in nothing", x.set(0, 0, 1), -3);
    }

    private static void kinds() {
        // For each KIND (a line) whether it is of, or under, KINDS 0 to 5.
        String[] under = {"100000", "110000", "111000", "100100", "100110", "100001"};
        StudioYears x = new StudioYears();
        for (int kind = 0; kind < 6; kind++) {
            x.picture(kind);
            x.show(0, kind);
            for (int wanted = 0; wanted < 6; wanted++) {
                int want = under[kind].charAt(wanted) == '1' ? kind : -2;
                Checks.due("kindIn " + kind + " as " + wanted, x.kindIn(0, wanted), want);
            }
        }
        Checks.due("kindIn no kind", x.kindIn(0, 6), -1);
        Checks.due("kindIn kind below", x.kindIn(0, -1), -1);
        Checks.due("kindIn no shelf", x.kindIn(8, 0), -1);
        Checks.due("kindIn no kind goes ahead of nothing", x.kindIn(1, 6), -1);
        Checks.due("kindIn nothing", x.kindIn(1, 0), -3);
        x.row(1, 0, 0);
        Checks.due("kindIn of a row", x.kindIn(1, 0), -2);
    }
}
