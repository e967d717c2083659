/** Promises 3 to 8 at their edges: what a ROW keeps, where it begins and ends, what a SHELF holds. */
public final class RowEdgesTest {
    private static final int[] BITS = {8, 16, 32, 64};

    public static void main(String[] args) {
        wrapAround();
        zeroAtFirst();
        sixtyElements();
        copyOverlaps();
        copyWhole();
        copyKeepsBits();
        shelvesApart();
        whatAShelfHolds();
        picturesLikeNumbers();
        Checks.end();
    }

    /** The greatest and the least that a SORT keeps, and the first behind each. */
    private static void wrapAround() {
        StudioYears x = new StudioYears();
        for (int sort = 0; sort < 4; sort++) {
            long most = -1L >>> 65 - BITS[sort];
            long least = -most - 1;
            x.row(0, sort, 1);
            kept(x, sort, 0, 0);
            kept(x, sort, -1, -1);
            kept(x, sort, most, most);
            kept(x, sort, least, least);
            kept(x, sort, most + 1, least);
            kept(x, sort, least - 1, most);
            kept(x, sort, 2 * most + 1, -1);
            kept(x, sort, 2 * most + 2, 0);
        }
        long[] farMost = {-1, -1, -1, Long.MAX_VALUE};
        long[] farLeast = {0, 0, 0, Long.MIN_VALUE};
        for (int sort = 0; sort < 4; sort++) {
            x.row(0, sort, 1);
            kept(x, sort, Long.MAX_VALUE, farMost[sort]);
            kept(x, sort, Long.MIN_VALUE, farLeast[sort]);
        }
    }

    private static void kept(StudioYears x, int sort, long put, long want) {
        Checks.due("set", x.set(0, 0, put), 1);
        Checks.due("sort " + sort + " of " + put, x.element(0, 0), want);
    }

    private static void zeroAtFirst() {
        StudioYears x = new StudioYears();
        x.row(0, 3, 60);
        for (int i = 0; i < 60; i++) {
            Checks.due("0 at first", x.element(0, i), 0);
            x.set(0, i, 9);
        }
        x.row(0, 3, 60);
        for (int i = 0; i < 60; i++) {
            Checks.due("0 in a new row", x.element(0, i), 0);
            x.set(0, i, 9);
        }
        x.row(0, 3, 1);
        Checks.due("not there any more", x.element(0, 1), 0);
        Checks.due("not there any more", x.set(0, 1, 3), -5);
        x.row(0, 3, 2);
        Checks.due("nothing comes back", x.element(0, 1), 0);
    }

    private static void sixtyElements() {
        StudioYears x = new StudioYears();
        x.row(7, 1, 60);
        for (int i = 0; i < 60; i++) {
            Checks.due("set", x.set(7, i, 1000 + i), 1);
        }
        for (int i = 0; i < 60; i++) {
            Checks.due("element", x.element(7, i), 1000 + i);
        }
        x.row(7, 1, 0);
        Checks.due("an empty row is a row", x.holds(7), 101);
        Checks.due("without an element", x.element(7, 0), 0);
    }

    /** Elements are those that were there ahead, whichever way they move. */
    private static void copyOverlaps() {
        for (int from = 0; from <= 6; from++) {
            for (int to = 0; to <= 6; to++) {
                for (int n = 0; n <= 6 - Math.max(from, to); n++) {
                    StudioYears x = new StudioYears();
                    Checks.fill(x, 2, 10, 11, 12, 13, 14, 15);
                    Checks.due("copy", x.copy(2, 2, from, to, n), 1);
                    for (int i = 0; i < 6; i++) {
                        long want = i >= to && i < to + n ? 10 + from + i - to : 10 + i;
                        Checks.due("element " + i + " by " + from + " to " + to, x.element(2, i), want);
                    }
                }
            }
        }
    }

    private static void copyWhole() {
        StudioYears x = new StudioYears();
        x.row(0, 0, 60);
        x.row(7, 0, 60);
        x.set(0, 0, 1);
        x.set(0, 59, 2);
        Checks.due("all sixty", x.copy(0, 7, 0, 0, 60), 1);
        Checks.due("the first", x.element(7, 0), 1);
        Checks.due("the last", x.element(7, 59), 2);
        Checks.due("sixty-one", x.copy(0, 7, 0, 0, 61), -5);
        x.row(1, 0, 0);
        Checks.due("none of an empty row", x.copy(1, 1, 0, 0, 0), 1);
        Checks.due("none into an empty row", x.copy(0, 1, 60, 0, 0), 1);
        Checks.due("one of an empty row", x.copy(1, 0, 0, 0, 1), -5);
        Checks.due("none behind an empty row", x.copy(1, 0, 1, 0, 0), -5);
    }

    private static void copyKeepsBits() {
        StudioYears x = new StudioYears();
        for (int sort = 0; sort < 4; sort++) {
            x.row(0, sort, 2);
            x.row(1, sort, 2);
            x.set(0, 0, Long.MIN_VALUE + 200);
            x.set(0, 1, Long.MAX_VALUE);
            x.copy(0, 1, 0, 0, 2);
            Checks.due("as it was", x.element(1, 0), x.element(0, 0));
            Checks.due("as it was", x.element(1, 1), x.element(0, 1));
        }
    }

    private static void shelvesApart() {
        StudioYears x = new StudioYears();
        for (int s = 0; s < 8; s++) {
            x.row(s, s % 4, 2);
            x.set(s, 1, s + 1);
        }
        x.set(3, 1, 50);
        x.row(4, 0, 2);
        for (int s = 0; s < 8; s++) {
            Checks.due("shelf " + s, x.element(s, 1), s == 3 ? 50 : s == 4 ? 0 : s + 1);
        }
    }

    private static void whatAShelfHolds() {
        StudioYears x = new StudioYears();
        x.picture(0);
        for (int sort = 0; sort < 4; sort++) {
            Checks.due("nothing", x.holds(0), -1);
            x.row(0, sort, 5);
            Checks.due("a row", x.holds(0), 100 + sort);
            Checks.due("a picture instead", x.show(0, 0), 1);
            Checks.due("a picture", x.holds(0), 0);
            Checks.due("no row any more", x.set(0, 0, 1), -2);
            Checks.due("nothing instead", x.show(0, -1), 0);
        }
        Checks.due("nothing instead of nothing", x.show(0, -1), 0);
        x.row(0, 2, 5);
        Checks.due("nothing instead of a row", x.show(0, -1), 0);
        Checks.due("nothing", x.holds(0), -1);
        Checks.due("no row any more", x.set(0, 0, 1), -3);
    }

    /** All eight PICTURES may be held, each by several SHELVES. */
    private static void picturesLikeNumbers() {
        StudioYears x = new StudioYears();
        for (int number = 0; number < 8; number++) {
            Checks.due("not yet", x.show(number, number), -1);
            x.picture(number % 6);
            Checks.due("show", x.show(number, number), 1);
            Checks.due("holds", x.holds(number), number);
        }
        x.show(0, 7);
        Checks.due("held twice", x.holds(0), 7);
        Checks.due("held twice", x.holds(7), 7);
        Checks.due("its kind", x.kindIn(0, 0), 1);
    }
}
