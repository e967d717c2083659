/** Promises 44 to 50 and 55 at their edges: HALLS, CLEARANCE, BLOCKS and TAKINGS. */
public final class HallEdgesTest {
    public static void main(String[] args) {
        everyClearance();
        whoseClearance();
        clearanceIsThatOfNow();
        firstAndLastWeek();
        fullHall();
        blockFromAWeekOn();
        blockOfEight();
        blockAllOrNone();
        blockAndClearance();
        partOfTheHall();
        partsOfPeople();
        asFarAsThereIs();
        underOnNow();
        partsByLaw();
        castsOfAllScenes();
        once();
        mostCoins();
        showingsAreCounted();
        Checks.end();
    }

    /** Three HALLS of TOWN 0: 0 and 2 of RANK 1, 1 of RANK 2; HALL 3 of TOWN 1, RANK 2. */
    private static StudioYears halls(int pictures) {
        StudioYears x = new StudioYears();
        for (int i = 0; i < pictures; i++) {
            x.picture(0);
        }
        x.hall(0, 1, 0);
        x.hall(0, 2, 0);
        x.hall(0, 1, 0);
        x.hall(1, 2, 0);
        return x;
    }

    private static void everyClearance() {
        for (int clearance = 0; clearance <= 9; clearance++) {
            for (int away = -10; away <= 10; away++) {
                StudioYears x = halls(1);
                Checks.due("2 at first", x.clearance(clearance), 2);
                x.book(0, 0, 20);
                int want = Math.abs(away) <= clearance ? -6 : 1;
                Checks.due("CLEARANCE " + clearance + ", away " + away, x.book(0, 1, 20 + away), want);
                Checks.due("shown", x.shown(1, 20 + away), want == 1 ? 0 : -1);
            }
        }
        StudioYears x = halls(1);
        x.book(0, 0, 20);
        for (int away = -2; away <= 2; away++) {
            Checks.due("within the 2 of first", x.book(0, 1, 20 + away), -6);
        }
        Checks.due("3 ahead", x.book(0, 1, 17), 1);
        Checks.due("3 behind", x.book(0, 1, 23), 1);
    }

    private static void whoseClearance() {
        StudioYears x = halls(2);
        x.clearance(9);
        x.book(0, 0, 20);
        Checks.due("the HALL itself", x.book(0, 0, 21), 1);
        Checks.due("another HALL of that RANK", x.book(0, 2, 20), 1);
        Checks.due("another TOWN", x.book(0, 3, 20), 1);
        Checks.due("another PICTURE", x.book(1, 1, 20), 1);
        Checks.due("another RANK", x.book(0, 1, 21), -6);
        for (int rank = 0; rank < 4; rank++) {
            StudioYears y = new StudioYears();
            y.picture(0);
            y.hall(2, 0, 0);
            y.hall(2, rank, 0);
            y.book(0, 1, 5);
            Checks.due("RANK 0 by " + rank, y.book(0, 0, 5), rank == 0 ? 1 : -6);
        }
    }

    private static void clearanceIsThatOfNow() {
        StudioYears x = halls(1);
        x.book(0, 0, 20);
        Checks.due("within 2", x.book(0, 1, 22), -6);
        x.clearance(1);
        Checks.due("not within 1", x.book(0, 1, 22), 1);
        x.clearance(9);
        Checks.due("what is BOOKED stays", x.shown(1, 22), 0);
    }

    private static void firstAndLastWeek() {
        StudioYears x = halls(1);
        x.clearance(9);
        Checks.due("the first WEEK", x.book(0, 0, 0), 1);
        Checks.due("the last WEEK", x.book(0, 0, 39), 1);
        Checks.due("nothing ahead of the first", x.book(0, 0, -1), -6);
        Checks.due("nothing behind the last", x.book(0, 0, 40), -6);
        for (int week = 0; week < 40; week++) {
            int want = week <= 9 || week >= 30 ? -6 : 1;
            Checks.due("WEEK " + week, x.book(0, 1, week), want);
        }
        Checks.due("shown ahead of the first", x.shown(0, -1), -1);
        Checks.due("shown behind the last", x.shown(0, 40), -1);
    }

    private static void fullHall() {
        StudioYears x = halls(2);
        for (int week = 0; week < 40; week++) {
            Checks.due("book", x.book(0, 0, week), 1);
        }
        for (int week = 0; week < 40; week++) {
            Checks.due("something is shown", x.book(1, 0, week), -6);
            Checks.due("no WEEK is left", x.block(0, 2, week), -6);
            Checks.due("shown still", x.shown(0, week), 0);
        }
        Checks.due("showings", x.status(9), 40);
    }

    private static void blockFromAWeekOn() {
        for (int week : new int[] {0, 1, 38, 39}) {
            StudioYears x = halls(1);
            Checks.due("at once", x.block(0, 1, week), week);
            Checks.due("shown", x.shown(0, week), 0);
            Checks.due("nowhere else", x.status(9), 1);
        }
        StudioYears x = halls(2);
        x.book(0, 0, 38);
        Checks.due("the next free one", x.block(0, 2, 38), 39);
        Checks.due("none is left, though some are ahead", x.block(0, 2, 38), -6);
    }

    private static void blockOfEight() {
        StudioYears x = halls(8);
        Checks.due("all eight, in the last eight WEEKS", x.block(0, 255, 32), 39);
        for (int number = 0; number < 8; number++) {
            Checks.due("by numbers", x.shown(0, 32 + number), number);
        }
        Checks.due("not in seven", x.block(3, 255, 33), -6);
        Checks.due("nothing is BOOKED then", x.status(9), 8);
        Checks.due("every second", x.block(3, 0xAA, 0), 3);
        for (int i = 0; i < 4; i++) {
            Checks.due("by numbers", x.shown(3, i), 2 * i + 1);
        }
    }

    private static void blockAllOrNone() {
        StudioYears x = halls(3);
        x.book(2, 0, 37);
        Checks.due("three in two WEEKS", x.block(0, 7, 37), -6);
        Checks.due("none", x.shown(0, 38), -1);
        Checks.due("none", x.shown(0, 39), -1);
        Checks.due("what was there", x.shown(0, 37), 2);
        Checks.due("two in two WEEKS", x.block(0, 6, 37), 39);
        Checks.due("the first", x.shown(0, 38), 1);
        Checks.due("the second, once more", x.shown(0, 39), 2);
    }

    private static void blockAndClearance() {
        StudioYears x = halls(3);
        x.book(0, 1, 10);
        x.book(2, 1, 39);
        Checks.due("behind the clearance", x.block(0, 1, 8), 13);
        Checks.due("ahead of it", x.block(0, 1, 7), 7);
        Checks.due("the last one has no WEEK", x.block(0, 6, 37), -6);
        Checks.due("so the first has none", x.shown(0, 37), -1);
        Checks.due("alone it has", x.block(0, 2, 37), 37);
        Checks.due("the latest WEEK of them", x.block(2, 3, 9), 13);
        Checks.due("PICTURE 0 late", x.shown(2, 13), 0);
        Checks.due("PICTURE 1 early", x.shown(2, 9), 1);
    }

    private static void partOfTheHall() {
        int[][] cases = {
            // part, coins, the HALL's
            {0, 99999, 0}, {90, 0, 0}, {90, 1, 0}, {90, 2, 1}, {90, 99999, 89999}, {1, 99, 0},
            {1, 100, 1}, {50, 1, 0}, {50, 3, 1}, {33, 100, 33}, {33, 99, 32},
        };
        for (int[] one : cases) {
            StudioYears x = new StudioYears();
            x.picture(0);
            x.hall(0, 0, one[0]);
            x.book(0, 0, 0);
            int rest = one[1] - one[2];
            Checks.due("rest of " + one[1] + " by " + one[0], x.takings(0, 0, one[1]), rest);
            Checks.due("the HALL's", x.got(0, 0), one[2]);
            Checks.due("THE PURSE", x.status(5), rest);
        }
    }

    private static void partsOfPeople() {
        int[][] cases = {
            // p, what is left of the coins, what one gets
            {0, 99999, 0}, {50, 1, 0}, {50, 2, 1}, {50, 99999, 49999}, {1, 99, 0}, {1, 100, 1}, {33, 10, 3},
        };
        for (int[] one : cases) {
            StudioYears x = takingsOf("p" + one[0]);
            Checks.due("rest of " + one[1] + " by p " + one[0], x.takings(0, 0, one[1]), one[1] - one[2]);
            Checks.due("got", x.got(1, 0), one[2]);
        }
    }

    /** PEOPLE by these TERMS, all in the CAST of PICTURE 0, which HALL 0 (part 0) shows. */
    private static StudioYears takingsOf(String... terms) {
        StudioYears x = new StudioYears();
        for (String term : terms) {
            Checks.hire(x, 7, term);
        }
        x.picture(0);
        x.scene(0, 0, (1 << terms.length) - 1, 1);
        x.hall(0, 0, 0);
        for (int week = 0; week < 40; week++) {
            x.book(0, 0, week);
        }
        return x;
    }

    private static void asFarAsThereIs() {
        StudioYears x = takingsOf("p50", "p49", "p1", "p50");
        Checks.due("just all", x.takings(0, 0, 100), 0);
        got(x, 50, 49, 1, 0);
        Checks.due("cuts leave something for the last", x.takings(0, 1, 99), 0);
        got(x, 50 + 49, 49 + 48, 1, 2);
        StudioYears y = takingsOf("p50", "p50", "p50");
        Checks.due("halves of three", y.takings(0, 0, 3), 0);
        got(y, 1, 1, 1);
        Checks.due("of one coin nothing", y.takings(0, 1, 1), 1);
        Checks.due("of none nothing", y.takings(0, 2, 0), 0);
        got(y, 1, 1, 1);
        StudioYears z = takingsOf("p40", "p40", "p40", "p1");
        Checks.due("the third gets what there is", z.takings(0, 0, 1000), 0);
        got(z, 400, 400, 200, 0);
    }

    private static void got(StudioYears x, int... want) {
        for (int who = 0; who < want.length; who++) {
            Checks.due("got by " + who, x.got(1, who), want[who]);
        }
    }

    private static void underOnNow() {
        StudioYears x = takingsOf("y1p10", "y2p10s1", "y2p10");
        x.refuse(1);
        x.lend(2, 400, 0);
        Checks.liveTo(x, 363);
        Checks.due("all are UNDER", x.takings(0, 0, 100), 70);
        got(x, 10, 10, 10);
        x.days(1);
        Checks.due("one isn't on its END", x.takings(0, 1, 100), 80);
        got(x, 10, 20, 20);
        Checks.due("told once for each WEEK", x.takings(0, 1, 100), -6);
        StudioYears y = new StudioYears();
        y.person(7);
        y.picture(0);
        y.scene(0, 0, 1, 1);
        y.hall(0, 0, 0);
        y.book(0, 0, 0);
        Checks.due("no TERM yet", y.takings(0, 0, 100), 100);
    }

    private static void partsByLaw() {
        StudioYears x = takingsOf("p10w0");
        x.law(3, 5);
        x.days(4);
        Checks.due("ahead of the law", x.takings(0, 0, 100), 90);
        x.days(1);
        Checks.due("on its DAY", x.takings(0, 1, 100), 100);
        got(x, 10);
    }

    private static void castsOfAllScenes() {
        StudioYears x = new StudioYears();
        for (int who = 0; who < 16; who++) {
            Checks.hire(x, 7, "p1");
        }
        x.picture(0);
        x.picture(0);
        x.scene(0, 0, 1, 1);
        x.scene(0, 0, 1 << 15 | 1, 1);
        x.hall(0, 0, 0);
        x.book(0, 0, 0);
        x.book(1, 0, 1);
        Checks.due("the first and the last of PEOPLE", x.takings(0, 0, 100), 98);
        for (int who = 0; who < 16; who++) {
            Checks.due("each once, " + who, x.got(1, who), who % 15 == 0 ? 1 : 0);
        }
        Checks.due("no SCENES, so nobody's", x.takings(0, 1, 100), 100);
    }

    private static void once() {
        StudioYears x = takingsOf("p10");
        Checks.due("coins", x.takings(0, 39, -1), -6);
        Checks.due("coins", x.takings(0, 39, 100000), -6);
        Checks.due("not told by that", x.takings(0, 39, 0), 0);
        Checks.due("told, though none", x.takings(0, 39, 0), -6);
        Checks.due("another WEEK", x.takings(0, 38, 10), 9);
        x.hall(0, 0, 0);
        Checks.due("another HALL shows nothing", x.takings(1, 38, 10), -6);
        x.book(0, 1, 38);
        Checks.due("then it does", x.takings(1, 38, 10), 9);
    }

    private static void mostCoins() {
        StudioYears x = new StudioYears();
        Checks.hire(x, 7, "p50");
        x.picture(0);
        x.scene(0, 0, 1, 1);
        for (int hall = 0; hall < 6; hall++) {
            x.hall(hall % 3, 0, 10);
            for (int week = 0; week < 40; week++) {
                x.book(0, hall, week);
                Checks.due("takings", x.takings(hall, week, 99999), 90000 - 45000);
            }
            Checks.due("the HALL's in all", x.got(0, hall), 40 * 9999);
        }
        Checks.due("one's in all", x.got(1, 0), 240 * 45000);
        Checks.due("THE PURSE", x.status(5), 240 * 45000);
    }

    private static void showingsAreCounted() {
        StudioYears x = halls(3);
        Checks.due("none", x.status(9), 0);
        x.book(0, 0, 0);
        Checks.due("one", x.status(9), 1);
        x.book(0, 0, 0);
        Checks.due("a refused one isn't", x.status(9), 1);
        x.block(0, 7, 0);
        Checks.due("by a BLOCK", x.status(9), 4);
        x.takings(0, 0, 5);
        Checks.due("told ones too", x.status(9), 4);
        Checks.due("HALLS", x.status(3), 4);
    }
}
