/** Promises 44 to 55: HALLS, TAKINGS, the PLAN, and how many there are. */
public final class HallsTest {
    public static void main(String[] args) {
        halls();
        clearance();
        booking();
        clearanceAtTheEnds();
        blocks();
        blockAllOrNone();
        lastWeekOfBlock();
        takings();
        takingsRunOut();
        lotsAndWorths();
        plans();
        planTails();
        planStays();
        status();
        Checks.end();
    }

    private static void halls() {
        StudioYears x = new StudioYears();
        Checks.due("town above", x.hall(3, 9, 0), -1);
        Checks.due("town below", x.hall(-1, 0, 0), -1);
        Checks.due("rank above", x.hall(0, 4, 0), -6);
        Checks.due("rank below", x.hall(0, -1, 0), -6);
        Checks.due("part above", x.hall(0, 0, 91), -6);
        Checks.due("part below", x.hall(0, 0, -1), -6);
        for (int i = 0; i < 6; i++) {
            Checks.due("hall", x.hall(i % 3, i % 4, 90), i);
        }
        Checks.due("wrong goes ahead of room", x.hall(0, 4, 0), -6);
        Checks.due("no room", x.hall(0, 0, 0), -7);
        Checks.due("halls", x.status(3), 6);
    }

    private static void clearance() {
        StudioYears x = new StudioYears();
        Checks.due("below", x.clearance(-1), -6);
        Checks.due("above", x.clearance(10), -6);
        Checks.due("at first", x.clearance(9), 2);
        Checks.due("what it was", x.clearance(0), 9);
    }

    private static void booking() {
        StudioYears x = new StudioYears();
        x.picture(0);
        x.picture(0);
        x.hall(0, 1, 0);
        x.hall(0, 2, 0);
        x.hall(0, 1, 0);
        x.hall(1, 2, 0);
        Checks.due("no picture", x.book(2, 0, 40), -1);
        Checks.due("no hall", x.book(0, 4, 0), -1);
        Checks.due("week below", x.book(0, 0, -1), -6);
        Checks.due("week above", x.book(0, 0, 40), -6);
        Checks.due("book", x.book(0, 0, 10), 1);
        Checks.due("shown there already", x.book(1, 0, 10), -6);
        Checks.due("ahead", x.book(0, 1, 8), -6);
        Checks.due("behind", x.book(0, 1, 12), -6);
        Checks.due("in it", x.book(0, 1, 10), -6);
        Checks.due("further ahead", x.book(0, 1, 7), 1);
        Checks.due("further behind", x.book(0, 1, 13), 1);
        Checks.due("another picture", x.book(1, 1, 10), 1);
        Checks.due("another hall of that rank", x.book(0, 2, 10), 1);
        Checks.due("another town", x.book(0, 3, 10), 1);
        Checks.due("its own hall", x.book(0, 0, 11), -6);
        x.clearance(1);
        Checks.due("its own hall", x.book(0, 0, 11), 1);
        Checks.due("the last week", x.book(1, 0, 39), 1);
        Checks.due("the first week", x.book(1, 0, 0), 1);
        Checks.due("shown", x.shown(0, 39), 1);
        Checks.due("shown", x.shown(0, 38), -1);
        Checks.due("shown beyond", x.shown(0, 40), -1);
        Checks.due("shown below", x.shown(0, -1), -1);
        Checks.due("shown in no hall", x.shown(4, 0), -1);
        Checks.due("showings", x.status(9), 9);
        Checks.due("-1", x.status(11), 2);
    }

    private static void clearanceAtTheEnds() {
        StudioYears x = new StudioYears();
        x.picture(0);
        x.hall(0, 1, 0);
        x.hall(0, 2, 0);
        x.book(0, 0, 0);
        x.book(0, 0, 39);
        Checks.due("near the first week", x.book(0, 1, 2), -6);
        Checks.due("near the last week", x.book(0, 1, 37), -6);
        Checks.due("in the last week", x.book(0, 1, 39), -6);
        x.clearance(9);
        Checks.due("within nine", x.book(0, 1, 9), -6);
        Checks.due("within nine", x.book(0, 1, 30), -6);
        Checks.due("beyond nine", x.block(1, 1, 0), 10);
    }

    private static void blocks() {
        StudioYears x = new StudioYears();
        for (int i = 0; i < 3; i++) {
            x.picture(0);
        }
        x.hall(0, 1, 0);
        Checks.due("no hall", x.block(1, 1, 0), -1);
        Checks.due("a bit of none", x.block(0, 9, 40), -1);
        Checks.due("the highest bit", x.block(0, Integer.MIN_VALUE, 0), -1);
        Checks.due("no bit", x.block(0, 0, 0), -6);
        Checks.due("week below", x.block(0, 1, -1), -6);
        Checks.due("week above", x.block(0, 1, 40), -6);
        x.book(1, 0, 5);
        Checks.due("around what is shown", x.block(0, 5, 4), 6);
        Checks.due("shown", x.shown(0, 4), 0);
        Checks.due("shown", x.shown(0, 5), 1);
        Checks.due("shown", x.shown(0, 6), 2);
        Checks.due("the last week", x.block(0, 2, 39), 39);
        Checks.due("no week is left", x.block(0, 1, 39), -6);
        Checks.due("showings", x.status(9), 4);
    }

    private static void blockAllOrNone() {
        StudioYears x = new StudioYears();
        for (int i = 0; i < 3; i++) {
            x.picture(0);
        }
        x.hall(0, 1, 0);
        x.book(2, 0, 38);
        Checks.due("three in two weeks", x.block(0, 7, 37), -6);
        Checks.due("nothing is got", x.shown(0, 37), -1);
        Checks.due("nothing is got", x.shown(0, 39), -1);
        Checks.due("what was stays", x.shown(0, 38), 2);
        Checks.due("showings", x.status(9), 1);
        Checks.due("two in two weeks", x.block(0, 3, 37), 39);
        for (int week = 1; week < 37; week++) {
            x.book(2, 0, week);
        }
        Checks.due("two in one week", x.block(0, 3, 0), -6);
        Checks.due("nothing is got", x.shown(0, 0), -1);
    }

    private static void lastWeekOfBlock() {
        StudioYears x = new StudioYears();
        x.picture(0);
        x.picture(0);
        x.hall(0, 1, 0);
        x.hall(0, 2, 0);
        x.book(0, 1, 3);
        Checks.due("the last week, though the first picture got it", x.block(0, 3, 1), 6);
        Checks.due("picture 0 behind the clearance", x.shown(0, 6), 0);
        Checks.due("picture 1 at once", x.shown(0, 1), 1);
    }

    private static void takings() {
        StudioYears x = new StudioYears();
        int ten = Checks.hire(x, 7, "p10");
        int fifty = Checks.hire(x, 7, "p50");
        int away = Checks.hire(x, 7, "p50");
        int free = x.person(7);
        x.picture(0);
        x.scene(0, 0, 1 << ten, 1);
        x.scene(0, 0, 1 << ten | 1 << fifty | 1 << free, 1);
        x.hall(0, 0, 33);
        x.book(0, 0, 3);
        x.book(0, 0, 4);
        Checks.due("no hall", x.takings(1, 40, -1), -1);
        Checks.due("week below", x.takings(0, -1, 5), -6);
        Checks.due("week above", x.takings(0, 40, 5), -6);
        Checks.due("nothing shown", x.takings(0, 2, 5), -6);
        Checks.due("coins below", x.takings(0, 3, -1), -6);
        Checks.due("coins above", x.takings(0, 3, 100000), -6);
        // 1,000: the hall 330; of 670 67 and 335; 268 are left.
        Checks.due("takings", x.takings(0, 3, 1000), 268);
        Checks.due("told already", x.takings(0, 3, 1000), -6);
        Checks.due("the hall's", x.got(0, 0), 330);
        Checks.due("ten's", x.got(1, ten), 67);
        Checks.due("fifty's", x.got(1, fifty), 335);
        Checks.due("not in it", x.got(1, away), 0);
        Checks.due("not UNDER", x.got(1, free), 0);
        Checks.due("purse", x.status(5), 268);
        x.refuse(fifty);
        x.law(3, 2);
        x.days(1);
        // 99: the hall 32; of 67 6 and 33 (suspended, but UNDER).
        Checks.due("takings ahead of the law", x.takings(0, 4, 99), 28);
        x.days(1);
        x.book(0, 0, 5);
        Checks.due("takings by the law", x.takings(0, 5, 99), 67);
        Checks.due("fifty's in all", x.got(1, fifty), 368);
        Checks.due("the hall's in all", x.got(0, 0), 394);
        Checks.due("no such hall", x.got(0, 1), -1);
        Checks.due("no such one", x.got(1, 4), -1);
        Checks.due("no such one", x.got(1, -1), -1);
        Checks.due("another what", x.got(2, 0), -1);
        Checks.due("another what", x.got(-1, 0), -1);
        x.book(0, 0, 6);
        x.book(0, 0, 7);
        Checks.due("as many coins as may be", x.takings(0, 7, 99999), 67000);
        Checks.due("no coins", x.takings(0, 6, 0), 0);
        Checks.due("told, though none", x.takings(0, 6, 5), -6);
    }

    private static void takingsRunOut() {
        StudioYears x = new StudioYears();
        Checks.hire(x, 7, "p40");
        Checks.hire(x, 7, "p45");
        Checks.hire(x, 7, "p50");
        Checks.hire(x, 7, "p50");
        x.picture(0);
        x.scene(0, 0, 15, 1);
        x.hall(0, 0, 0);
        x.book(0, 0, 0);
        Checks.due("nothing is left", x.takings(0, 0, 100), 0);
        int[] want = {40, 45, 15, 0};
        for (int who = 0; who < 4; who++) {
            Checks.due("got by " + who, x.got(1, who), want[who]);
        }
    }

    private static void lotsAndWorths() {
        StudioYears x = new StudioYears();
        x.picture(0);
        Checks.due("no picture", x.lot(1, 9), -1);
        Checks.due("n below", x.lot(0, 0), -6);
        Checks.due("n above", x.lot(0, 5), -6);
        Checks.due("lot", x.lot(0, 4), 1);
        Checks.due("what it was", x.lot(0, 1), 4);
        Checks.due("no picture", x.worth(1, 9, 0), -1);
        Checks.due("slot below", x.worth(0, -1, 0), -6);
        Checks.due("slot above", x.worth(0, 8, 0), -6);
        Checks.due("n below", x.worth(0, 0, -1), -6);
        Checks.due("n above", x.worth(0, 0, 1000), -6);
        Checks.due("worth", x.worth(0, 7, 999), 0);
        Checks.due("what it was", x.worth(0, 7, 0), 999);
    }

    private static void plans() {
        StudioYears x = new StudioYears();
        Checks.due("stages below", x.plan(0), -6);
        Checks.due("stages above", x.plan(4), -6);
        Checks.due("no pictures", x.plan(1), 0);
        Checks.due("planned", x.planned(0), -1);
        x.person(7);
        x.picture(0);
        x.picture(3);
        x.picture(4);
        planned(x, 1, 0, 0, 4, -1);
        planned(x, 2, 0, 0, 0, 4);
        x.scene(0, 0, 1, 1);
        x.scene(1, 0, 1, 1);
        planned(x, 2, 0, 0, 4, 0);
        x.worth(1, 3, 999);
        planned(x, 2, 0, 0, 4, 0);
        x.worth(1, 0, 5);
        planned(x, 2, 5, 1, 0, 0);
        x.lot(1, 2);
        planned(x, 2, 5, 2, 0, 0);
        planned(x, 1, 5, 2, 0, 4);
        x.worth(0, 0, 5);
        x.worth(0, 4, 5);
        planned(x, 1, 10, 4, 0, -1);
        x.picture(0);
        x.picture(0);
        planned(x, 1, 10, 4, 0, -1, 2, 3);
        x.picture(0);
        Checks.due("wrong goes ahead of room", x.plan(0), -6);
        Checks.due("no room", x.plan(1), -7);
        Checks.due("planned still", x.planned(3), 2);
        Checks.due("of a later one", x.planned(5), -1);
    }

    private static void planned(StudioYears x, int stages, int sum, int... slots) {
        Checks.due("plan", x.plan(stages), sum);
        for (int i = 0; i < slots.length; i++) {
            Checks.due("planned " + i, x.planned(i), slots[i]);
        }
    }

    private static void planTails() {
        // A PICTURE may begin late: its slots behind 7 don't count.
        StudioYears x = new StudioYears();
        x.picture(0);
        x.picture(0);
        x.lot(0, 4);
        x.worth(0, 7, 3);
        x.worth(1, 6, 4);
        planned(x, 1, 7, 7, 6);
        x.lot(1, 2);
        planned(x, 1, 4, 0, 6);
    }

    private static void planStays() {
        StudioYears x = new StudioYears();
        x.picture(0);
        Checks.due("no plan yet", x.planned(0), -1);
        x.plan(1);
        x.worth(0, 5, 9);
        x.plan(0);
        Checks.due("the latest not refused", x.planned(0), 0);
        Checks.due("no such one", x.planned(1), -1);
        Checks.due("no such one", x.planned(-1), -1);
        x.picture(0);
        Checks.due("a later one", x.planned(1), -1);
    }

    private static void status() {
        StudioYears x = new StudioYears();
        Checks.hire(x, 7, "r0");
        Checks.hire(x, 7, "r0");
        Checks.hire(x, 7, "r0");
        x.person(7);
        x.refuse(0);
        x.lend(1, 5, 50);
        x.law(0, 5);
        x.days(1);
        int[] want = {4, 0, 1, 0, 1, 50, 3, 1, 1, 0};
        for (int what = 0; what < want.length; what++) {
            Checks.due("status " + what, x.status(what), want[what]);
        }
        Checks.due("10", x.status(10), -1);
        Checks.due("18", x.status(18), -1);
        Checks.due("below", x.status(-1), -1);
        Checks.due("far", x.status(Integer.MIN_VALUE), -1);
        Checks.due("far", x.status(Integer.MAX_VALUE), -1);
        x.refuse(9);
        x.kindIn(7, 0);
        x.refuse(1);
        x.refuse(0);
        x.set(6, 0, 0);
        int[] refusals = {1, 1, 1, 0, 0, 2, 0};
        for (int i = 0; i < refusals.length; i++) {
            Checks.due("refusals " + (i + 1), x.status(11 + i), refusals[i]);
        }
    }
}
