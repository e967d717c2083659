/** Promises 14 to 17, 28 and 29 at their edges: WEEKS, YEARS, refusals, suspension, lending, illness. */
public final class WeekEdgesTest {
    public static void main(String[] args) {
        lastDayOfWeek();
        firstAndLastWeekOfTerm();
        weeksOfAYear();
        yearsOfTheTerm();
        paidBetween();
        newTermNewYear();
        refusalsByYears();
        noneAndNine();
        refusalsByLaw();
        suspendedToTheEnd();
        suspendedBeyondTheEnd();
        suspensionByLaw();
        lentDays();
        lentToTheEnd();
        lentForCoins();
        illByDays();
        illRows();
        purseBelow();
        lastDayOfAll();
        Checks.end();
    }

    private static void lastDayOfWeek() {
        StudioYears x = new StudioYears();
        Checks.hire(x, 100, "y1");
        for (int day = 1; day <= 30; day++) {
            x.days(1);
            Checks.due("WEEKS paid ahead of " + day, x.who(0, 5), day / 7);
            Checks.due("THE PURSE ahead of " + day, x.status(5), -100 * (day / 7));
        }
    }

    /** Who is UNDER on the last DAY of a WEEK is paid for it, however short it was. */
    private static void firstAndLastWeekOfTerm() {
        for (int begin = 0; begin < 8; begin++) {
            StudioYears x = new StudioYears();
            Checks.liveTo(x, begin);
            Checks.hire(x, 10, "y1");
            Checks.liveTo(x, 7 * (begin / 7) + 6);
            Checks.due("ahead of the week's last day", x.who(0, 5), 0);
            x.days(1);
            Checks.due("its first week, begun on " + begin, x.who(0, 5), 1);
            Checks.liveTo(x, 400);
            Checks.due("all of a year, begun on " + begin, x.who(0, 5), 52);
            Checks.due("THE PURSE", x.status(5), -520);
        }
        // From 6 on: END is 370, the last of a WEEK, and that one is not paid.
        StudioYears x = new StudioYears();
        Checks.liveTo(x, 6);
        Checks.hire(x, 10, "y1");
        Checks.liveTo(x, 370);
        Checks.due("ahead of END", x.who(0, 5), 52);
        x.days(1);
        Checks.due("not on END", x.who(0, 5), 52);
    }

    private static void weeksOfAYear() {
        int[] weeks = {0, 1, 2, 51, 52};
        for (int w : weeks) {
            StudioYears x = new StudioYears();
            Checks.hire(x, 10, "y2w" + w);
            Checks.liveTo(x, 7 * w);
            Checks.due("w " + w + ": all at once", x.who(0, 5), w);
            Checks.liveTo(x, 364);
            Checks.due("w " + w + ": none more", x.who(0, 5), w);
            x.days(7);
            Checks.due("w " + w + ": a new YEAR", x.who(0, 5), w + Math.min(1, w));
            Checks.liveTo(x, 728);
            Checks.due("w " + w + ": two YEARS", x.who(0, 5), 2 * w);
        }
    }

    /** YEARS go from the TERM's begin on, not from DAY 0. */
    private static void yearsOfTheTerm() {
        StudioYears x = new StudioYears();
        Checks.liveTo(x, 100);
        Checks.hire(x, 10, "y2w1r1");
        Checks.liveTo(x, 104);
        Checks.due("ahead", x.who(0, 5), 0);
        x.days(1);
        Checks.due("its first week", x.who(0, 5), 1);
        x.refuse(0);
        Checks.liveTo(x, 371);
        Checks.due("DAY 364 begins no YEAR of it", x.who(0, 5), 1);
        Checks.due("nor for refusals", x.who(0, 6), 1);
        // Its second YEAR begins on 464; DAY 468 is the last of a WEEK.
        Checks.liveTo(x, 463);
        Checks.due("the last DAY of its first YEAR", x.who(0, 6), 1);
        x.days(1);
        Checks.due("the first DAY of its second", x.who(0, 6), 0);
        Checks.liveTo(x, 468);
        Checks.due("not yet", x.who(0, 5), 1);
        x.days(1);
        Checks.due("paid in its second YEAR", x.who(0, 5), 2);
    }

    private static void paidBetween() {
        StudioYears x = new StudioYears();
        for (int who = 0; who < 5; who++) {
            Checks.hire(x, 10, "y1");
        }
        x.refuse(0);
        x.refuse(1);
        x.lend(2, 6, 0);
        x.lend(3, 7, 0);
        x.days(6);
        x.recall(0);
        x.days(1);
        int[] want = {1, 0, 1, 0, 1};
        for (int who = 0; who < 5; who++) {
            Checks.due("as things are on the last day, " + who, x.who(who, 5), want[who]);
        }
        Checks.due("THE PURSE", x.status(5), -30);
    }

    private static void newTermNewYear() {
        StudioYears x = new StudioYears();
        Checks.hire(x, 10, "y1w2r2");
        x.refuse(0);
        x.refuse(0);
        Checks.liveTo(x, 366);
        Checks.due("paid in the first", x.who(0, 5), 2);
        Checks.due("not UNDER: no refusals", x.who(0, 6), 0);
        x.term(0, 7);
        Checks.due("a new TERM: no refusals yet", x.who(0, 6), 0);
        Checks.due("as many again", x.refuse(0), 1);
        Checks.due("as many again", x.refuse(0), 1);
        Checks.due("no more", x.refuse(0), 0);
        x.recall(0);
        x.days(100);
        Checks.due("WEEKS paid in all", x.who(0, 5), 4);
    }

    private static void refusalsByYears() {
        StudioYears x = new StudioYears();
        Checks.hire(x, 10, "y3r1");
        for (int year = 0; year < 3; year++) {
            Checks.due("none in a new YEAR", x.who(0, 6), 0);
            Checks.due("one in each YEAR", x.refuse(0), 1);
            Checks.due("counted", x.who(0, 6), 1);
            Checks.due("the second", x.refuse(0), 0);
            Checks.due("isn't counted", x.who(0, 6), 1);
            Checks.due("recalled", x.recall(0), 1);
            Checks.due("counted still", x.who(0, 6), 1);
            if (year < 2) {
                Checks.liveTo(x, 364 * (year + 1) - 1);
                Checks.due("on the YEAR's last DAY", x.refuse(0), 0);
                x.recall(0);
                x.days(1);
            }
        }
    }

    private static void noneAndNine() {
        StudioYears x = new StudioYears();
        Checks.hire(x, 10, "r0");
        Checks.due("r 0: SUSPENDED at once", x.refuse(0), 0);
        Checks.hire(x, 10, "y1");
        Checks.due("without r: SUSPENDED at once", x.refuse(1), 0);
        Checks.hire(x, 10, "r9");
        for (int i = 1; i <= 9; i++) {
            Checks.due("r 9", x.refuse(2), 1);
            Checks.due("refusals", x.who(2, 6), i);
        }
        Checks.due("READY still", x.who(2, 7), 1);
        Checks.due("the tenth", x.refuse(2), 0);
        Checks.due("not READY", x.who(2, 7), 0);
        Checks.due("UNDER still", x.who(2, 2), 1);
        Checks.due("SUSPENDED", x.status(7), 3);
    }

    private static void refusalsByLaw() {
        StudioYears x = new StudioYears();
        Checks.hire(x, 10, "r9");
        Checks.hire(x, 10, "r9");
        x.law(2, 3);
        x.days(2);
        Checks.due("ahead of the law", x.refuse(0), 1);
        x.days(1);
        Checks.due("on its DAY", x.refuse(0), 0);
        Checks.due("refusals stay", x.who(0, 6), 1);
        x.law(2, 3);
        Checks.due("from NOW on", x.refuse(1), 0);
    }

    private static void suspendedToTheEnd() {
        StudioYears x = new StudioYears();
        Checks.hire(x, 10, "s0");
        Checks.liveTo(x, 363);
        Checks.due("on the last DAY", x.refuse(0), 0);
        Checks.due("SUSPENDED", x.status(7), 1);
        x.days(1);
        Checks.due("not UNDER, so not SUSPENDED", x.who(0, 3), 0);
        Checks.due("END as it was", x.who(0, 1), 364);
        Checks.due("UNDER", x.status(6), 0);
        Checks.due("SUSPENDED", x.status(7), 0);
    }

    /** With s 1 a TERM can't end while one is SUSPENDED. */
    private static void suspendedBeyondTheEnd() {
        StudioYears x = new StudioYears();
        Checks.hire(x, 10, "s1w0");
        Checks.liveTo(x, 363);
        x.refuse(0);
        Checks.due("no DAY is added yet", x.who(0, 1), 364);
        for (int day = 364; day < 380; day++) {
            x.days(1);
            Checks.due("END goes ahead", x.who(0, 1), day + 1);
            Checks.due("UNDER still", x.who(0, 2), 1);
            Checks.due("SUSPENDED still", x.who(0, 3), 1);
        }
        x.recall(0);
        Checks.due("READY", x.who(0, 7), 1);
        Checks.due("one DAY is left", x.term(0, 7), -6);
        x.days(1);
        Checks.due("not UNDER", x.who(0, 2), 0);
        Checks.due("END", x.who(0, 1), 380);
        Checks.due("a new TERM", x.term(0, 7), 744);
    }

    private static void suspensionByLaw() {
        StudioYears x = new StudioYears();
        Checks.hire(x, 10, "s1");
        x.refuse(0);
        x.law(1, 3);
        int[] ends = {364, 365, 366, 367, 367, 367};
        for (int day = 0; day < ends.length; day++) {
            Checks.due("END on " + day, x.who(0, 1), ends[day]);
            x.days(1);
        }
    }

    private static void lentDays() {
        StudioYears x = new StudioYears();
        Checks.hire(x, 10, "y9");
        x.days(3);
        Checks.due("for one DAY", x.lend(0, 1, 0), 0);
        Checks.due("LENT to ahead of 4", x.who(0, 4), 4);
        Checks.due("not READY", x.who(0, 7), 0);
        Checks.due("LENT", x.status(8), 1);
        Checks.due("LENT already", x.lend(0, 1, 0), -6);
        Checks.due("LENT can't refuse", x.refuse(0), -6);
        x.days(1);
        Checks.due("LENT no more", x.who(0, 4), -1);
        Checks.due("READY", x.who(0, 7), 1);
        Checks.due("lend again at once", x.lend(0, 400, 0), 0);
        Checks.liveTo(x, 403);
        Checks.due("for 400 DAYS", x.who(0, 4), 404);
        Checks.due("not READY on the last", x.who(0, 7), 0);
        x.days(1);
        Checks.due("LENT no more", x.who(0, 4), -1);
        Checks.due("LENT", x.status(8), 0);
        Checks.due("UNDER all the while", x.who(0, 1), 3276);
    }

    private static void lentToTheEnd() {
        for (int beyond = -1; beyond <= 1; beyond++) {
            StudioYears x = new StudioYears();
            Checks.hire(x, 10, "y1");
            Checks.liveTo(x, 360);
            x.lend(0, 4 + beyond, 0);
            Checks.liveTo(x, 363);
            Checks.due("on the TERM's last DAY", x.who(0, 4), beyond < 0 ? -1 : 364 + beyond);
            x.days(1);
            Checks.due("LENT ends with the TERM", x.who(0, 4), -1);
            Checks.due("LENT", x.status(8), 0);
            Checks.due("END", x.who(0, 1), 364);
            x.term(0, 7);
            Checks.due("READY by a new TERM", x.who(0, 7), 1);
        }
    }

    private static void lentForCoins() {
        int[][] cases = {
            // l, price, what comes
            {0, 0, 0}, {0, 99999, 99999}, {99, 0, 0}, {99, 1, 1}, {99, 2, 1}, {99, 100, 1},
            {99, 99999, 1000}, {1, 99, 99}, {1, 100, 99}, {50, 1, 1}, {50, 3, 2}, {33, 10, 7},
        };
        for (int[] one : cases) {
            StudioYears x = new StudioYears();
            Checks.hire(x, 10, "l" + one[0]);
            Checks.due("lend by l " + one[0] + " for " + one[1], x.lend(0, 1, one[1]), one[2]);
            Checks.due("THE PURSE", x.status(5), one[2]);
        }
        StudioYears x = new StudioYears();
        Checks.hire(x, 10, "l40");
        x.law(4, 1);
        Checks.due("ahead of the law", x.lend(0, 1, 1000), 600);
        x.days(1);
        Checks.due("on its DAY", x.lend(0, 1, 1000), 1000);
    }

    private static void illByDays() {
        for (int size : new int[] {1, 2, 7, 59, 60}) {
            StudioYears x = new StudioYears();
            Checks.hire(x, 10, "y1");
            x.row(0, size % 4, size);
            x.set(0, size - 1, -1);
            Checks.due("its size", x.ill(0, 0), size);
            for (int day = 0; day < 125; day++) {
                Checks.due("READY on " + day + " of " + size, x.who(0, 7), day % size == size - 1 ? 0 : 1);
                x.days(1);
            }
        }
    }

    private static void illRows() {
        StudioYears x = new StudioYears();
        Checks.hire(x, 10, "y1");
        Checks.hire(x, 10, "y1");
        Checks.fill(x, 0, 1);
        x.ill(0, 0);
        Checks.due("ILL", x.who(0, 7), 0);
        Checks.due("another isn't", x.who(1, 7), 1);
        x.set(0, 0, 0);
        Checks.due("as it was then", x.who(0, 7), 0);
        x.show(0, -1);
        Checks.due("as it was then", x.who(0, 7), 0);
        Checks.due("refused: as it was", x.ill(0, 0), -3);
        Checks.due("refused: as it was", x.who(0, 7), 0);
        x.row(0, 3, 60);
        Checks.due("by zeros alone", x.ill(0, 0), 60);
        Checks.due("not ILL", x.who(0, 7), 1);
        Checks.fillSort(x, 0, 3, 1L << 63);
        x.ill(0, 0);
        Checks.due("the highest bit is something", x.who(0, 7), 0);
        x.row(0, 0, 0);
        Checks.due("by an empty one", x.ill(0, 0), 0);
        Checks.due("never ILL", x.who(0, 7), 1);
        x.person(5);
        Checks.fill(x, 0, 1);
        Checks.due("without a TERM", x.ill(2, 0), 1);
        x.term(2, 7);
        Checks.due("ILL by the row of then", x.who(2, 7), 0);
    }

    private static void purseBelow() {
        StudioYears x = new StudioYears();
        for (int who = 0; who < 16; who++) {
            Checks.hire(x, 999, "y9");
        }
        Checks.liveTo(x, 7);
        Checks.due("sixteen are paid", x.status(5), -16 * 999);
        Checks.liveTo(x, 3276);
        Checks.due("nine YEARS long", x.status(5), -16 * 999 * 468);
        Checks.due("UNDER", x.status(6), 0);
    }

    private static void lastDayOfAll() {
        StudioYears x = new StudioYears();
        Checks.liveTo(x, 3999);
        Checks.hire(x, 10, "y1s1");
        x.refuse(0);
        Checks.due("the last DAY", x.days(1), 4000);
        Checks.due("END is 1 later", x.who(0, 1), 4364);
        Checks.due("no DAY more", x.days(1), -7);
        x.recall(0);
        Checks.due("lend beyond", x.lend(0, 400, 5), 5);
        Checks.due("LENT to ahead of 4,400", x.who(0, 4), 4400);
        Checks.hire(x, 10, "y9");
        Checks.due("a TERM on 4,000", x.who(1, 1), 7276);
        Checks.due("READY", x.who(1, 7), 1);
    }
}
