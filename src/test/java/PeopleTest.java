/** Promises 2, 10 to 17, 28 and 29: PEOPLE, their TERMS, LAWS and WEEKS. */
public final class PeopleTest {
    public static void main(String[] args) {
        persons();
        faults();
        faultsByElements();
        termRefusals();
        withoutClauses();
        laws();
        refusing();
        suspension();
        lending();
        paying();
        payingByLaw();
        illness();
        ends();
        dayLimits();
        Checks.end();
    }

    private static void persons() {
        StudioYears x = new StudioYears();
        Checks.due("pay below", x.person(0), -6);
        Checks.due("pay above", x.person(1000), -6);
        for (int i = 0; i < 16; i++) {
            Checks.due("person", x.person(i == 0 ? 1 : 999), i);
        }
        Checks.due("pay goes ahead of room", x.person(1000), -6);
        Checks.due("no room", x.person(5), -7);
        Checks.due("pay", x.who(0, 0), 1);
        Checks.due("pay", x.who(15, 0), 999);
        Checks.due("END without a TERM", x.who(0, 1), -1);
        Checks.due("UNDER without a TERM", x.who(0, 2), 0);
        Checks.due("not LENT", x.who(0, 4), -1);
        Checks.due("refusals without a TERM", x.who(0, 6), 0);
        Checks.due("not READY", x.who(0, 7), 0);
        Checks.due("another what", x.who(0, 8), -1);
        Checks.due("another what", x.who(0, -1), -1);
        Checks.due("no such one", x.who(16, 0), -1);
        Checks.due("no such one", x.who(-1, 0), -1);
        Checks.due("who refuses nothing", x.status(11), 0);
    }

    private static void faults() {
        Object[][] cases = {
            {"", 0}, {"y", 1}, {"1", 0}, {"a", 0}, {"Y1", 0}, {"y1", -1}, {"y0", 1}, {"y9", -1},
            {"y10", 2}, {"w52", -1}, {"w53", 2}, {"w60", 2}, {"w9", -1}, {"w05", 2}, {"w0", -1},
            {"s0", -1}, {"s1", -1}, {"s2", 1}, {"s10", 2}, {"r9", -1}, {"r10", 2}, {"p50", -1},
            {"p51", 2}, {"p9", -1}, {"l99", -1}, {"l100", 3}, {"l00", 2}, {"yy", 1}, {"y1y", 2},
            {"y1w", 3}, {"y1w2s1r3p4l5", -1}, {"l5p4r3s1w2y1", -1}, {"y1w2s1r3p4l5y", 12},
            {"y1w2s1r3p4l5a", 12}, {"y1 w2", 2}, {"w1:", 2}, {"w1/", 2}, {"w123", 3}, {"p5p6", 2},
            {"w-1", 1}, {"y5s1w", 5},
        };
        for (Object[] one : cases) {
            StudioYears x = new StudioYears();
            x.person(7);
            Checks.write(x, 0, (String) one[0]);
            int fault = (Integer) one[1];
            int answer = x.term(0, 0);
            Checks.due("fault of " + one[0], x.fault(), fault);
            Checks.due("refused " + one[0], answer == -6 ? 1 : 0, fault == -1 ? 0 : 1);
            Checks.due("UNDER by " + one[0], x.who(0, 2), fault == -1 ? 1 : 0);
        }
    }

    private static void faultsByElements() {
        StudioYears x = new StudioYears();
        x.person(7);
        Checks.fillSort(x, 0, 3, 'y' + (1L << 32), '2' + (7L << 40));
        Checks.due("longs by their lowest 32 bits", x.term(0, 0), 728);
        x.person(7);
        Checks.fillSort(x, 1, 1, 'y' + 256, '2');
        Checks.due("shorts are whole", x.term(1, 1), -6);
        Checks.due("its fault", x.fault(), 0);
        Checks.fillSort(x, 1, 2, 'y', Integer.MIN_VALUE);
        Checks.due("a far element", x.term(1, 1), -6);
        Checks.due("its fault", x.fault(), 1);
        Checks.fillSort(x, 1, 0, new long[60]);
        Checks.due("sixty zeros", x.term(1, 1), -6);
        Checks.due("its fault", x.fault(), 0);
    }

    private static void termRefusals() {
        StudioYears x = new StudioYears();
        x.picture(0);
        Checks.write(x, 0, "x");
        Checks.due("nobody", x.term(0, 0), -1);
        Checks.due("nobody reads nothing", x.fault(), -1);
        x.person(7);
        Checks.due("no shelf", x.term(0, 8), -1);
        Checks.due("nothing", x.term(0, 1), -3);
        x.show(1, 0);
        Checks.due("a picture", x.term(0, 1), -2);
        Checks.due("fault", x.term(0, 0), -6);
        Checks.due("its place", x.fault(), 0);
        Checks.due("a picture again", x.term(0, 1), -2);
        Checks.due("the fault stays", x.fault(), 0);
        Checks.write(x, 0, "y3");
        Checks.due("term", x.term(0, 0), 1092);
        Checks.due("no fault", x.fault(), -1);
        Checks.write(x, 2, "y3q");
        Checks.due("UNDER and a fault", x.term(0, 2), -6);
        Checks.due("its place", x.fault(), 2);
        Checks.due("UNDER", x.term(0, 0), -6);
        Checks.due("that was a TERM", x.fault(), -1);
        Checks.due("END stays", x.who(0, 1), 1092);
    }

    private static void withoutClauses() {
        StudioYears x = new StudioYears();
        x.person(7);
        Checks.due("counts without a TERM", x.counts(0, 0, 0), -1);
        Checks.due("hire", Checks.hire(x, 7, "y2"), 1);
        int[] want = {52, 0, 0, 0, 0};
        for (int letter = 0; letter < 5; letter++) {
            Checks.due("without a clause " + letter, x.counts(1, letter, 0), want[letter]);
        }
        Checks.due("y is no letter here", x.counts(1, 5, 0), -1);
        Checks.due("letter below", x.counts(1, -1, 0), -1);
        Checks.due("no such one", x.counts(2, 0, 0), -1);
        Checks.hire(x, 7, "w0p3");
        Checks.due("y without a clause is 1", x.who(2, 1), 364);
        Checks.due("w 0", x.counts(2, 0, 0), 0);
        Checks.due("p 3", x.counts(2, 3, 4000), 3);
        Checks.due("counts refuses nothing", x.status(11), 0);
    }

    private static void laws() {
        StudioYears x = new StudioYears();
        int one = Checks.hire(x, 7, "w5s1r6p7l8");
        x.days(10);
        Checks.due("a day gone by", x.law(0, 9), -6);
        Checks.due("NOW", x.law(0, 10), 1);
        Checks.due("the last day", x.law(1, 4000), 2);
        Checks.due("beyond", x.law(1, 4001), -6);
        Checks.due("letter", x.law(5, 20), -6);
        Checks.due("letter", x.law(-1, 20), -6);
        Checks.due("w ahead", x.counts(one, 0, 9), 5);
        Checks.due("w struck", x.counts(one, 0, 10), 52);
        Checks.due("s ahead", x.counts(one, 1, 3999), 1);
        Checks.due("s struck", x.counts(one, 1, 4000), 0);
        Checks.due("r, p, l", x.law(2, 30), 3);
        Checks.due("r, p, l", x.law(3, 30), 4);
        Checks.due("r, p, l", x.law(4, 30), 5);
        for (int letter = 2; letter < 5; letter++) {
            Checks.due("ahead", x.counts(one, letter, 29), letter + 4);
            Checks.due("struck", x.counts(one, letter, 30), 0);
        }
        Checks.due("struck again, earlier", x.law(4, 20), 6);
        Checks.due("the earliest holds", x.counts(one, 4, 20), 0);
        x.law(4, 50);
        Checks.due("eight", x.law(4, 50), 8);
        Checks.due("wrong goes ahead of room", x.law(9, 50), -6);
        Checks.due("no room", x.law(4, 50), -7);
        Checks.due("laws", x.status(2), 8);
    }

    private static void refusing() {
        StudioYears x = new StudioYears();
        Checks.due("nobody", x.refuse(0), -1);
        int one = Checks.hire(x, 7, "y2r2");
        Checks.due("first", x.refuse(one), 1);
        Checks.due("second", x.refuse(one), 1);
        Checks.due("refusals", x.who(one, 6), 2);
        for (int i = 0; i < 3; i++) {
            x.days(100);
        }
        x.days(63);
        Checks.due("refusals on the year's last day", x.who(one, 6), 2);
        x.days(1);
        Checks.due("refusals in a new year", x.who(one, 6), 0);
        Checks.due("in a new year", x.refuse(one), 1);
        Checks.due("one more", x.who(one, 6), 1);
        x.law(2, 365);
        Checks.due("ahead of the law", x.refuse(one), 1);
        x.days(1);
        x.person(9);
        Checks.due("not UNDER", x.refuse(one + 1), -6);
        int other = Checks.hire(x, 7, "r9");
        Checks.due("by the law", x.refuse(other), 0);
        Checks.due("SUSPENDED", x.who(other, 3), 1);
        Checks.due("SUSPENDED already", x.refuse(other), -6);
        Checks.due("recall", x.recall(other), 1);
        Checks.due("not SUSPENDED", x.recall(other), -6);
        Checks.due("recall nobody", x.recall(9), -1);
        Checks.due("lend", x.lend(other, 3, 0), 0);
        Checks.due("LENT", x.refuse(other), -6);
    }

    private static void suspension() {
        StudioYears x = new StudioYears();
        int added = Checks.hire(x, 7, "s1");
        int plain = Checks.hire(x, 7, "s0");
        x.refuse(added);
        x.refuse(plain);
        x.law(1, 25);
        Checks.due("suspended", x.status(7), 2);
        x.days(20);
        Checks.due("END with s", x.who(added, 1), 384);
        Checks.due("END without", x.who(plain, 1), 364);
        x.days(20);
        Checks.due("END after the law", x.who(added, 1), 389);
        Checks.due("never paid", x.who(added, 5), 0);
        Checks.due("not READY", x.who(added, 7), 0);
        x.recall(added);
        Checks.due("READY again", x.who(added, 7), 1);
        x.days(2);
        Checks.due("paid again", x.who(added, 5), 1);
        Checks.due("lend a suspended one", x.lend(plain, 1, 1), -6);
        for (int i = 0; i < 3; i++) {
            x.days(100);
        }
        x.days(21);
        Checks.due("day", x.status(4), 363);
        Checks.due("SUSPENDED on the last day", x.who(plain, 3), 1);
        x.days(1);
        Checks.due("not with the END", x.who(plain, 3), 0);
        Checks.due("recall behind the END", x.recall(plain), -6);
        Checks.due("suspended", x.status(7), 0);
        Checks.due("UNDER", x.status(6), 1);
        Checks.due("a new term", x.term(plain, 7), 728);
        Checks.due("UNDER again, not SUSPENDED", x.who(plain, 7), 1);
    }

    private static void lending() {
        StudioYears x = new StudioYears();
        int one = Checks.hire(x, 70, "l33");
        Checks.due("nobody", x.lend(1, 0, 0), -1);
        Checks.due("n below", x.lend(one, 0, 5), -6);
        Checks.due("n above", x.lend(one, 401, 5), -6);
        Checks.due("price below", x.lend(one, 5, -1), -6);
        Checks.due("price above", x.lend(one, 5, 100000), -6);
        Checks.due("lend: 101 less 33", x.lend(one, 8, 101), 68);
        Checks.due("purse", x.status(5), 68);
        Checks.due("LENT to ahead of", x.who(one, 4), 8);
        Checks.due("not READY", x.who(one, 7), 0);
        Checks.due("LENT already", x.lend(one, 8, 101), -6);
        Checks.due("lent", x.status(8), 1);
        x.days(7);
        Checks.due("not paid", x.who(one, 5), 0);
        Checks.due("LENT still", x.who(one, 4), 8);
        x.days(1);
        Checks.due("LENT no more", x.who(one, 4), -1);
        Checks.due("READY", x.who(one, 7), 1);
        Checks.due("lent", x.status(8), 0);
        x.law(4, 8);
        Checks.due("by the law", x.lend(one, 400, 99999), 99999);
        Checks.due("purse", x.status(5), 100067);
        for (int i = 0; i < 3; i++) {
            x.days(100);
        }
        x.days(55);
        Checks.due("LENT on the last day", x.who(one, 4), 408);
        x.days(1);
        Checks.due("LENT ends with the TERM", x.who(one, 4), -1);
        x.term(one, 7);
        Checks.due("READY in a new TERM", x.who(one, 7), 1);
    }

    private static void paying() {
        StudioYears x = new StudioYears();
        int one = Checks.hire(x, 10, "y2w3");
        x.days(6);
        Checks.due("within a week", x.status(5), 0);
        x.days(1);
        Checks.due("a week", x.status(5), -10);
        x.days(100);
        Checks.due("three weeks of a year", x.who(one, 5), 3);
        Checks.due("purse", x.status(5), -30);
        x.days(100);
        x.days(100);
        x.days(63);
        Checks.due("on day 370", x.who(one, 5), 3);
        x.days(1);
        Checks.due("a week of the second year", x.who(one, 5), 4);
        x.days(100);
        Checks.due("in all", x.who(one, 5), 6);
        Checks.due("purse", x.status(5), -60);
        // A TERM from DAY 471 on: its YEARS are its own, not the calendar's.
        int late = Checks.hire(x, 1, "w1");
        x.days(5);
        Checks.due("paid by the week's last day", x.who(late, 5), 1);
        x.days(100);
        Checks.due("once in its year", x.who(late, 5), 1);
    }

    private static void payingByLaw() {
        StudioYears x = new StudioYears();
        int one = Checks.hire(x, 10, "w0");
        x.law(0, 13);
        x.days(13);
        Checks.due("w 0", x.who(one, 5), 0);
        x.days(1);
        Checks.due("w 52 on the law's day", x.who(one, 5), 1);
    }

    private static void illness() {
        StudioYears x = new StudioYears();
        x.picture(0);
        Checks.fillSort(x, 0, 3, 0, 1L << 40, 0);
        Checks.due("nobody", x.ill(0, 0), -1);
        int one = Checks.hire(x, 10, "y1");
        Checks.due("no shelf", x.ill(one, 8), -1);
        Checks.due("nothing", x.ill(one, 1), -3);
        x.show(1, 0);
        Checks.due("a picture", x.ill(one, 1), -2);
        Checks.due("by three", x.ill(one, 0), 3);
        x.set(0, 0, 5);
        int[] ready = {1, 0, 1, 1, 0, 1};
        for (int day = 0; day < 6; day++) {
            Checks.due("READY on " + day, x.who(one, 7), ready[day]);
            x.days(1);
        }
        x.days(1);
        Checks.due("ILL", x.who(one, 7), 0);
        Checks.due("ILL is paid", x.who(one, 5), 1);
        x.row(0, 0, 0);
        Checks.due("by none", x.ill(one, 0), 0);
        Checks.due("never ILL", x.who(one, 7), 1);
        Checks.fill(x, 0, -1);
        x.ill(one, 0);
        Checks.due("always ILL", x.who(one, 7), 0);
    }

    private static void ends() {
        StudioYears x = new StudioYears();
        int one = Checks.hire(x, 10, "y1r3");
        x.refuse(one);
        for (int i = 0; i < 3; i++) {
            x.days(100);
        }
        x.days(63);
        Checks.due("UNDER on the last day", x.who(one, 2), 1);
        Checks.due("weeks", x.who(one, 5), 51);
        x.days(1);
        Checks.due("not UNDER", x.who(one, 2), 0);
        Checks.due("weeks", x.who(one, 5), 52);
        Checks.due("refusals of one not UNDER", x.who(one, 6), 0);
        Checks.due("END is told still", x.who(one, 1), 364);
        Checks.due("the latest TERM counts", x.counts(one, 2, 900), 3);
        x.days(7);
        Checks.due("not paid", x.who(one, 5), 52);
        Checks.due("again", x.term(one, 7), 735);
        x.refuse(one);
        Checks.due("refusals of the new TERM", x.who(one, 6), 1);
        x.days(7);
        Checks.due("weeks in all", x.who(one, 5), 53);
    }

    private static void dayLimits() {
        StudioYears x = new StudioYears();
        Checks.due("none", x.days(0), -6);
        Checks.due("below", x.days(-1), -6);
        Checks.due("above", x.days(101), -6);
        for (int i = 1; i <= 39; i++) {
            Checks.due("days", x.days(100), 100 * i);
        }
        x.days(1);
        Checks.due("wrong goes ahead of room", x.days(101), -6);
        Checks.due("beyond", x.days(100), -7);
        Checks.due("to the last", x.days(99), 4000);
        Checks.due("beyond", x.days(1), -7);
        Checks.due("NOW", x.status(4), 4000);
        Checks.due("a TERM on the last day", Checks.hire(x, 5, "y9"), 0);
        Checks.due("END", x.who(0, 1), 7276);
        Checks.due("a law on the last day", x.law(0, 4000), 1);
    }
}
