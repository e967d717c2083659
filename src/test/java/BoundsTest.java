import java.util.function.Supplier;

/**
 * Of each argument of each call the last numbers that are good and the first that are not, on both
 * sides, with the refusal that is due there; what is refused changes nothing.
 */
public final class BoundsTest {
    private static final int ONE = -1;
    private static final int WRONG = -6;

    private interface With {
        long on(StudioYears x, int number);
    }

    public static void main(String[] args) {
        rows();
        copies();
        shelves();
        people();
        pictures();
        shooting();
        dayLimits();
        cutting();
        halls();
        plans();
        askedOfRows();
        askedOfPeople();
        askedOfPictures();
        askedOfHalls();
        Checks.end();
    }

    /** Good from least to most; outside of that refused with a number each. */
    private static void good(String name, Supplier<StudioYears> stage, With call,
            int least, int most, int below, int above) {
        for (int number : new int[] {least, most}) {
            Stages.taken(name + " of " + number, stage, x -> call.on(x, number));
        }
        for (int number : new int[] {least - 1, Integer.MIN_VALUE}) {
            Stages.refused(name + " of " + number, stage, x -> call.on(x, number), below);
        }
        for (int number : new int[] {most + 1, Integer.MAX_VALUE}) {
            Stages.refused(name + " of " + number, stage, x -> call.on(x, number), above);
        }
    }

    private static void good(String name, With call, int least, int most, int refusal) {
        good(name, Stages::midYear, call, least, most, refusal, refusal);
    }

    private static StudioYears allRows() {
        StudioYears x = Stages.midYear();
        for (int s = 0; s < 8; s++) {
            x.row(s, 2, 10);
            x.set(s, 9, s);
        }
        return x;
    }

    private static StudioYears allTerms() {
        StudioYears x = allRows();
        for (int s = 0; s < 8; s++) {
            Checks.write(x, s, "p" + s);
        }
        return x;
    }

    private static void rows() {
        good("row(s)", (x, n) -> x.row(n, 0, 1), 0, 7, ONE);
        good("row(sort)", (x, n) -> x.row(4, n, 1), 0, 3, WRONG);
        good("row(n)", Stages::midYear, (x, n) -> x.row(4, 3, n), 0, 60, -4, -7);
        good("row(n) over a picture", Stages::midYear, (x, n) -> x.row(3, 0, n), 0, 60, -4, -7);
        good("set(s)", BoundsTest::allRows, (x, n) -> x.set(n, 9, 5), 0, 7, ONE, ONE);
        good("set(i)", BoundsTest::allRows, (x, n) -> x.set(3, n, 5), 0, 9, -5, -5);
        good("set(i) of sixty", BoundsTest::sixty, (x, n) -> x.set(4, n, 5), 0, 59, -5, -5);
        for (int i : new int[] {0, -1, 1}) {
            Stages.refused("set of an empty row", Stages::midYear, x -> x.set(6, i, 5), -5);
        }
    }

    private static StudioYears sixty() {
        StudioYears x = Stages.midYear();
        x.row(4, 3, 60);
        return x;
    }

    private static void copies() {
        Supplier<StudioYears> rows = BoundsTest::allRows;
        good("copy(p)", rows, (x, n) -> x.copy(n, 4, 0, 0, 1), 0, 7, ONE, ONE);
        good("copy(q)", rows, (x, n) -> x.copy(4, n, 0, 0, 1), 0, 7, ONE, ONE);
        good("copy(i) of one", rows, (x, n) -> x.copy(2, 4, n, 0, 1), 0, 9, -5, -5);
        good("copy(i) of four", rows, (x, n) -> x.copy(2, 4, n, 0, 4), 0, 6, -5, -5);
        good("copy(i) of none", rows, (x, n) -> x.copy(2, 4, n, 0, 0), 0, 10, -5, -5);
        good("copy(j) of one", rows, (x, n) -> x.copy(2, 4, 0, n, 1), 0, 9, -5, -5);
        good("copy(j) of four", rows, (x, n) -> x.copy(2, 4, 0, n, 4), 0, 6, -5, -5);
        good("copy(j) of none", rows, (x, n) -> x.copy(2, 4, 0, n, 0), 0, 10, -5, -5);
        good("copy(n)", rows, (x, n) -> x.copy(2, 4, 0, 0, n), 0, 10, -4, -5);
        good("copy(n) from 3", rows, (x, n) -> x.copy(2, 4, 3, 0, n), 0, 7, -4, -5);
        good("copy(n) to 4", rows, (x, n) -> x.copy(2, 4, 0, 4, n), 0, 6, -4, -5);
        good("copy(n) on itself", rows, (x, n) -> x.copy(4, 4, 1, 2, n), 0, 8, -4, -5);
        Supplier<StudioYears> uneven = () -> {
            StudioYears x = allRows();
            x.row(5, 2, 6);
            return x;
        };
        good("copy(n) to a lesser row", uneven, (x, n) -> x.copy(4, 5, 0, 0, n), 0, 6, -4, -5);
        good("copy(n) from a lesser row", uneven, (x, n) -> x.copy(5, 4, 0, 0, n), 0, 6, -4, -5);
    }

    private static void shelves() {
        good("show(s)", (x, n) -> x.show(n, 1), 0, 7, ONE);
        good("show(s) of nothing", (x, n) -> x.show(n, -1), 0, 7, ONE);
        good("show(picture)", (x, n) -> x.show(4, n), -1, 3, ONE);
        Supplier<StudioYears> kinds = () -> {
            StudioYears x = new StudioYears();
            for (int kind = 0; kind < 6; kind++) {
                x.picture(kind);
                x.show(kind, kind);
            }
            x.show(7, 0);
            return x;
        };
        good("kindIn(s)", kinds, (x, n) -> x.kindIn(n, 0), 0, 7, ONE, ONE);
        good("kindIn(kind)", kinds, (x, n) -> x.kindIn(n == 5 ? 5 : 0, n), 0, 5, ONE, ONE);
    }

    private static void people() {
        good("person(pay)", (x, n) -> x.person(n), 1, 999, WRONG);
        good("term(who)", BoundsTest::sixteen, (x, n) -> x.term(n, 0), 0, 15, ONE, ONE);
        good("term(s)", BoundsTest::allTerms, (x, n) -> x.term(3, n), 0, 7, ONE, ONE);
        good("law(letter)", (x, n) -> x.law(n, 400), 0, 4, WRONG);
        good("law(day)", (x, n) -> x.law(1, n), 364, 4000, WRONG);
        good("ill(who)", (x, n) -> x.ill(n, 1), 0, 4, ONE);
        good("ill(s)", BoundsTest::allTerms, (x, n) -> x.ill(0, n), 0, 7, ONE, ONE);
        good("refuse(who)", BoundsTest::allAtWork, (x, n) -> x.refuse(n), 0, 15, ONE, ONE);
        good("recall(who)", BoundsTest::allSuspended, (x, n) -> x.recall(n), 0, 15, ONE, ONE);
        good("lend(who)", BoundsTest::allAtWork, (x, n) -> x.lend(n, 1, 1), 0, 15, ONE, ONE);
        good("lend(n)", (x, n) -> x.lend(0, n, 1), 1, 400, WRONG);
        good("lend(price)", (x, n) -> x.lend(0, 1, n), 0, 99999, WRONG);
    }

    private static StudioYears sixteen() {
        StudioYears x = new StudioYears();
        Checks.write(x, 0, "y1");
        for (int who = 0; who < 16; who++) {
            x.person(50);
        }
        return x;
    }

    private static StudioYears allAtWork() {
        StudioYears x = sixteen();
        for (int who = 0; who < 16; who++) {
            x.term(who, 0);
        }
        return x;
    }

    private static StudioYears allSuspended() {
        StudioYears x = allAtWork();
        for (int who = 0; who < 16; who++) {
            x.refuse(who);
        }
        return x;
    }

    /** Eight PICTURES with two SCENES each, four of PEOPLE at work, and ORDERS in all SHELVES. */
    private static StudioYears eightPictures() {
        StudioYears x = new StudioYears();
        for (int who = 0; who < 4; who++) {
            Checks.hire(x, 50, "y1");
        }
        for (int picture = 0; picture < 8; picture++) {
            x.picture(0);
            x.scene(picture, 1, 5, 1);
            x.scene(picture, 2, 10, 2);
            Checks.fill(x, picture, 1, 0);
        }
        return x;
    }

    private static StudioYears eightBegun() {
        StudioYears x = eightPictures();
        for (int picture = 0; picture < 8; picture++) {
            x.begin(picture, 0);
        }
        return x;
    }

    private static void pictures() {
        Supplier<StudioYears> eight = BoundsTest::eightPictures;
        good("picture(kind)", (x, n) -> x.picture(n), 0, 5, ONE);
        good("scene(picture)", eight, (x, n) -> x.scene(n, 0, 0, 1), 0, 7, ONE, ONE);
        good("scene(place)", eight, (x, n) -> x.scene(0, n, 0, 1), 0, 9, WRONG, WRONG);
        good("scene(cast)", eight, (x, n) -> x.scene(0, 0, n, 1), 0, 15, ONE, ONE);
        good("scene(cast) of 16", BoundsTest::sixteenAndOne, (x, n) -> x.scene(0, 0, n, 1), 0, 65535, ONE, ONE);
        good("scene(cast) of nobody", BoundsTest::onePicture, (x, n) -> x.scene(0, 0, n, 1), 0, 0, ONE, ONE);
        good("scene(days)", eight, (x, n) -> x.scene(0, 0, 0, n), 1, 4, WRONG, WRONG);
        good("mark(picture)", eight, (x, n) -> x.mark(n, 0, 0, 1), 0, 7, ONE, ONE);
        good("mark(scene)", eight, (x, n) -> x.mark(0, n, 0, 1), 0, 1, ONE, ONE);
        good("mark(scene) of eight", (x, n) -> x.mark(3, n, 0, 1), 0, 7, ONE);
        good("mark(mark)", (x, n) -> x.mark(1, 0, n, 1), 0, 3, ONE);
        good("mark(n)", (x, n) -> x.mark(1, 0, 0, n), 0, 9, WRONG);
        good("costs(what)", (x, n) -> x.costs(n, 1), 0, 1, WRONG);
        good("costs(n) of a fee", (x, n) -> x.costs(0, n), 0, 999, WRONG);
        good("costs(n) of a change", (x, n) -> x.costs(1, n), 0, 999, WRONG);
    }

    private static StudioYears onePicture() {
        StudioYears x = new StudioYears();
        x.picture(0);
        return x;
    }

    private static StudioYears sixteenAndOne() {
        StudioYears x = sixteen();
        x.picture(0);
        return x;
    }

    private static void shooting() {
        Supplier<StudioYears> eight = BoundsTest::eightPictures;
        Supplier<StudioYears> begun = BoundsTest::eightBegun;
        good("best(picture)", eight, (x, n) -> x.best(n), 0, 7, ONE, ONE);
        good("bound(picture)", eight, (x, n) -> x.bound(n), 0, 7, ONE, ONE);
        good("judge(picture)", eight, (x, n) -> x.judge(n, 0), 0, 7, ONE, ONE);
        good("judge(s)", eight, (x, n) -> x.judge(0, n), 0, 7, ONE, ONE);
        good("begin(picture)", eight, (x, n) -> x.begin(n, 0), 0, 7, ONE, ONE);
        good("begin(s)", eight, (x, n) -> x.begin(0, n), 0, 7, ONE, ONE);
        good("retake(picture)", begun, (x, n) -> x.retake(n, 0), 0, 7, ONE, ONE);
        good("retake(scene)", begun, (x, n) -> x.retake(0, n), 0, 1, ONE, ONE);
        good("retake of a LEFT", () -> eightLeft(8), (x, n) -> x.retake(n, 0), 0, 7, ONE, ONE);
        Stages.refused("retake of a LEFT of 9", () -> eightLeft(9), x -> x.retake(0, 0), -7);
        good("days(n)", (x, n) -> x.days(n), 1, 100, WRONG);
    }

    private static StudioYears eightLeft(int left) {
        StudioYears x = eightBegun();
        for (int picture = 0; picture < 8; picture++) {
            for (int have = 1; have < left; have++) {
                x.retake(picture, 0);
            }
        }
        return x;
    }

    private static StudioYears onDay(int day) {
        StudioYears x = new StudioYears();
        Checks.hire(x, 50, "y9");
        Checks.liveTo(x, day);
        return x;
    }

    private static void dayLimits() {
        Supplier<StudioYears> late = () -> onDay(3990);
        Stages.taken("days(1) on 3,990", late, x -> x.days(1));
        Stages.taken("days(10) on 3,990", late, x -> x.days(10));
        Stages.refused("days(11) on 3,990", late, x -> x.days(11), -7);
        Stages.refused("days(100) on 3,990", late, x -> x.days(100), -7);
        Stages.refused("days(101) on 3,990", late, x -> x.days(101), WRONG);
        Supplier<StudioYears> last = () -> onDay(4000);
        Stages.refused("days(1) on 4,000", last, x -> x.days(1), -7);
        Stages.refused("days(0) on 4,000", last, x -> x.days(0), WRONG);
        good("law(day) on 4,000", last, (x, n) -> x.law(0, n), 4000, 4000, WRONG, WRONG);
        good("law(day) on 0", () -> onDay(0), (x, n) -> x.law(0, n), 0, 4000, WRONG, WRONG);
    }

    private static void cutting() {
        Supplier<StudioYears> eight = BoundsTest::eightPictures;
        good("draft(picture)", eight, (x, n) -> x.draft(n, 0, 0), 0, 7, ONE, ONE);
        good("draft(hand)", eight, (x, n) -> x.draft(0, n, 0), 0, 5, ONE, ONE);
        good("draft(s)", eight, (x, n) -> x.draft(0, 0, n), 0, 7, ONE, ONE);
        good("named(picture)", eight, (x, n) -> x.named(n), 0, 7, ONE, ONE);
        good("code(mark)", (x, n) -> x.code(n, 1), 0, 3, ONE);
        good("code(n)", (x, n) -> x.code(0, n), 0, 9, WRONG);
        good("barred(picture)", eight, (x, n) -> x.barred(n, 0), 0, 7, ONE, ONE);
        good("barred(scene)", eight, (x, n) -> x.barred(0, n), 0, 1, ONE, ONE);
        good("mend(picture)", eight, (x, n) -> x.mend(n), 0, 7, ONE, ONE);
        good("take(picture)", eight, (x, n) -> x.take(n, 0, 1, 1, 1), 0, 7, ONE, ONE);
        good("take(scene)", eight, (x, n) -> x.take(0, n, 1, 1, 1), 0, 1, ONE, ONE);
        good("take(length)", eight, (x, n) -> x.take(0, 0, n, 1, 1), 1, 99, WRONG, WRONG);
        good("take(worth)", eight, (x, n) -> x.take(0, 0, 1, n, 1), 0, 99, WRONG, WRONG);
        good("take(facts)", eight, (x, n) -> x.take(0, 0, 1, 1, n), 0, 99, WRONG, WRONG);
        good("reel(picture)", eight, (x, n) -> x.reel(n, 9), 0, 7, ONE, ONE);
        good("reel(length)", (x, n) -> x.reel(1, n), 0, 400, WRONG);
        good("land(kind)", (x, n) -> x.land(n, 1), 0, 3, ONE);
        good("land(share)", (x, n) -> x.land(2, n), 0, 99, WRONG);
        good("preview(picture)", eight, (x, n) -> x.preview(n, 0, 1, 1), 0, 7, ONE, ONE);
        good("preview(kind)", eight, (x, n) -> x.preview(0, n, 1, 1), 0, 3, ONE, ONE);
        good("preview(came)", eight, (x, n) -> x.preview(0, 0, n, 0), 1, 99, WRONG, WRONG);
        good("preview(liked) of 99", eight, (x, n) -> x.preview(0, 0, 99, n), 0, 99, WRONG, WRONG);
        good("preview(liked) of 1", eight, (x, n) -> x.preview(0, 0, 1, n), 0, 1, WRONG, WRONG);
        // 990 of KIND 0 have come to PICTURE 1.
        Stages.taken("preview to 999", Stages::midYear, x -> x.preview(1, 0, 9, 9));
        Stages.refused("preview beyond 999", Stages::midYear, x -> x.preview(1, 0, 10, 0), -7);
        Stages.refused("preview far beyond 999", Stages::midYear, x -> x.preview(1, 0, 99, 99), -7);
    }

    private static StudioYears sixHalls() {
        StudioYears x = eightPictures();
        for (int hall = 0; hall < 6; hall++) {
            x.hall(hall % 3, hall % 2, 10 * hall);
            x.book(hall, hall, 0);
            x.book(hall, hall, 39);
        }
        return x;
    }

    private static void halls() {
        Supplier<StudioYears> six = BoundsTest::sixHalls;
        good("hall(town)", (x, n) -> x.hall(n, 0, 0), 0, 2, ONE);
        good("hall(rank)", (x, n) -> x.hall(0, n, 0), 0, 3, WRONG);
        good("hall(part)", (x, n) -> x.hall(0, 0, n), 0, 90, WRONG);
        good("clearance(n)", (x, n) -> x.clearance(n), 0, 9, WRONG);
        good("book(picture)", six, (x, n) -> x.book(n, 0, 20), 0, 7, ONE, ONE);
        good("book(hall)", six, (x, n) -> x.book(0, n, 20), 0, 5, ONE, ONE);
        good("book(week)", (x, n) -> x.book(2, 0, n), 0, 39, WRONG);
        good("block(hall)", six, (x, n) -> x.block(n, 1, 5), 0, 5, ONE, ONE);
        Stages.taken("block of picture 0", six, x -> x.block(0, 1, 5));
        Stages.taken("block of all pictures", six, x -> x.block(0, 255, 5));
        Stages.refused("block of no bit", six, x -> x.block(0, 0, 5), WRONG);
        Stages.refused("block of a bit of none", six, x -> x.block(0, 256, 5), ONE);
        Stages.refused("block of all bits", six, x -> x.block(0, -1, 5), ONE);
        Stages.refused("block of the highest bit", six, x -> x.block(0, Integer.MIN_VALUE, 5), ONE);
        good("block(week)", (x, n) -> x.block(0, 4, n), 0, 39, WRONG);
        good("takings(hall)", six, (x, n) -> x.takings(n, 39, 5), 0, 5, ONE, ONE);
        good("takings(week)", six, (x, n) -> x.takings(0, n, 5), 0, 39, WRONG, WRONG);
        good("takings(coins)", six, (x, n) -> x.takings(5, 0, n), 0, 99999, WRONG, WRONG);
    }

    private static void plans() {
        Supplier<StudioYears> eight = BoundsTest::eightPictures;
        good("lot(picture)", eight, (x, n) -> x.lot(n, 1), 0, 7, ONE, ONE);
        good("lot(n)", (x, n) -> x.lot(1, n), 1, 4, WRONG);
        good("worth(picture)", eight, (x, n) -> x.worth(n, 1, 1), 0, 7, ONE, ONE);
        good("worth(slot)", (x, n) -> x.worth(1, n, 1), 0, 7, WRONG);
        good("worth(n)", (x, n) -> x.worth(1, 1, n), 0, 999, WRONG);
        good("plan(stages)", (x, n) -> x.plan(n), 1, 3, WRONG);
    }

    /** Something is told from least to most; outside of that what stands for none. */
    private static void told(String name, Supplier<StudioYears> stage, With call,
            int least, int most, long none) {
        for (int number : new int[] {least, most}) {
            long answer = call.on(stage.get(), number);
            Checks.due(name + " of " + number + " is told", answer != none ? 1 : 0, 1);
            Stages.asked(name + " of " + number, stage, x -> call.on(x, number), answer);
        }
        for (int number : new int[] {least - 1, most + 1, Integer.MIN_VALUE, Integer.MAX_VALUE}) {
            Stages.asked(name + " of " + number, stage, x -> call.on(x, number), none);
        }
    }

    private static void askedOfRows() {
        Supplier<StudioYears> rows = BoundsTest::filledRows;
        told("element(s)", rows, (x, n) -> x.element(n, 0), 0, 7, 0);
        told("element(i)", rows, (x, n) -> x.element(4, n), 0, 59, 0);
        told("holds(s)", rows, (x, n) -> x.holds(n), 0, 7, -1);
        Stages.asked("element of a picture", Stages::midYear, x -> x.element(3, 0), 0);
        Stages.asked("element of nothing", Stages::midYear, x -> x.element(4, 0), 0);
        Stages.asked("element of an empty row", Stages::midYear, x -> x.element(6, 0), 0);
        Stages.asked("holds nothing", Stages::midYear, x -> x.holds(4), -1);
        Stages.asked("holds an empty row", Stages::midYear, x -> x.holds(6), 100);
        Stages.asked("fault at first", StudioYears::new, x -> x.fault(), -1);
    }

    private static StudioYears filledRows() {
        StudioYears x = new StudioYears();
        for (int s = 0; s < 8; s++) {
            x.row(s, s % 4, 60);
            x.set(s, 0, 1 + s);
            x.set(s, 59, 1 + s);
        }
        return x;
    }

    private static void askedOfPeople() {
        Supplier<StudioYears> work = BoundsTest::allAtWork;
        told("counts(who)", work, (x, n) -> x.counts(n, 0, 0), 0, 15, -1);
        told("counts(letter)", work, (x, n) -> x.counts(0, n, 0), 0, 4, -1);
        told("who(who)", work, (x, n) -> x.who(n, 0), 0, 15, -1);
        told("who(what)", work, (x, n) -> x.who(0, n), 0, 7, -1);
        told("got(1, i)", work, (x, n) -> x.got(1, n), 0, 15, -1);
        told("got(what)", BoundsTest::sixHalls, (x, n) -> x.got(n, 0), 0, 1, -1);
        Stages.asked("counts without a TERM", Stages::midYear, x -> x.counts(3, 0, 0), -1);
        Stages.asked("who without a TERM: END", Stages::midYear, x -> x.who(3, 1), -1);
        Stages.asked("who isn't LENT", Stages::midYear, x -> x.who(0, 4), -1);
        Stages.asked("who is LENT", Stages::midYear, x -> x.who(2, 4), 764);
    }

    private static void askedOfPictures() {
        Supplier<StudioYears> begun = BoundsTest::eightBegun;
        told("bestScene(picture)", begun, (x, n) -> x.bestScene(n, 0), 0, 7, -1);
        told("bestScene(i)", begun, (x, n) -> x.bestScene(0, n), 0, 1, -1);
        told("bestScene(i) of eight", Stages::midYear, (x, n) -> x.bestScene(3, n), 0, 7, -1);
        told("about(picture)", begun, (x, n) -> x.about(n, 0), 0, 7, -1);
        told("about(what)", begun, (x, n) -> x.about(0, n), 0, 8, -1);
        told("left(picture)", begun, (x, n) -> x.left(n, 0), 0, 7, -1);
        told("left(scene)", begun, (x, n) -> x.left(0, n), 0, 1, -1);
        told("credit(picture)", begun, (x, n) -> x.credit(n, 0), 0, 7, -1);
        told("credit(hand)", begun, (x, n) -> x.credit(0, n), 0, 5, -1);
        told("reelTake(picture)", BoundsTest::eightReels, (x, n) -> x.reelTake(n, 0), 0, 7, -1);
        told("reelTake(scene)", BoundsTest::eightReels, (x, n) -> x.reelTake(0, n), 0, 1, -1);
        told("putRight(picture)", begun, (x, n) -> x.putRight(n, false), 0, 7, -1000);
        told("putRight(picture)", begun, (x, n) -> x.putRight(n, true), 0, 7, -1000);
        Stages.asked("about no standing place", begun, x -> x.about(0, 4), -1);
    }

    private static StudioYears eightReels() {
        StudioYears x = eightPictures();
        for (int picture = 0; picture < 8; picture++) {
            x.take(picture, 0, 5, 5, 11);
            x.take(picture, 1, 5, 5, 11);
            x.reel(picture, 10);
        }
        return x;
    }

    private static void askedOfHalls() {
        Supplier<StudioYears> six = BoundsTest::sixHalls;
        told("shown(hall)", six, (x, n) -> x.shown(n, 0), 0, 5, -1);
        told("shown(week)", six, (x, n) -> x.shown(0, n), 0, 39, -1);
        told("got(0, i)", six, (x, n) -> x.got(0, n), 0, 5, -1);
        told("planned(picture)", BoundsTest::fivePlanned, (x, n) -> x.planned(n), 0, 4, -1);
        told("status(what) to 9", six, (x, n) -> x.status(Math.min(n, 10)), 0, 9, -1);
        told("status(what) from 11", six, (x, n) -> x.status(Math.max(n, 10)), 11, 17, -1);
        Stages.asked("shown in an empty week", six, x -> x.shown(0, 38), -1);
    }

    private static StudioYears fivePlanned() {
        StudioYears x = new StudioYears();
        for (int picture = 0; picture < 5; picture++) {
            x.picture(0);
        }
        x.plan(3);
        return x;
    }
}
