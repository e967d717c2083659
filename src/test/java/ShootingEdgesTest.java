/** Promises 18 to 31 at their edges: ORDERS and their COST, and DAYS of SHOOTING. */
public final class ShootingEdgesTest {
    public static void main(String[] args) {
        dayPayIsCut();
        daysFromFirstToLast();
        changesOfPlaces();
        oneScene();
        theDearest();
        likesInOrder();
        middleOfAll();
        bestBehindAGreaterOne();
        asThingsAre();
        boundAtTheEdges();
        ordersAtTheEdges();
        orderAsItWas();
        firstPlace();
        changeUsesNobody();
        usedOnce();
        usedElsewhere();
        whoIsReady();
        endOfATerm();
        idleOrDone();
        idleUsesNobody();
        idleWithEightScenes();
        retakesAtTheEdges();
        picturesByNumbers();
        leftAheadOfBegin();
        Checks.end();
    }

    private static void dayPayIsCut() {
        int[][] cases = {{1, 0}, {6, 0}, {7, 1}, {13, 1}, {14, 2}, {699, 99}, {700, 100}, {999, 142}};
        for (int[] one : cases) {
            StudioYears x = new StudioYears();
            x.person(one[0]);
            x.picture(0);
            x.scene(0, 0, 1, 1);
            Checks.due("DAY PAY of " + one[0], x.best(0), one[1]);
            Checks.due("BOUND by " + one[0], x.bound(0), one[1]);
            x.scene(0, 0, 1, 4);
            Checks.due("five DAYS of " + one[0], x.best(0), 5 * one[1]);
        }
    }

    private static void daysFromFirstToLast() {
        StudioYears x = new StudioYears();
        x.person(7);
        x.picture(0);
        int[] days = {1, 2, 3, 4};
        for (int i = 0; i < 4; i++) {
            x.scene(0, 0, i == 1 ? 1 : 0, days[i]);
        }
        Checks.fill(x, 0, 0, 1, 2, 3);
        Checks.due("in one SCENE: its DAYS alone", x.judge(0, 0), 2);
        x.scene(0, 0, 1, 1);
        Checks.fill(x, 0, 0, 1, 2, 3, 4);
        Checks.due("from the first to the last", x.judge(0, 0), 2 + 3 + 4 + 1);
        Checks.fill(x, 0, 1, 0, 4, 2, 3);
        Checks.due("with one between", x.judge(0, 0), 2 + 1 + 1);
        Checks.fill(x, 0, 0, 2, 3, 4, 1);
        Checks.due("side by side at the end", x.judge(0, 0), 1 + 2);
    }

    private static void changesOfPlaces() {
        StudioYears x = new StudioYears();
        x.costs(1, 10);
        x.picture(0);
        x.scene(0, 0, 0, 1);
        Checks.due("CHANGE for the first, even to PLACE 0", x.best(0), 10);
        x.scene(0, 9, 0, 1);
        x.scene(0, 0, 0, 1);
        Checks.fill(x, 0, 0, 1, 2);
        Checks.due("there and back", x.judge(0, 0), 30);
        Checks.fill(x, 0, 0, 2, 1);
        Checks.due("one PLACE once", x.judge(0, 0), 20);
        Checks.due("best", x.best(0), 20);
        Checks.due("bound", x.bound(0), 20);
    }

    private static void oneScene() {
        StudioYears x = new StudioYears();
        x.costs(0, 999);
        x.costs(1, 999);
        x.person(999);
        x.picture(0);
        Checks.due("no SCENE", x.bestScene(0, 0), -1);
        x.scene(0, 9, 1, 4);
        Checks.due("best", x.best(0), 4 * 999 + 999 + 4 * 142);
        Checks.due("its only one", x.bestScene(0, 0), 0);
        Checks.due("no second", x.bestScene(0, 1), -1);
        Checks.due("bound", x.bound(0), x.best(0));
    }

    /** As much of everything as there may be. */
    private static void theDearest() {
        StudioYears x = new StudioYears();
        x.costs(0, 999);
        x.costs(1, 999);
        for (int who = 0; who < 16; who++) {
            x.person(999);
        }
        x.picture(0);
        for (int scene = 0; scene < 8; scene++) {
            x.scene(0, scene, 65535, 4);
        }
        int cost = 32 * 999 + 8 * 999 + 16 * 32 * 142;
        Checks.due("best", x.best(0), cost);
        Checks.due("bound", x.bound(0), cost);
        for (int i = 0; i < 8; i++) {
            Checks.due("the first of likes", x.bestScene(0, i), i);
        }
        Checks.fill(x, 0, 7, 6, 5, 4, 3, 2, 1, 0);
        Checks.due("judge", x.judge(0, 0), cost);
        Checks.due("begin", x.begin(0, 0), cost);
        Checks.due("LEFT", x.about(0, 3), 32);
    }

    private static void likesInOrder() {
        StudioYears x = new StudioYears();
        x.person(70);
        x.picture(0);
        // Whoever begins, PERSON 0 has to be together: 0 2 first, or 1 first.
        x.scene(0, 0, 1, 1);
        x.scene(0, 0, 0, 1);
        x.scene(0, 0, 1, 1);
        int[] want = {0, 2, 1};
        for (int i = 0; i < 3; i++) {
            Checks.due("the lesser first SCENE", x.bestScene(0, i), want[i]);
        }
        StudioYears y = new StudioYears();
        y.person(70);
        y.picture(0);
        y.scene(0, 0, 0, 1);
        y.scene(0, 0, 1, 1);
        y.scene(0, 0, 0, 1);
        y.scene(0, 0, 1, 1);
        int[] then = {0, 1, 3, 2};
        for (int i = 0; i < 4; i++) {
            Checks.due("then the second", y.bestScene(0, i), then[i]);
        }
    }

    /** BEST ORDER need not begin with SCENE 0. */
    private static void middleOfAll() {
        StudioYears x = new StudioYears();
        x.person(70);
        x.person(70);
        x.picture(0);
        x.scene(0, 0, 3, 1);
        x.scene(0, 0, 1, 1);
        x.scene(0, 0, 2, 1);
        Checks.due("nobody waits", x.best(0), 40);
        int[] want = {1, 0, 2};
        for (int i = 0; i < 3; i++) {
            Checks.due("SCENE 0 in the middle", x.bestScene(0, i), want[i]);
        }
    }

    /** What a great PICTURE left behind does not count for a small one. */
    private static void bestBehindAGreaterOne() {
        StudioYears x = new StudioYears();
        x.costs(0, 100);
        for (int scenes = 8; scenes >= 1; scenes--) {
            int number = x.picture(0);
            for (int scene = 0; scene < scenes; scene++) {
                x.scene(number, 0, 0, 1);
            }
        }
        for (int number = 0; number < 8; number++) {
            Checks.due("best of " + (8 - number), x.best(number), 100 * (8 - number));
            Checks.due("its last", x.bestScene(number, 7 - number), 7 - number);
        }
    }

    private static void asThingsAre() {
        StudioYears x = new StudioYears();
        x.person(70);
        x.picture(0);
        x.picture(0);
        x.scene(0, 0, 1, 1);
        x.scene(0, 1, 0, 1);
        x.scene(0, 0, 0, 1);
        Checks.due("without CHANGE", x.bestScene(0, 1), 1);
        x.costs(1, 1);
        Checks.due("with CHANGE", x.bestScene(0, 1), 2);
        x.costs(1, 0);
        Checks.due("without again", x.bestScene(0, 1), 1);
        x.scene(0, 0, 1, 1);
        Checks.due("with a new SCENE", x.bestScene(0, 1), 3);
        x.scene(1, 0, 0, 1);
        x.scene(1, 0, 0, 1);
        Checks.due("another PICTURE's", x.bestScene(1, 1), 1);
        Checks.due("this one's again", x.bestScene(0, 1), 3);
        Checks.fill(x, 0, 1, 0, 2, 3);
        x.begin(0, 0);
        x.days(20);
        Checks.due("all SCENES, shot or not", x.bestScene(0, 3), 2);
        Checks.due("and their COST", x.best(0), 20);
    }

    private static void boundAtTheEdges() {
        StudioYears x = new StudioYears();
        x.costs(1, 100);
        x.picture(0);
        Checks.due("no SCENES", x.bound(0), 0);
        for (int scene = 0; scene < 8; scene++) {
            x.scene(0, scene < 4 ? 0 : 9, 0, 1);
        }
        Checks.due("one CHANGE for each PLACE", x.bound(0), 200);
        StudioYears y = new StudioYears();
        y.person(70);
        y.picture(0);
        y.scene(0, 0, 1, 1);
        y.scene(0, 0, 0, 4);
        y.scene(0, 0, 1, 1);
        Checks.due("just in its own SCENES", y.bound(0), 20);
    }

    private static void ordersAtTheEdges() {
        StudioYears x = new StudioYears();
        x.picture(0);
        x.row(1, 3, 0);
        Checks.due("no SCENES, no elements", x.judge(0, 1), 0);
        Checks.due("not to be begun", x.begin(0, 1), -6);
        x.row(1, 3, 1);
        Checks.due("no SCENES, one element", x.judge(0, 1), -6);
        for (int scene = 0; scene < 8; scene++) {
            x.scene(0, 0, 0, 1);
        }
        long[] good = {7, 0, 6, 1, 5, 2, 4, 3};
        for (int sort = 0; sort < 4; sort++) {
            Checks.fillSort(x, 0, sort, good);
            Checks.due("of eight, sort " + sort, x.judge(0, 0), 0);
            for (long wrong : new long[] {-1, 8, 0, 6, 127}) {
                x.set(0, 0, wrong);
                Checks.due("not all: " + wrong, x.judge(0, 0), -6);
                Checks.due("not all: " + wrong, x.begin(0, 0), -6);
            }
        }
        x.set(0, 0, 7 + (1L << 32));
        Checks.due("longs as ints", x.judge(0, 0), 0);
        x.set(0, 0, 7 + (1L << 31));
        Checks.due("of which the highest bit counts", x.judge(0, 0), -6);
        Checks.fill(x, 0, 7, 0, 6, 1, 5, 2, 4);
        Checks.due("seven of eight", x.judge(0, 0), -6);
        Checks.fill(x, 0, 7, 0, 6, 1, 5, 2, 4, 3, 8);
        Checks.due("nine", x.judge(0, 0), -6);
        Checks.due("not begun by all that", x.about(0, 2), 0);
    }

    private static void orderAsItWas() {
        StudioYears x = new StudioYears();
        x.picture(0);
        x.scene(0, 1, 0, 1);
        x.scene(0, 2, 0, 1);
        Checks.fill(x, 0, 1, 0);
        x.begin(0, 0);
        Checks.fill(x, 0, 0, 1);
        Checks.due("judged by another", x.judge(0, 0), 0);
        x.days(2);
        Checks.due("shot by the ORDER of begin", x.left(0, 1), 0);
        Checks.due("the other later", x.left(0, 0), 1);
    }

    private static void firstPlace() {
        StudioYears x = new StudioYears();
        x.costs(0, 5);
        x.costs(1, 3);
        x.picture(0);
        x.scene(0, 0, 0, 1);
        Checks.fill(x, 0, 0);
        x.begin(0, 0);
        Checks.due("no PLACE stands", x.about(0, 4), -1);
        x.days(1);
        Checks.due("PLACE 0 has to be set up too", x.about(0, 7), 1);
        Checks.due("it stands", x.about(0, 4), 0);
        Checks.due("nothing is shot", x.about(0, 6), 0);
        Checks.due("CHANGE", x.status(5), -3);
        x.days(1);
        Checks.due("shot", x.about(0, 6), 1);
        Checks.due("FEE", x.status(5), -8);
        x.days(5);
        Checks.due("it stands for good", x.about(0, 4), 0);
        Checks.due("nothing more is paid", x.status(5), -8);
    }

    private static void changeUsesNobody() {
        StudioYears x = new StudioYears();
        Checks.hire(x, 7, "w0");
        twoWithOne(x, 1);
        x.days(1);
        Checks.due("both change on one DAY", x.about(0, 7) + x.about(1, 7), 2);
        x.days(1);
        Checks.due("one shoots", x.about(0, 6), 1);
        Checks.due("the other is IDLE", x.about(1, 5), 1);
        Checks.due("and shoots nothing", x.about(1, 6), 0);
        x.days(1);
        Checks.due("then it shoots", x.about(1, 6), 1);
    }

    /** Two PICTURES of one SCENE each, of one DAY, with a CAST, both begun. */
    private static void twoWithOne(StudioYears x, int cast) {
        Checks.fill(x, 0, 0);
        for (int i = 0; i < 2; i++) {
            int number = x.picture(0);
            x.scene(number, 3, cast, 1);
            x.begin(number, 0);
        }
    }

    /** One who was used may not be used again; who shares nobody shoots on the same DAY. */
    private static void usedOnce() {
        StudioYears x = new StudioYears();
        Checks.hire(x, 7, "w0");
        Checks.hire(x, 7, "w0");
        Checks.hire(x, 7, "w0");
        int[] casts = {3, 6, 4, 1};
        Checks.fill(x, 0, 0);
        for (int number = 0; number < 4; number++) {
            x.picture(0);
            x.scene(number, 0, casts[number], 2);
            x.begin(number, 0);
        }
        x.days(2);
        int[] shot = {1, 0, 1, 0};
        for (int number = 0; number < 4; number++) {
            Checks.due("shot by " + number, x.about(number, 6), shot[number]);
            Checks.due("IDLE " + number, x.about(number, 5), 1 - shot[number]);
        }
        x.days(2);
        int[] then = {2, 1, 2, 1};
        for (int number = 0; number < 4; number++) {
            Checks.due("then shot by " + number, x.about(number, 6), then[number]);
        }
    }

    /** Where the first SCENE's CAST was used on that DAY, the next one that can is shot. */
    private static void usedElsewhere() {
        StudioYears x = new StudioYears();
        Checks.hire(x, 7, "w0");
        Checks.fill(x, 0, 0);
        x.picture(0);
        x.scene(0, 1, 1, 2);
        x.begin(0, 0);
        Checks.fill(x, 0, 0, 1);
        x.picture(0);
        x.scene(1, 1, 1, 1);
        x.scene(1, 1, 0, 1);
        x.begin(1, 0);
        x.days(2);
        Checks.due("PICTURE 0 has used the one", x.left(0, 0), 1);
        Checks.due("so its first SCENE waits", x.left(1, 0), 1);
        Checks.due("and the second is shot", x.left(1, 1), 0);
        Checks.due("not IDLE", x.about(1, 5), 0);
        x.days(1);
        Checks.due("then IDLE", x.about(1, 5), 1);
        x.days(1);
        Checks.due("then its first", x.left(1, 0), 0);
    }

    /** All of a CAST must be READY: one who isn't stops it. */
    private static void whoIsReady() {
        for (int away = 0; away < 5; away++) {
            StudioYears x = new StudioYears();
            Checks.hire(x, 7, "w0");
            int other = away == 4 ? x.person(7) : Checks.hire(x, 7, "w0");
            if (away == 1) {
                x.refuse(other);
            } else if (away == 2) {
                x.lend(other, 400, 0);
            } else if (away == 3) {
                Checks.fill(x, 1, 1);
                x.ill(other, 1);
            }
            x.picture(0);
            x.scene(0, 0, 3, 1);
            Checks.fill(x, 0, 0);
            x.begin(0, 0);
            x.days(2);
            Checks.due("shot, away " + away, x.about(0, 6), away == 0 ? 1 : 0);
            Checks.due("IDLE, away " + away, x.about(0, 5), away == 0 ? 0 : 2);
        }
    }

    private static void endOfATerm() {
        StudioYears x = new StudioYears();
        Checks.hire(x, 7, "w0");
        x.picture(0);
        x.scene(0, 0, 1, 4);
        Checks.fill(x, 0, 0);
        Checks.liveTo(x, 361);
        x.begin(0, 0);
        x.days(3);
        Checks.due("shot on the TERM's last DAY", x.about(0, 6), 2);
        x.days(1);
        Checks.due("not on END", x.about(0, 6), 2);
        Checks.due("IDLE", x.about(0, 5), 1);
        x.term(0, 7);
        x.days(2);
        Checks.due("by a new TERM", x.about(0, 6), 4);
    }

    private static void idleOrDone() {
        StudioYears x = new StudioYears();
        x.person(7);
        x.picture(0);
        x.picture(0);
        x.scene(0, 0, 1, 1);
        x.scene(1, 0, 0, 1);
        Checks.fill(x, 0, 0);
        x.days(3);
        Checks.due("not begun, not IDLE", x.about(0, 5), 0);
        x.begin(0, 0);
        x.begin(1, 0);
        x.days(10);
        Checks.due("IDLE each DAY", x.about(0, 5), 10);
        Checks.due("done, not IDLE", x.about(1, 5), 0);
        Checks.due("LEFT", x.about(0, 3), 1);
        Checks.due("LEFT", x.about(1, 3), 0);
    }

    /** Who is READY but waits for another is free for a later PICTURE. */
    private static void idleUsesNobody() {
        StudioYears x = new StudioYears();
        Checks.hire(x, 7, "w0");
        x.person(7);
        Checks.fill(x, 0, 0);
        for (int cast : new int[] {3, 1}) {
            int number = x.picture(0);
            x.scene(number, 0, cast, 1);
            x.begin(number, 0);
        }
        x.days(2);
        Checks.due("PICTURE 0 is IDLE", x.about(0, 5), 2);
        Checks.due("PICTURE 1 is shot", x.about(1, 6), 1);
    }

    private static void idleWithEightScenes() {
        StudioYears x = new StudioYears();
        x.person(7);
        x.picture(0);
        for (int scene = 0; scene < 8; scene++) {
            x.scene(0, 0, 1, 1);
        }
        Checks.fill(x, 0, 7, 6, 5, 4, 3, 2, 1, 0);
        x.begin(0, 0);
        x.days(5);
        Checks.due("none of eight can be shot", x.about(0, 5), 5);
        Checks.due("LEFT", x.about(0, 3), 8);
    }

    private static void retakesAtTheEdges() {
        StudioYears x = new StudioYears();
        x.picture(0);
        x.scene(0, 0, 0, 4);
        x.scene(0, 0, 0, 1);
        Checks.fill(x, 0, 0, 1);
        x.begin(0, 0);
        for (int left = 5; left <= 9; left++) {
            Checks.due("LEFT", x.retake(0, 0), left);
        }
        Checks.due("not above 9", x.retake(0, 0), -7);
        Checks.due("LEFT", x.left(0, 0), 9);
        Checks.due("another SCENE", x.retake(0, 1), 2);
        x.days(2);
        Checks.due("one shot", x.left(0, 0), 8);
        Checks.due("room again", x.retake(0, 0), 9);
        x.days(11);
        Checks.due("all shot", x.about(0, 3), 0);
        Checks.due("from 0 on", x.retake(0, 1), 1);
        x.days(3);
        Checks.due("DAYS shot", x.about(0, 6), 13);
        Checks.due("never IDLE", x.about(0, 5), 0);
        Checks.due("COST is that of the SCENES as told", x.best(0), 0);
        x.costs(0, 1);
        Checks.due("retakes are not in it", x.best(0), 5);
    }

    /** All eight shoot on one DAY, and THE PURSE pays for each. */
    private static void picturesByNumbers() {
        StudioYears x = new StudioYears();
        x.costs(0, 10);
        x.costs(1, 1);
        Checks.fill(x, 0, 0);
        for (int number = 0; number < 8; number++) {
            Checks.hire(x, 7, "w0");
            x.picture(0);
            x.scene(number, number, 1 << number, 1);
            x.begin(number, 0);
        }
        x.days(1);
        Checks.due("eight CHANGES", x.status(5), -8);
        x.days(1);
        Checks.due("eight FEES", x.status(5), -88);
        x.days(1);
        Checks.due("no more", x.status(5), -88);
    }

    private static void leftAheadOfBegin() {
        StudioYears x = new StudioYears();
        x.picture(0);
        x.scene(0, 0, 0, 4);
        Checks.due("0 ahead of begin", x.left(0, 0), 0);
        Checks.due("0 of all", x.about(0, 3), 0);
        Checks.fill(x, 0, 0);
        x.begin(0, 0);
        Checks.due("then its DAYS", x.left(0, 0), 4);
        Checks.due("of all", x.about(0, 3), 4);
    }
}
