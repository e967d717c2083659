/** Promises 18 to 28, 30 and 31: PICTURES, their SCENES, ORDERS and SHOOTING. */
public final class PicturesTest {
    public static void main(String[] args) {
        pictures();
        scenes();
        costs();
        bestOrder();
        bestAmongLikes();
        bestFollowsChanges();
        bound();
        judging();
        beginning();
        shooting();
        sharedCast();
        idleDays();
        shootingOutOfOrder();
        retakes();
        Checks.end();
    }

    private static void pictures() {
        StudioYears x = new StudioYears();
        Checks.due("kind below", x.picture(-1), -1);
        Checks.due("kind above", x.picture(6), -1);
        for (int i = 0; i < 8; i++) {
            Checks.due("picture", x.picture(i % 6), i);
            Checks.due("kind", x.about(i, 0), i % 6);
        }
        Checks.due("kind goes ahead of room", x.picture(6), -1);
        Checks.due("no room", x.picture(0), -7);
        Checks.due("how many", x.status(1), 8);
        int[] atFirst = {1, 0, 0, 0, -1, 0, 0, 0, 0, -1};
        for (int what = 0; what < atFirst.length; what++) {
            Checks.due("about " + what, x.about(1, what), atFirst[what]);
        }
        Checks.due("about what below", x.about(1, -1), -1);
        Checks.due("about none", x.about(8, 0), -1);
        Checks.due("about refuses nothing", x.status(11), 3);
    }

    private static void scenes() {
        StudioYears x = new StudioYears();
        x.person(7);
        x.person(7);
        x.picture(0);
        Checks.due("no picture", x.scene(1, 0, 1, 1), -1);
        Checks.due("a bit of none", x.scene(0, 10, 4, 1), -1);
        Checks.due("the highest bit", x.scene(0, 0, Integer.MIN_VALUE, 1), -1);
        Checks.due("place below", x.scene(0, -1, 1, 1), -6);
        Checks.due("place above", x.scene(0, 10, 1, 1), -6);
        Checks.due("days below", x.scene(0, 0, 1, 0), -6);
        Checks.due("days above", x.scene(0, 0, 1, 5), -6);
        for (int i = 0; i < 8; i++) {
            Checks.due("scene", x.scene(0, 9, 3, 4), i);
        }
        Checks.due("wrong goes ahead of room", x.scene(0, 9, 3, 5), -6);
        Checks.due("no room", x.scene(0, 9, 3, 4), -7);
        Checks.due("scenes", x.about(0, 1), 8);
        Checks.due("left ahead of begin", x.left(0, 7), 0);
        Checks.due("left of none", x.left(0, 8), -1);
        Checks.due("left of none", x.left(1, 0), -1);
        Checks.due("left of none", x.left(0, -1), -1);
        Checks.due("-1", x.status(11), 3);
    }

    private static void costs() {
        StudioYears x = new StudioYears();
        Checks.due("what below", x.costs(-1, 0), -6);
        Checks.due("what above", x.costs(2, 0), -6);
        Checks.due("n below", x.costs(0, -1), -6);
        Checks.due("n above", x.costs(1, 1000), -6);
        Checks.due("fee", x.costs(0, 999), 0);
        Checks.due("change", x.costs(1, 998), 0);
        Checks.due("fee was", x.costs(0, 0), 999);
        Checks.due("change was", x.costs(1, 0), 998);
    }

    private static void bestOrder() {
        StudioYears x = new StudioYears();
        x.picture(0);
        Checks.due("no picture", x.best(1), -1);
        Checks.due("no scenes", x.best(0), -6);
        Checks.due("scene of none", x.bestScene(0, 0), -1);
        Checks.due("scene of no picture", x.bestScene(1, 0), -1);
        x.person(71); // 10 a DAY
        x.person(7);
        x.costs(0, 5);
        x.costs(1, 3);
        x.scene(0, 1, 1, 2);
        x.scene(0, 2, 2, 4);
        x.scene(0, 1, 1, 1);
        x.scene(0, 2, 3, 1);
        // Best: 1, 3, 0, 2 or its like: FEE 8 * 5, CHANGE 2 * 3, person 0 4 DAYS, person 1 5.
        Checks.due("best", x.best(0), 40 + 6 + 40 + 5);
        int[] want = {0, 2, 3, 1};
        for (int i = 0; i < 4; i++) {
            Checks.due("scene of best", x.bestScene(0, i), want[i]);
        }
        Checks.due("beyond", x.bestScene(0, 4), -1);
        Checks.due("below", x.bestScene(0, -1), -1);
    }

    private static void bestAmongLikes() {
        StudioYears x = new StudioYears();
        x.picture(0);
        for (int i = 0; i < 8; i++) {
            x.scene(0, i % 3, 0, 1);
        }
        Checks.due("all cost 0", x.best(0), 0);
        for (int i = 0; i < 8; i++) {
            Checks.due("the first of likes", x.bestScene(0, i), i);
        }
        x.costs(1, 1);
        Checks.due("three changes", x.best(0), 3);
        int[] want = {0, 3, 6, 1, 4, 7, 2, 5};
        for (int i = 0; i < 8; i++) {
            Checks.due("by places", x.bestScene(0, i), want[i]);
        }
    }

    private static void bestFollowsChanges() {
        StudioYears x = new StudioYears();
        x.picture(0);
        x.picture(0);
        x.person(70);
        x.scene(0, 1, 0, 1);
        x.scene(1, 2, 1, 2);
        Checks.due("best", x.best(0), 0);
        Checks.due("best of the other", x.best(1), 20);
        Checks.due("best again", x.best(0), 0);
        x.costs(0, 4);
        Checks.due("by the new fee", x.best(0), 4);
        x.costs(1, 6);
        Checks.due("by the new change", x.best(0), 10);
        x.scene(0, 1, 0, 1);
        Checks.due("with a new scene", x.best(0), 14);
        Checks.due("its order", x.bestScene(0, 1), 1);
    }

    private static void bound() {
        StudioYears x = new StudioYears();
        x.picture(0);
        Checks.due("no picture", x.bound(1), -1);
        x.costs(0, 5);
        x.costs(1, 3);
        Checks.due("no scenes", x.bound(0), 0);
        x.person(71);
        x.person(6); // 0 a DAY
        x.scene(0, 1, 1, 2);
        x.scene(0, 2, 2, 4);
        x.scene(0, 1, 3, 1);
        Checks.due("bound", x.bound(0), 7 * 5 + 2 * 3 + 3 * 10);
    }

    private static void judging() {
        StudioYears x = new StudioYears();
        x.picture(0);
        x.person(71);
        x.costs(0, 5);
        x.costs(1, 3);
        Checks.due("no picture", x.judge(1, 9), -1);
        Checks.due("no shelf", x.judge(0, 8), -1);
        Checks.due("nothing", x.judge(0, 0), -3);
        x.show(0, 0);
        Checks.due("a picture", x.judge(0, 0), -2);
        x.row(0, 0, 0);
        Checks.due("all of no scenes", x.judge(0, 0), 0);
        x.scene(0, 1, 1, 2);
        x.scene(0, 2, 0, 3);
        x.scene(0, 1, 1, 1);
        Checks.due("too few", x.judge(0, 0), -6);
        Checks.fill(x, 0, 0, 1, 2);
        Checks.due("waiting", x.judge(0, 0), 6 * 5 + 3 * 3 + 6 * 10);
        Checks.fill(x, 0, 1, 2, 0);
        Checks.due("together", x.judge(0, 0), 6 * 5 + 2 * 3 + 3 * 10);
        Checks.fillSort(x, 0, 3, 2 + (1L << 32), 0, 1L - (1L << 33));
        Checks.due("as ints", x.judge(0, 0), 6 * 5 + 2 * 3 + 3 * 10);
        Checks.fill(x, 0, 1, 1, 0);
        Checks.due("twice", x.judge(0, 0), -6);
        Checks.fill(x, 0, 1, 3, 0);
        Checks.due("beyond", x.judge(0, 0), -6);
        Checks.fill(x, 0, 1, -1, 0);
        Checks.due("below", x.judge(0, 0), -6);
        Checks.fill(x, 0, 0, 1, 2, 2);
        Checks.due("too many", x.judge(0, 0), -6);
    }

    private static void beginning() {
        StudioYears x = new StudioYears();
        x.picture(0);
        x.costs(0, 5);
        x.costs(1, 3);
        Checks.due("no picture", x.begin(1, 0), -1);
        Checks.due("no shelf", x.begin(0, -1), -1);
        Checks.due("nothing", x.begin(0, 0), -3);
        x.show(0, 0);
        Checks.due("a picture", x.begin(0, 0), -2);
        x.row(0, 0, 0);
        Checks.due("no scenes", x.begin(0, 0), -6);
        x.scene(0, 1, 0, 2);
        x.scene(0, 2, 0, 3);
        Checks.fill(x, 0, 1, 1);
        Checks.due("no order", x.begin(0, 0), -6);
        Checks.due("not begun", x.about(0, 2), 0);
        Checks.fill(x, 0, 1, 0);
        Checks.due("begun", x.begin(0, 0), 31);
        Checks.due("begun", x.about(0, 2), 1);
        Checks.due("left", x.left(0, 0), 2);
        Checks.due("left", x.left(0, 1), 3);
        Checks.due("left of all", x.about(0, 3), 5);
        Checks.due("no place stands", x.about(0, 4), -1);
        Checks.due("begun already", x.begin(0, 0), -6);
        Checks.due("no more scenes", x.scene(0, 0, 0, 1), -6);
        Checks.due("judged still", x.judge(0, 0), 31);
        Checks.due("nothing is paid yet", x.status(5), 0);
    }

    private static void shooting() {
        StudioYears x = new StudioYears();
        x.picture(0);
        x.costs(0, 5);
        x.costs(1, 3);
        x.scene(0, 1, 0, 2);
        x.scene(0, 1, 0, 1);
        x.scene(0, 0, 0, 1);
        Checks.fill(x, 0, 2, 0, 1);
        x.begin(0, 0);
        Checks.fill(x, 0, 9, 9, 9);
        x.days(1);
        Checks.due("a change on the first day", x.about(0, 4), 0);
        Checks.due("left", x.about(0, 3), 4);
        Checks.due("purse", x.status(5), -3);
        x.days(1);
        Checks.due("shot", x.left(0, 2), 0);
        Checks.due("purse", x.status(5), -8);
        x.days(1);
        Checks.due("the second change", x.about(0, 7), 2);
        Checks.due("the place", x.about(0, 4), 1);
        x.days(3);
        Checks.due("all shot", x.about(0, 3), 0);
        Checks.due("days shot", x.about(0, 6), 4);
        Checks.due("purse", x.status(5), -26);
        x.days(10);
        Checks.due("not idle when it is shot", x.about(0, 5), 0);
        Checks.due("purse", x.status(5), -26);
    }

    private static void sharedCast() {
        StudioYears x = new StudioYears();
        int one = Checks.hire(x, 7, "w0");
        x.picture(0);
        x.picture(0);
        x.picture(0);
        x.scene(0, 1, 1 << one, 2);
        x.scene(1, 1, 1 << one, 1);
        x.scene(2, 1, 0, 1);
        Checks.fill(x, 0, 0);
        for (int i = 0; i < 3; i++) {
            x.begin(i, 0);
        }
        x.days(1);
        Checks.due("a change uses nobody", x.about(1, 7), 1);
        x.days(1);
        Checks.due("picture 0 shoots", x.about(0, 6), 1);
        Checks.due("picture 1 waits", x.about(1, 5), 1);
        Checks.due("picture 2 needs nobody", x.about(2, 6), 1);
        x.days(2);
        Checks.due("picture 0 is shot", x.about(0, 3), 0);
        Checks.due("picture 1 waited", x.about(1, 5), 2);
        Checks.due("picture 1 is shot", x.about(1, 6), 1);
    }

    private static void idleDays() {
        StudioYears x = new StudioYears();
        x.costs(0, 5);
        x.costs(1, 3);
        int one = x.person(7);
        x.picture(0);
        x.scene(0, 4, 1 << one, 1);
        Checks.fill(x, 0, 0);
        x.begin(0, 0);
        x.days(3);
        Checks.due("idle without a TERM", x.about(0, 5), 3);
        Checks.due("no place is changed", x.about(0, 4), -1);
        Checks.due("idle costs nothing", x.status(5), 0);
        Checks.write(x, 1, "y1w0");
        x.term(one, 1);
        Checks.fill(x, 2, 1, 0);
        x.ill(one, 2);
        x.days(1);
        Checks.due("DAY 3 is a good one", x.about(0, 4), 4);
        x.days(1);
        Checks.due("DAY 4 is an ill one", x.about(0, 5), 4);
        x.refuse(one);
        x.days(1);
        Checks.due("idle by suspension", x.about(0, 5), 5);
        x.recall(one);
        x.row(2, 0, 0);
        x.ill(one, 2);
        x.lend(one, 2, 0);
        x.days(3);
        Checks.due("idle by lending", x.about(0, 5), 7);
        Checks.due("then shot", x.about(0, 6), 1);
    }

    private static void shootingOutOfOrder() {
        StudioYears x = new StudioYears();
        int one = Checks.hire(x, 7, "w0");
        x.costs(1, 3);
        x.picture(0);
        x.scene(0, 1, 1 << one, 1);
        x.scene(0, 2, 0, 2);
        Checks.fill(x, 0, 0, 1);
        x.begin(0, 0);
        Checks.fill(x, 1, 1, 1, 0);
        x.ill(one, 1);
        x.days(2);
        Checks.due("the second scene goes ahead", x.left(0, 1), 1);
        x.days(1);
        Checks.due("back to the first one's place", x.about(0, 4), 1);
        x.days(1);
        Checks.due("away again", x.about(0, 4), 2);
        x.days(2);
        Checks.due("changes", x.about(0, 7), 4);
        Checks.due("purse", x.status(5), -12);
        Checks.due("left", x.about(0, 3), 1);
    }

    private static void retakes() {
        StudioYears x = new StudioYears();
        x.costs(0, 5);
        x.picture(0);
        x.scene(0, 1, 0, 2);
        x.scene(0, 2, 0, 1);
        Checks.due("no picture", x.retake(1, 0), -1);
        Checks.due("no scene", x.retake(0, 2), -1);
        Checks.due("not begun", x.retake(0, 0), -6);
        Checks.fill(x, 0, 1, 0);
        x.begin(0, 0);
        for (int left = 3; left <= 9; left++) {
            Checks.due("retake", x.retake(0, 0), left);
        }
        Checks.due("no room", x.retake(0, 0), -7);
        Checks.due("left", x.left(0, 0), 9);
        x.days(12);
        Checks.due("shot", x.about(0, 6), 10);
        Checks.due("changes", x.about(0, 7), 2);
        Checks.due("retake behind the end", x.retake(0, 0), 1);
        x.days(1);
        Checks.due("the place stands still", x.about(0, 7), 2);
        Checks.due("shot", x.about(0, 6), 11);
        Checks.due("purse", x.status(5), -55);
    }
}
