/** Promises 20 and 32 to 43: HANDS, THE CODE, TAKES, REELS and PREVIEWS. */
public final class CuttingTest {
    public static void main(String[] args) {
        drafts();
        draftRefusals();
        keptByWalking();
        naming();
        marks();
        code();
        takes();
        reels();
        reelAmongLikes();
        reelOverGaps();
        reelStays();
        land();
        previews();
        putRight();
        Checks.end();
    }

    private static void drafts() {
        StudioYears x = new StudioYears();
        x.picture(0);
        Checks.due("no draft yet", x.credit(0, 0), 0);
        Checks.due("nobody named yet", x.named(0), 0);
        Checks.fill(x, 0, 5, 6, 7);
        Checks.due("the first", x.draft(0, 3, 0), 0);
        Checks.due("credit", x.credit(0, 3), 3);
        x.set(0, 0, 9);
        Checks.due("the draft is its own", x.credit(0, 3), 3);
        Checks.due("kept of its own hand", x.draft(0, 3, 0), 2);
        Checks.due("credit", x.credit(0, 3), 3);
        Checks.fillSort(x, 1, 3, 7, 9, 7);
        Checks.due("of another sort", x.draft(0, 0, 1), 2);
        Checks.due("credit", x.credit(0, 3), 2);
        Checks.due("credit", x.credit(0, 0), 1);
        Checks.due("drafts", x.about(0, 8), 3);
        x.row(1, 0, 0);
        Checks.due("an empty one", x.draft(0, 1, 1), 0);
        Checks.due("credit", x.credit(0, 3), 0);
        Checks.due("nobody", x.named(0), 0);
        Checks.due("behind an empty one", x.draft(0, 2, 0), 0);
        Checks.due("credit", x.credit(0, 2), 3);
        Checks.fillSort(x, 1, 3, 9 + (1L << 32), 6, 7);
        Checks.due("longs are whole", x.draft(0, 4, 1), 2);
    }

    private static void draftRefusals() {
        StudioYears x = new StudioYears();
        x.picture(0);
        x.row(0, 0, 60);
        Checks.due("no picture", x.draft(1, 0, 0), -1);
        Checks.due("hand below", x.draft(0, -1, 0), -1);
        Checks.due("hand above", x.draft(0, 6, 0), -1);
        Checks.due("no shelf", x.draft(0, 0, 8), -1);
        Checks.due("nothing", x.draft(0, 0, 1), -3);
        x.show(1, 0);
        Checks.due("a picture", x.draft(0, 0, 1), -2);
        for (int i = 0; i < 8; i++) {
            Checks.due("draft", x.draft(0, 5, 0), i == 0 ? 0 : 60);
        }
        Checks.due("a picture goes ahead of room", x.draft(0, 0, 1), -2);
        Checks.due("no room", x.draft(0, 0, 0), -7);
        Checks.due("drafts", x.about(0, 8), 8);
        Checks.due("credit", x.credit(0, 5), 60);
        Checks.due("credit of no picture", x.credit(1, 0), -1);
        Checks.due("credit of no hand", x.credit(0, 6), -1);
        Checks.due("credit of no hand", x.credit(0, -1), -1);
        Checks.due("named of no picture", x.named(1), -1);
        Checks.due("-1", x.status(11), 5);
    }

    private static void keptByWalking() {
        // Older 1 2 with HANDS 0 0, then 2 1: one can be KEPT. Older 1 is left: 2 is KEPT.
        StudioYears x = new StudioYears();
        x.picture(0);
        Checks.fill(x, 0, 1);
        x.draft(0, 0, 0);
        Checks.fill(x, 0, 1, 2);
        x.draft(0, 1, 0);
        Checks.fill(x, 0, 2, 1);
        Checks.due("kept", x.draft(0, 2, 0), 1);
        Checks.due("the line of 1", x.credit(0, 0), 0);
        Checks.due("the line of 2", x.credit(0, 1), 1);
        Checks.due("the new hand's", x.credit(0, 2), 1);
        // Of two like lines the first that is met is KEPT.
        StudioYears y = new StudioYears();
        y.picture(0);
        Checks.fill(y, 0, 4);
        y.draft(0, 0, 0);
        Checks.fill(y, 0, 4, 4);
        y.draft(0, 1, 0);
        Checks.fill(y, 0, 4);
        Checks.due("kept", y.draft(0, 2, 0), 1);
        Checks.due("the first hand's", y.credit(0, 0), 1);
    }

    private static void naming() {
        StudioYears x = new StudioYears();
        x.picture(0);
        Checks.fill(x, 0, 1, 2, 3, 4, 5, 6);
        x.draft(0, 0, 0);
        Checks.fill(x, 0, 1, 2, 3, 4, 5, 9);
        x.draft(0, 5, 0);
        Checks.due("a sixth isn't named", x.named(0), 1);
        Checks.fill(x, 0, 1, 2, 3, 4, 9);
        x.draft(0, 3, 0);
        Checks.due("a fifth is named", x.named(0), 33);
    }

    private static void marks() {
        StudioYears x = new StudioYears();
        x.picture(0);
        x.scene(0, 0, 0, 1);
        Checks.due("no picture", x.mark(1, 0, 0, 0), -1);
        Checks.due("no scene", x.mark(0, 1, 0, 0), -1);
        Checks.due("mark below", x.mark(0, 0, -1, 0), -1);
        Checks.due("no mark", x.mark(0, 0, 4, 10), -1);
        Checks.due("n below", x.mark(0, 0, 0, -1), -6);
        Checks.due("n above", x.mark(0, 0, 0, 10), -6);
        Checks.due("mark", x.mark(0, 0, 3, 9), 0);
        Checks.due("what it was", x.mark(0, 0, 3, 0), 9);
        Checks.due("another mark", x.mark(0, 0, 2, 1), 0);
    }

    private static void code() {
        StudioYears x = new StudioYears();
        x.picture(0);
        x.scene(0, 0, 0, 1);
        x.scene(0, 0, 0, 1);
        Checks.due("no mark", x.code(4, 11), -1);
        Checks.due("mark below", x.code(-1, 0), -1);
        Checks.due("n below", x.code(0, -1), -6);
        Checks.due("n above", x.code(0, 10), -6);
        Checks.due("no scene", x.barred(0, 2), -1);
        Checks.due("no picture", x.barred(1, 0), -1);
        Checks.due("no picture", x.mend(1), -1);
        x.mark(0, 0, 0, 9);
        x.mark(0, 0, 3, 4);
        x.mark(0, 1, 3, 3);
        Checks.due("nothing barred at first", x.barred(0, 0), 0);
        Checks.due("nothing to mend", x.mend(0), 0);
        Checks.due("code", x.code(3, 3), 9);
        Checks.due("barred", x.barred(0, 0), 8);
        Checks.due("as many may stand", x.barred(0, 1), 0);
        Checks.due("to mend", x.mend(0), 1);
        Checks.due("code", x.code(0, 0), 9);
        Checks.due("barred by two", x.barred(0, 0), 9);
        Checks.due("to mend", x.mend(0), 10);
        Checks.due("what it was", x.code(3, 9), 3);
        Checks.due("to mend", x.mend(0), 9);
    }

    private static void takes() {
        StudioYears x = new StudioYears();
        x.picture(0);
        x.scene(0, 0, 0, 1);
        Checks.due("no picture", x.take(1, 0, 0, 0, 0), -1);
        Checks.due("no scene", x.take(0, 1, 1, 0, 0), -1);
        Checks.due("length below", x.take(0, 0, 0, 0, 0), -6);
        Checks.due("length above", x.take(0, 0, 100, 0, 0), -6);
        Checks.due("worth below", x.take(0, 0, 1, -1, 0), -6);
        Checks.due("worth above", x.take(0, 0, 1, 100, 0), -6);
        Checks.due("facts below", x.take(0, 0, 1, 0, -1), -6);
        Checks.due("facts above", x.take(0, 0, 1, 0, 100), -6);
        Checks.due("take", x.take(0, 0, 1, 0, 0), 0);
        Checks.due("take", x.take(0, 0, 99, 99, 99), 1);
        Checks.due("take", x.take(0, 0, 9, 9, 9), 2);
        Checks.due("take", x.take(0, 0, 9, 9, 9), 3);
        Checks.due("wrong goes ahead of room", x.take(0, 0, 0, 9, 9), -6);
        Checks.due("no room", x.take(0, 0, 9, 9, 9), -7);
    }

    private static void reels() {
        StudioYears x = new StudioYears();
        x.picture(0);
        Checks.due("no picture", x.reel(1, -1), -1);
        Checks.due("length below", x.reel(0, -1), -6);
        Checks.due("length above", x.reel(0, 401), -6);
        Checks.due("no scenes", x.reel(0, 400), 0);
        for (int i = 0; i < 8; i++) {
            x.scene(0, 0, 0, 1);
            x.take(0, i, 99, 99, 11);
        }
        Checks.due("four of ninety-nine", x.reel(0, 400), 396);
        Checks.due("three of them", x.reel(0, 395), 297);
        Checks.due("the first ones", x.reelTake(0, 0), 0);
        Checks.due("the first ones", x.reelTake(0, 2), 0);
        Checks.due("none", x.reelTake(0, 3), -1);
        Checks.due("nothing fits", x.reel(0, 98), 0);
        Checks.due("none", x.reelTake(0, 0), -1);
        Checks.due("one fits", x.reel(0, 99), 99);
    }

    private static void reelAmongLikes() {
        StudioYears x = new StudioYears();
        x.picture(0);
        x.scene(0, 0, 0, 1);
        x.scene(0, 0, 0, 1);
        x.take(0, 0, 9, 20, 11);
        x.take(0, 0, 8, 20, 11);
        x.take(0, 0, 8, 20, 12);
        x.take(0, 1, 1, 0, 11);
        Checks.due("worth", x.reel(0, 400), 20);
        Checks.due("the least length, then the lesser take", x.reelTake(0, 0), 1);
        Checks.due("worth nothing, so none", x.reelTake(0, 1), -1);
        x.take(0, 1, 8, 20, 22);
        Checks.due("worth", x.reel(0, 8), 20);
        Checks.due("scene 0 ahead of none", x.reelTake(0, 0), 1);
        Checks.due("none", x.reelTake(0, 1), -1);
        Checks.due("worth", x.reel(0, 16), 40);
        Checks.due("the one that joins", x.reelTake(0, 0), 2);
        Checks.due("the one that joins", x.reelTake(0, 1), 1);
    }

    private static void reelOverGaps() {
        StudioYears x = new StudioYears();
        x.picture(0);
        for (int i = 0; i < 3; i++) {
            x.scene(0, 0, 0, 1);
        }
        x.take(0, 0, 1, 10, 12);
        x.take(0, 2, 1, 11, 34);
        Checks.due("two that follow over a gap must be alike", x.reel(0, 9), 11);
        Checks.due("scene 0", x.reelTake(0, 0), -1);
        x.take(0, 1, 1, 0, 23);
        Checks.due("a take of no worth may join", x.reel(0, 9), 21);
        Checks.due("it stands", x.reelTake(0, 1), 0);
    }

    private static void reelStays() {
        StudioYears x = new StudioYears();
        x.picture(0);
        x.picture(0);
        x.scene(0, 0, 0, 1);
        x.scene(1, 0, 0, 1);
        x.take(0, 0, 5, 5, 55);
        x.take(1, 0, 5, 5, 55);
        Checks.due("no reel yet", x.reelTake(0, 0), -1);
        x.reel(0, 5);
        x.reel(1, 4);
        x.reel(0, 401);
        x.take(0, 0, 4, 9, 55);
        Checks.due("the latest of its own", x.reelTake(0, 0), 0);
        Checks.due("the other's", x.reelTake(1, 0), -1);
        x.scene(0, 0, 0, 1);
        Checks.due("a later scene", x.reelTake(0, 1), -1);
        Checks.due("no scene", x.reelTake(0, 2), -1);
        Checks.due("no scene", x.reelTake(0, -1), -1);
        Checks.due("no picture", x.reelTake(2, 0), -1);
        Checks.due("nothing refused", x.status(11), 0);
    }

    private static void land() {
        StudioYears x = new StudioYears();
        Checks.due("kind above", x.land(4, -1), -1);
        Checks.due("kind below", x.land(-1, 0), -1);
        Checks.due("share below", x.land(0, -1), -6);
        Checks.due("share above", x.land(0, 100), -6);
        Checks.due("share", x.land(3, 99), 0);
        Checks.due("what it was", x.land(3, 0), 99);
    }

    private static void previews() {
        StudioYears x = new StudioYears();
        x.picture(0);
        x.picture(0);
        Checks.due("no picture", x.preview(2, 0, 1, 1), -1);
        Checks.due("no kind", x.preview(0, 4, 0, 1), -1);
        Checks.due("kind below", x.preview(0, -1, 1, 1), -1);
        Checks.due("came below", x.preview(0, 0, 0, 0), -6);
        Checks.due("came above", x.preview(0, 0, 100, 0), -6);
        Checks.due("liked below", x.preview(0, 0, 5, -1), -6);
        Checks.due("liked above", x.preview(0, 0, 5, 6), -6);
        for (int i = 1; i <= 10; i++) {
            Checks.due("came", x.preview(0, 0, 99, 99), 99 * i);
        }
        Checks.due("wrong goes ahead of room", x.preview(0, 0, 10, 11), -6);
        Checks.due("no room", x.preview(0, 0, 10, 0), -7);
        Checks.due("999", x.preview(0, 0, 9, 0), 999);
        Checks.due("no room", x.preview(0, 0, 1, 0), -7);
        Checks.due("another kind", x.preview(0, 1, 1, 1), 1);
        Checks.due("another picture", x.preview(1, 0, 1, 0), 1);
    }

    private static void putRight() {
        StudioYears x = new StudioYears();
        x.picture(0);
        fraction(x, 0, 0, 1);
        fraction(x, 1, -1000, -1000);
        fraction(x, -1, -1000, -1000);
        x.preview(0, 0, 4, 2);
        fraction(x, 0, 0, 1);
        x.land(0, 7);
        fraction(x, 0, 1, 2);
        x.land(1, 93);
        fraction(x, 0, 1, 2);
        x.preview(0, 1, 3, 0);
        fraction(x, 0, 7, 200);
        x.preview(0, 2, 9, 9);
        fraction(x, 0, 7, 200);
        x.preview(0, 1, 3, 6 / 2);
        fraction(x, 0, 1, 2);
        x.land(0, 0);
        x.land(1, 0);
        fraction(x, 0, 0, 1);
        x.land(2, 1);
        fraction(x, 0, 1, 1);
        Checks.due("nothing refused", x.status(11), 0);
    }

    private static void fraction(StudioYears x, int picture, long upper, long lower) {
        Checks.due("upper part", x.putRight(picture, false), upper);
        Checks.due("lower part", x.putRight(picture, true), lower);
    }
}
