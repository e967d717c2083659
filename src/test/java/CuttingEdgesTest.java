/** Promises 20 and 32 to 43 at their edges: DRAFTS, THE CODE, REELS and PREVIEWS. */
public final class CuttingEdgesTest {
    public static void main(String[] args) {
        firstDraft();
        emptyDrafts();
        fullDrafts();
        fullToItsEnd();
        likeLinesOnce();
        leftOfTheOlderFirst();
        leftForGood();
        handsThroughDrafts();
        linesAreWhole();
        draftAsItIs();
        aFifth();
        codeAtTheEdges();
        mostToMend();
        reelLengths();
        reelFacts();
        reelLikes();
        reelLeastLength();
        reelOfTakesWithoutWorth();
        fullReel();
        reelTakeOfTheLatest();
        reelBehindAGreaterOne();
        cameAndLiked();
        nobodyCame();
        greatFractions();
        Checks.end();
    }

    private static StudioYears onePicture(int scenes) {
        StudioYears x = new StudioYears();
        x.picture(0);
        for (int i = 0; i < scenes; i++) {
            x.scene(0, 0, 0, 1);
        }
        return x;
    }

    private static int draft(StudioYears x, int hand, long... lines) {
        Checks.fillSort(x, 0, 3, lines);
        return x.draft(0, hand, 0);
    }

    private static void credits(StudioYears x, int... want) {
        for (int hand = 0; hand < 6; hand++) {
            Checks.due("CREDIT of " + hand, x.credit(0, hand), want[hand]);
        }
    }

    private static void firstDraft() {
        StudioYears x = onePicture(0);
        credits(x, 0, 0, 0, 0, 0, 0);
        Checks.due("nobody NAMED", x.named(0), 0);
        Checks.due("no DRAFT", x.about(0, 8), 0);
        Checks.due("nothing is KEPT by the first", draft(x, 5, 1, 1, 1), 0);
        credits(x, 0, 0, 0, 0, 0, 3);
        Checks.due("one DRAFT", x.about(0, 8), 1);
        x.picture(0);
        Checks.due("another PICTURE has its own", x.credit(1, 5), 0);
        Checks.due("its first", x.draft(1, 0, 0), 0);
        Checks.due("CREDIT there", x.credit(1, 0), 3);
        credits(x, 0, 0, 0, 0, 0, 3);
    }

    private static void emptyDrafts() {
        StudioYears x = onePicture(0);
        Checks.due("an empty first", draft(x, 0), 0);
        Checks.due("it counts", x.about(0, 8), 1);
        Checks.due("nobody NAMED", x.named(0), 0);
        Checks.due("behind an empty one", draft(x, 1, 4, 5), 0);
        credits(x, 0, 2, 0, 0, 0, 0);
        Checks.due("an empty one behind", draft(x, 2), 0);
        credits(x, 0, 0, 0, 0, 0, 0);
        Checks.due("nobody NAMED", x.named(0), 0);
        Checks.due("nothing comes back", draft(x, 3, 4, 5), 0);
        credits(x, 0, 0, 0, 2, 0, 0);
    }

    private static void fullDrafts() {
        StudioYears x = onePicture(0);
        long[] lines = new long[60];
        for (int i = 0; i < 60; i++) {
            lines[i] = i;
        }
        draft(x, 0, lines);
        Checks.due("all sixty", draft(x, 1, lines), 60);
        long first = lines[0];
        System.arraycopy(lines, 1, lines, 0, 59);
        lines[59] = first;
        Checks.due("one moved to the end", draft(x, 2, lines), 59);
        credits(x, 59, 0, 1, 0, 0, 0);
        for (int i = 0; i < 60; i++) {
            lines[i] = -lines[i] - 1;
        }
        Checks.due("none of sixty", draft(x, 3, lines), 0);
        credits(x, 0, 0, 0, 60, 0, 0);
        for (int number = 5; number <= 8; number++) {
            Checks.due("to the eighth", draft(x, 4, lines), 60);
            Checks.due("DRAFTS", x.about(0, 8), number);
        }
        Checks.due("no ninth", draft(x, 5, 1), -7);
        credits(x, 0, 0, 0, 60, 0, 0);
    }

    /** A full DRAFT that ends while lines of the older one are left, and the other way about. */
    private static void fullToItsEnd() {
        long[] older = new long[60];
        long[] newer = new long[60];
        for (int i = 0; i < 60; i++) {
            older[i] = i + 1;
            newer[i] = i;
        }
        StudioYears x = onePicture(0);
        draft(x, 0, older);
        Checks.due("moved down by one", draft(x, 1, newer), 59);
        credits(x, 59, 1, 0, 0, 0, 0);
        Checks.due("moved up by one", draft(x, 2, older), 59);
        credits(x, 59, 0, 1, 0, 0, 0);
        Checks.due("the first alone", draft(x, 3, 1), 1);
        Checks.due("and all behind it", draft(x, 4, older), 1);
        credits(x, 1, 0, 0, 0, 59, 0);
    }

    private static void likeLinesOnce() {
        StudioYears x = onePicture(0);
        draft(x, 0, 7);
        Checks.due("each once", draft(x, 1, 7, 7, 7), 1);
        credits(x, 1, 2, 0, 0, 0, 0);
        Checks.due("and back", draft(x, 2, 7, 7), 2);
        credits(x, 1, 1, 0, 0, 0, 0);
        Checks.due("and one", draft(x, 3, 7), 1);
        credits(x, 1, 0, 0, 0, 0, 0);
    }

    /** Where either of two lines could be KEPT, the older's first one is left. */
    private static void leftOfTheOlderFirst() {
        StudioYears x = onePicture(0);
        draft(x, 0, 1);
        draft(x, 1, 1, 2);
        Checks.due("one of two", draft(x, 2, 2, 1), 1);
        credits(x, 0, 1, 1, 0, 0, 0);
        StudioYears y = onePicture(0);
        draft(y, 0, 1, 2);
        draft(y, 1, 1, 2, 3);
        // 1 2 3 to 3 1 2: two can be KEPT, so the newer's 3 is left.
        Checks.due("two of three", draft(y, 2, 3, 1, 2), 2);
        credits(y, 2, 0, 1, 0, 0, 0);
        StudioYears z = onePicture(0);
        draft(z, 0, 1);
        draft(z, 1, 1, 2, 1);
        // 1 2 1 (0 1 1) to 2 1: the first 1 is left, the second is KEPT.
        Checks.due("two of three", draft(z, 2, 2, 1), 2);
        credits(z, 0, 2, 0, 0, 0, 0);
    }

    /** How many can be KEPT is asked of what is to come, not of lines that were left already. */
    private static void leftForGood() {
        StudioYears x = onePicture(0);
        draft(x, 0, 3, 4, 1, 7, 2);
        Checks.due("1 and 2", draft(x, 1, 1, 2, 3, 4), 2);
        credits(x, 2, 2, 0, 0, 0, 0);
        Checks.due("3 and 4 are the other's now", draft(x, 2, 3, 4), 2);
        credits(x, 0, 2, 0, 0, 0, 0);
    }

    private static void handsThroughDrafts() {
        StudioYears x = onePicture(0);
        draft(x, 0, 1, 2, 3, 4, 5, 6);
        for (int hand = 1; hand < 6; hand++) {
            long[] lines = {1, 2, 3, 4, 5, 6};
            for (int i = 0; i < hand; i++) {
                lines[i] = 100 + i + 1;
            }
            Checks.due("five KEPT", draft(x, hand, lines), 5);
        }
        credits(x, 1, 1, 1, 1, 1, 1);
        Checks.due("a sixth each: nobody", x.named(0), 0);
        Checks.due("the same HAND again", draft(x, 5, 101, 102, 103, 104, 105), 5);
        credits(x, 0, 1, 1, 1, 1, 1);
        Checks.due("a fifth each: all five", x.named(0), 62);
    }

    private static void linesAreWhole() {
        StudioYears x = onePicture(0);
        draft(x, 0, 1L << 32, 5, -1);
        Checks.fillSort(x, 1, 0, 0, 5, 255);
        Checks.due("numbers of bytes and longs", x.draft(0, 1, 1), 2);
        credits(x, 2, 1, 0, 0, 0, 0);
        Checks.due("low bits alone are not alike", draft(x, 2, 1L << 32, 5, (1L << 32) - 1), 1);
    }

    private static void draftAsItIs() {
        StudioYears x = onePicture(0);
        Checks.fill(x, 0, 1, 2);
        x.draft(0, 0, 0);
        x.set(0, 0, 9);
        credits(x, 2, 0, 0, 0, 0, 0);
        Checks.fill(x, 1, 1, 2);
        Checks.due("as it was then", x.draft(0, 1, 1), 2);
        x.row(1, 0, 0);
        credits(x, 2, 0, 0, 0, 0, 0);
    }

    /** For each size of a DRAFT: CREDIT just at a fifth, and one less. */
    private static void aFifth() {
        for (int all = 1; all <= 60; all++) {
            int fifth = (all + 4) / 5;
            named(all, fifth, true);
            named(all, fifth - 1, false);
        }
    }

    private static void named(int all, int lines, boolean want) {
        StudioYears x = onePicture(0);
        long[] older = new long[all];
        draft(x, 0, older);
        long[] newer = new long[all];
        for (int i = 0; i < lines; i++) {
            newer[i] = 1 + i;
        }
        draft(x, 3, newer);
        Checks.due("CREDIT", x.credit(0, 3), lines);
        Checks.due(lines + " of " + all, x.named(0) >> 3 & 1, want ? 1 : 0);
    }

    private static void codeAtTheEdges() {
        for (int mark = 0; mark < 4; mark++) {
            for (int most = 0; most <= 9; most++) {
                StudioYears x = onePicture(2);
                Checks.due("9 at first", x.code(mark, most), 9);
                for (int stands = 0; stands <= 9; stands++) {
                    x.mark(0, 1, mark, stands);
                    Checks.due("BARRED", x.barred(0, 1), stands > most ? 1 << mark : 0);
                    Checks.due("TO MEND", x.mend(0), Math.max(0, stands - most));
                    Checks.due("the other SCENE", x.barred(0, 0), 0);
                }
                Checks.due("what it was", x.code(mark, 0), most);
            }
        }
    }

    private static void mostToMend() {
        StudioYears x = onePicture(8);
        Checks.due("no marks", x.mend(0), 0);
        for (int mark = 0; mark < 4; mark++) {
            x.code(mark, 0);
            for (int scene = 0; scene < 8; scene++) {
                Checks.due("0 at first", x.mark(0, scene, mark, 9), 0);
            }
        }
        Checks.due("all of them", x.mend(0), 288);
        for (int scene = 0; scene < 8; scene++) {
            Checks.due("by all marks", x.barred(0, scene), 15);
        }
        x.picture(0);
        Checks.due("no SCENES", x.mend(1), 0);
    }

    private static void reelLengths() {
        StudioYears x = onePicture(2);
        x.take(0, 0, 1, 1, 0);
        x.take(0, 1, 99, 99, 0);
        int[][] cases = {{0, 0}, {1, 1}, {98, 1}, {99, 99}, {100, 100}, {400, 100}};
        for (int[] one : cases) {
            Checks.due("of LENGTH " + one[0], x.reel(0, one[0]), one[1]);
        }
        StudioYears y = onePicture(8);
        for (int scene = 0; scene < 8; scene++) {
            y.take(0, scene, 50, 1, 0);
        }
        Checks.due("all eight", y.reel(0, 400), 8);
        Checks.due("seven", y.reel(0, 399), 7);
        Checks.due("the last is none", y.reelTake(0, 7), -1);
        Checks.due("the first stays", y.reelTake(0, 0), 0);
        StudioYears z = onePicture(0);
        Checks.due("no SCENES", z.reel(0, 400), 0);
        StudioYears w = onePicture(3);
        Checks.due("no TAKES", w.reel(0, 400), 0);
        Checks.due("none", w.reelTake(0, 2), -1);
    }

    /** All pairs of facts, at the end of one and at the beginning of the next. */
    private static void reelFacts() {
        for (int end = 0; end <= 9; end++) {
            for (int begin = 0; begin <= 9; begin++) {
                StudioYears x = onePicture(2);
                x.take(0, 0, 1, 10, 10 * (9 - end) + end);
                x.take(0, 1, 1, 20, 10 * begin + (9 - begin));
                Checks.due("facts " + end + " and " + begin, x.reel(0, 9), end == begin ? 30 : 20);
                Checks.due("SCENE 0", x.reelTake(0, 0), end == begin ? 0 : -1);
            }
        }
    }

    private static void reelLikes() {
        StudioYears x = onePicture(3);
        for (int scene = 0; scene < 3; scene++) {
            for (int take = 0; take < 4; take++) {
                x.take(0, scene, 5, 5, 0);
            }
        }
        int[][] cases = {{15, 0, 0, 0}, {14, 0, 0, -1}, {9, 0, -1, -1}, {4, -1, -1, -1}};
        for (int[] one : cases) {
            x.reel(0, one[0]);
            for (int scene = 0; scene < 3; scene++) {
                Checks.due("the lesser TAKE, none last", x.reelTake(0, scene), one[1 + scene]);
            }
        }
        StudioYears y = onePicture(2);
        y.take(0, 0, 5, 5, 1);
        y.take(0, 0, 5, 5, 2);
        y.take(0, 1, 5, 5, 20);
        y.take(0, 1, 5, 5, 10);
        y.reel(0, 10);
        Checks.due("SCENE 0 ahead of SCENE 1", y.reelTake(0, 0), 0);
        Checks.due("so SCENE 1 has the greater", y.reelTake(0, 1), 1);
    }

    private static void reelLeastLength() {
        StudioYears x = onePicture(2);
        x.take(0, 0, 99, 50, 0);
        x.take(0, 0, 98, 50, 0);
        x.take(0, 1, 1, 0, 0);
        Checks.due("WORTH", x.reel(0, 400), 50);
        Checks.due("the least LENGTH", x.reelTake(0, 0), 1);
        Checks.due("nothing without WORTH", x.reelTake(0, 1), -1);
        x.take(0, 1, 99, 1, 0);
        Checks.due("WORTH ahead of LENGTH", x.reel(0, 400), 51);
        Checks.due("the longer one", x.reelTake(0, 1), 1);
    }

    private static void reelOfTakesWithoutWorth() {
        StudioYears x = onePicture(8);
        for (int scene = 0; scene < 8; scene++) {
            x.take(0, scene, 1, 0, 11 * scene);
        }
        Checks.due("no WORTH", x.reel(0, 400), 0);
        for (int scene = 0; scene < 8; scene++) {
            Checks.due("none is shorter", x.reelTake(0, scene), -1);
        }
    }

    /** Four TAKES of eight SCENES; one way alone joins them all. */
    private static void fullReel() {
        StudioYears x = onePicture(8);
        for (int scene = 0; scene < 8; scene++) {
            for (int take = 0; take < 4; take++) {
                boolean joins = take == scene % 4;
                int facts = joins ? 10 * scene + scene + 1 : 99;
                Checks.due("take", x.take(0, scene, 50, joins ? 99 : 90, facts), take);
            }
        }
        Checks.due("all join", x.reel(0, 400), 792);
        for (int scene = 0; scene < 8; scene++) {
            Checks.due("the one that joins", x.reelTake(0, scene), scene % 4);
        }
        Checks.due("without one of them nothing behind it joins", x.reel(0, 399), 693);
        Checks.due("so it is the last", x.reelTake(0, 7), -1);
    }

    private static void reelTakeOfTheLatest() {
        StudioYears x = onePicture(1);
        x.take(0, 0, 10, 10, 0);
        x.reel(0, 10);
        Checks.due("refused", x.reel(0, -1), -6);
        Checks.due("as before", x.reelTake(0, 0), 0);
        Checks.due("taken", x.reel(0, 9), 0);
        Checks.due("the latest", x.reelTake(0, 0), -1);
        x.reel(0, 10);
        x.scene(0, 0, 0, 1);
        x.take(0, 1, 1, 1, 0);
        Checks.due("a SCENE of later", x.reelTake(0, 1), -1);
        x.reel(0, 11);
        Checks.due("in the latest", x.reelTake(0, 1), 0);
    }

    /** What a great PICTURE left behind does not count for a small one. */
    private static void reelBehindAGreaterOne() {
        StudioYears x = onePicture(8);
        for (int scene = 0; scene < 8; scene++) {
            x.take(0, scene, 10, 99, 0);
        }
        x.picture(0);
        x.scene(1, 0, 0, 1);
        x.take(1, 0, 10, 5, 0);
        x.take(1, 0, 10, 4, 0);
        Checks.due("the great one", x.reel(0, 400), 792);
        Checks.due("the small one", x.reel(1, 400), 5);
        Checks.due("its TAKE", x.reelTake(1, 0), 0);
        Checks.due("the great one's as before", x.reelTake(0, 7), 0);
    }

    private static void cameAndLiked() {
        StudioYears x = onePicture(0);
        x.land(0, 99);
        x.picture(0);
        Checks.due("one alone, who liked it", x.preview(1, 0, 1, 1), 1);
        Checks.due("upper part", x.putRight(1, false), 1);
        Checks.due("lower part", x.putRight(1, true), 1);
        Checks.due("one", x.preview(0, 0, 1, 0), 1);
        fraction(x, 0, 1);
        Checks.due("two", x.preview(0, 0, 1, 1), 2);
        fraction(x, 1, 2);
        for (int i = 0; i < 10; i++) {
            x.preview(0, 0, 99, 99);
        }
        fraction(x, 991, 992);
        Checks.due("eight are too many", x.preview(0, 0, 8, 8), -7);
        Checks.due("seven are not", x.preview(0, 0, 7, 7), 999);
        fraction(x, 998, 999);
        Checks.due("no more", x.preview(0, 0, 1, 1), -7);
        fraction(x, 998, 999);
    }

    /** SHARES of KINDS that didn't come don't count; nor do KINDS that came without a SHARE. */
    private static void nobodyCame() {
        StudioYears x = onePicture(0);
        for (int kind = 0; kind < 4; kind++) {
            Checks.due("0 at first", x.land(kind, 99), 0);
        }
        fraction(x, 0, 1);
        x.preview(0, 3, 4, 1);
        fraction(x, 1, 4);
        x.land(3, 0);
        fraction(x, 0, 1);
        x.preview(0, 2, 2, 1);
        fraction(x, 1, 2);
        x.land(3, 1);
        fraction(x, 199, 400);
        Checks.due("no such PICTURE", x.putRight(1, false), -1000);
        Checks.due("no such PICTURE", x.putRight(1, true), -1000);
        Checks.due("nothing is refused", x.status(11), 0);
    }

    private static void greatFractions() {
        int[] came = {997, 991, 983, 977};
        StudioYears x = onePicture(0);
        long lower = 0;
        for (int kind = 0; kind < 4; kind++) {
            x.land(kind, 99 - kind % 2);
            lower += 99 - kind % 2;
            int rest = came[kind];
            for (int i = 0; i < 11 && rest > 0; i++) {
                int some = Math.min(99, rest);
                x.preview(0, kind, some, i == 0 ? 1 : 0);
                rest -= some;
            }
        }
        long upper = 0;
        long product = 1;
        for (int kind = 0; kind < 4; kind++) {
            upper = upper * came[kind] + (99 - kind % 2) * product;
            product *= came[kind];
        }
        long under = product * lower;
        long common = 1;
        for (long d = 1; d <= lower; d++) {
            common = upper % d == 0 && under % d == 0 ? d : common;
        }
        fraction(x, upper / common, under / common);
    }

    private static void fraction(StudioYears x, long upper, long lower) {
        Checks.due("upper part", x.putRight(0, false), upper);
        Checks.due("lower part", x.putRight(0, true), lower);
    }
}
