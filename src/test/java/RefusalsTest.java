import java.util.function.Supplier;

/**
 * Where several REFUSALS would fit, the first in their order is due; and whatever is refused changes
 * nothing but how many there were.
 */
public final class RefusalsTest {
    private static final Supplier<StudioYears> MID = Stages::midYear;

    public static void main(String[] args) {
        stage();
        rows();
        copies();
        kinds();
        terms();
        people();
        pictures();
        orders();
        full();
        hands();
        cutting();
        halls();
        bookings();
        takings();
        plans();
        counting();
        Checks.end();
    }

    private static void refused(String name, Stages.Call call, int want) {
        Stages.refused(name, MID, call, want);
    }

    /** What the refusals below build on does stand. */
    private static void stage() {
        StudioYears x = Stages.midYear();
        int[] under = {1, 1, 1, 0, 0};
        int[] suspended = {0, 1, 0, 0, 0};
        for (int who = 0; who < 5; who++) {
            Checks.due("UNDER " + who, x.who(who, 2), under[who]);
            Checks.due("SUSPENDED " + who, x.who(who, 3), suspended[who]);
            Checks.due("LENT " + who, x.who(who, 4), who == 2 ? 764 : -1);
        }
        int[] holds = {100, 102, 100, 1, -1, 103, 100, 100};
        for (int s = 0; s < 8; s++) {
            Checks.due("holds " + s, x.holds(s), holds[s]);
        }
        int[] scenes = {2, 2, 0, 8};
        for (int picture = 0; picture < 4; picture++) {
            Checks.due("scenes of " + picture, x.about(picture, 1), scenes[picture]);
            Checks.due("begun " + picture, x.about(picture, 2), picture == 0 ? 1 : 0);
        }
        Checks.due("drafts", x.about(1, 8), 8);
        Checks.due("showings", x.status(9), 3);
        for (int refusal = 11; refusal <= 17; refusal++) {
            Checks.due("nothing refused yet", x.status(refusal), 0);
        }
    }

    private static void rows() {
        refused("row: shelf ahead of size", x -> x.row(8, 0, -1), -1);
        refused("row: shelf ahead of sort", x -> x.row(-1, 4, 1), -1);
        refused("row: shelf ahead of room", x -> x.row(8, 0, 61), -1);
        refused("row: size ahead of sort", x -> x.row(0, 4, -1), -4);
        refused("row: sort ahead of room", x -> x.row(0, -1, 61), -6);
        refused("row: sort", x -> x.row(0, 4, 2), -6);
        refused("row: room", x -> x.row(0, 0, 61), -7);
        refused("set: shelf", x -> x.set(8, -1, 5), -1);
        refused("set: a picture ahead of an element", x -> x.set(3, -1, 5), -2);
        refused("set: nothing ahead of an element", x -> x.set(4, 99, 5), -3);
        refused("set: an element", x -> x.set(0, 2, 5), -5);
        refused("set: an element of an empty row", x -> x.set(6, 0, 5), -5);
        refused("show: shelf and picture", x -> x.show(8, 4), -1);
        refused("show: a picture that isn't there", x -> x.show(0, 4), -1);
        refused("show: below NONE", x -> x.show(0, -2), -1);
    }

    private static void copies() {
        refused("copy: p ahead of a picture", x -> x.copy(8, 3, 0, 0, 1), -1);
        refused("copy: q ahead of a picture", x -> x.copy(3, -1, 0, 0, 1), -1);
        refused("copy: q ahead of nothing", x -> x.copy(4, 8, 0, 0, 1), -1);
        refused("copy: p ahead of a size", x -> x.copy(-1, 0, 0, 0, -1), -1);
        refused("copy: a picture ahead of nothing", x -> x.copy(3, 4, 0, 0, 1), -2);
        refused("copy: nothing, yet a picture", x -> x.copy(4, 3, 0, 0, 1), -2);
        refused("copy: a picture ahead of a size", x -> x.copy(0, 3, 0, 0, -1), -2);
        refused("copy: a picture ahead of an element", x -> x.copy(3, 0, 9, 0, 1), -2);
        refused("copy: a picture to itself", x -> x.copy(3, 3, 0, 0, 0), -2);
        refused("copy: two sorts ahead of a size", x -> x.copy(0, 1, 0, 0, -1), -2);
        refused("copy: two sorts ahead of an element", x -> x.copy(5, 0, 0, 9, 1), -2);
        refused("copy: two sorts, even of none", x -> x.copy(0, 5, 0, 0, 0), -2);
        refused("copy: two sorts, one of them empty", x -> x.copy(1, 6, 0, 0, 0), -2);
        refused("copy: from nothing ahead of a size", x -> x.copy(4, 0, 0, 0, -1), -3);
        refused("copy: to nothing ahead of an element", x -> x.copy(0, 4, -1, 0, 1), -3);
        refused("copy: nothing to itself", x -> x.copy(4, 4, 0, 0, 0), -3);
        refused("copy: a size ahead of i", x -> x.copy(0, 2, -1, 0, -1), -4);
        refused("copy: a size ahead of j", x -> x.copy(0, 2, 0, 99, -1), -4);
        refused("copy: i", x -> x.copy(0, 2, -1, 0, 1), -5);
        refused("copy: j", x -> x.copy(0, 2, 0, -1, 1), -5);
        refused("copy: the end of p", x -> x.copy(0, 2, 1, 0, 2), -5);
        refused("copy: the end of q", x -> x.copy(2, 0, 0, 0, 3), -5);
        refused("copy: from an empty row", x -> x.copy(6, 0, 0, 0, 1), -5);
        refused("copy: to an empty row", x -> x.copy(0, 6, 0, 0, 1), -5);
        refused("copy: beyond all ints", x -> x.copy(0, 2, Integer.MAX_VALUE, 0, Integer.MAX_VALUE), -5);
    }

    private static void kinds() {
        refused("kindIn: shelf", x -> x.kindIn(8, 0), -1);
        refused("kindIn: kind ahead of a row", x -> x.kindIn(0, 6), -1);
        refused("kindIn: kind ahead of nothing", x -> x.kindIn(4, -1), -1);
        refused("kindIn: kind of a picture", x -> x.kindIn(3, 6), -1);
        refused("kindIn: a row", x -> x.kindIn(0, 0), -2);
        refused("kindIn: an empty row", x -> x.kindIn(6, 0), -2);
        refused("kindIn: a programme is no series", x -> x.kindIn(3, 2), -2);
        refused("kindIn: nothing", x -> x.kindIn(4, 0), -3);
    }

    private static void terms() {
        refused("term(): one ahead of a picture", x -> x.term(5, 3), -1);
        refused("term(): one ahead of nothing", x -> x.term(-1, 4), -1);
        refused("term(): one ahead of a fault", x -> x.term(5, 2), -1);
        refused("term(): shelf ahead of UNDER", x -> x.term(0, 8), -1);
        refused("term(): a picture", x -> x.term(3, 3), -2);
        refused("term(): a picture ahead of UNDER", x -> x.term(0, 3), -2);
        refused("term(): nothing", x -> x.term(3, 4), -3);
        refused("term(): nothing ahead of UNDER", x -> x.term(0, 4), -3);
        refused("term(): a fault", x -> x.term(3, 2), -6);
        refused("term(): an empty row", x -> x.term(4, 6), -6);
        refused("term(): UNDER", x -> x.term(0, 0), -6);
        refused("term(): UNDER and SUSPENDED", x -> x.term(1, 0), -6);
        refused("term(): UNDER and LENT", x -> x.term(2, 0), -6);
        refused("term(): UNDER, and a fault", x -> x.term(0, 2), -6);
        refused("ill: one ahead of a picture", x -> x.ill(5, 3), -1);
        refused("ill: one ahead of nothing", x -> x.ill(5, 4), -1);
        refused("ill: shelf", x -> x.ill(0, 8), -1);
        refused("ill: a picture", x -> x.ill(0, 3), -2);
        refused("ill: nothing", x -> x.ill(0, 4), -3);
    }

    private static void people() {
        refused("law: letter y", x -> x.law(5, 400), -6);
        refused("law: a day gone by", x -> x.law(0, 363), -6);
        refused("refuse: nobody", x -> x.refuse(5), -1);
        refused("refuse: SUSPENDED", x -> x.refuse(1), -6);
        refused("refuse: LENT", x -> x.refuse(2), -6);
        refused("refuse: no TERM yet", x -> x.refuse(3), -6);
        refused("refuse: the TERM has ended", x -> x.refuse(4), -6);
        refused("recall: nobody", x -> x.recall(5), -1);
        refused("recall: at work", x -> x.recall(0), -6);
        refused("recall: LENT", x -> x.recall(2), -6);
        refused("recall: no TERM yet", x -> x.recall(3), -6);
        refused("recall: the TERM has ended", x -> x.recall(4), -6);
        refused("lend: one ahead of n", x -> x.lend(5, 0, 1), -1);
        refused("lend: one ahead of a price", x -> x.lend(-1, 1, -1), -1);
        refused("lend: SUSPENDED", x -> x.lend(1, 1, 1), -6);
        refused("lend: LENT", x -> x.lend(2, 1, 1), -6);
        refused("lend: no TERM yet", x -> x.lend(3, 1, 1), -6);
        refused("lend: the TERM has ended", x -> x.lend(4, 1, 1), -6);
    }

    private static void pictures() {
        refused("scene: picture ahead of a place", x -> x.scene(4, 10, 0, 1), -1);
        refused("scene: a bit of none ahead of a place", x -> x.scene(1, 10, 32, 1), -1);
        refused("scene: a bit of none ahead of days", x -> x.scene(1, 0, -1, 0), -1);
        refused("scene: a bit of none ahead of begun", x -> x.scene(0, 0, 32, 1), -1);
        refused("scene: a bit of none ahead of room", x -> x.scene(3, 0, 32, 1), -1);
        refused("scene: begun", x -> x.scene(0, 0, 1, 1), -6);
        refused("scene: a place ahead of room", x -> x.scene(3, 10, 1, 1), -6);
        refused("scene: days ahead of room", x -> x.scene(3, 0, 1, 5), -6);
        refused("scene: room", x -> x.scene(3, 0, 1, 1), -7);
        refused("mark: picture ahead of n", x -> x.mark(4, 0, 0, 10), -1);
        refused("mark: scene ahead of n", x -> x.mark(1, 2, 0, 10), -1);
        refused("mark: mark ahead of n", x -> x.mark(1, 0, 4, -1), -1);
        refused("mark: n", x -> x.mark(1, 0, 2, 10), -6);
        refused("costs: what and n", x -> x.costs(2, 1000), -6);
    }

    private static void orders() {
        refused("best: picture", x -> x.best(4), -1);
        refused("best: no scenes", x -> x.best(2), -6);
        refused("bound: picture", x -> x.bound(4), -1);
        refused("judge: picture ahead of a picture", x -> x.judge(4, 3), -1);
        refused("judge: picture ahead of nothing", x -> x.judge(4, 4), -1);
        refused("judge: shelf", x -> x.judge(1, 8), -1);
        refused("judge: a picture", x -> x.judge(1, 3), -2);
        refused("judge: nothing", x -> x.judge(1, 4), -3);
        refused("judge: too few", x -> x.judge(3, 1), -6);
        refused("judge: none of two", x -> x.judge(1, 6), -6);
        refused("judge: too many", x -> x.judge(1, 5), -6);
        refused("judge: letters", x -> x.judge(1, 0), -6);
        refused("begin: picture ahead of a picture", x -> x.begin(4, 3), -1);
        refused("begin: shelf ahead of begun", x -> x.begin(0, 8), -1);
        refused("begin: a picture ahead of begun", x -> x.begin(0, 3), -2);
        refused("begin: a picture ahead of no scenes", x -> x.begin(2, 3), -2);
        refused("begin: nothing ahead of begun", x -> x.begin(0, 4), -3);
        refused("begin: nothing ahead of no scenes", x -> x.begin(2, 4), -3);
        refused("begin: begun", x -> x.begin(0, 1), -6);
        refused("begin: no scenes", x -> x.begin(2, 6), -6);
        refused("begin: no order", x -> x.begin(1, 0), -6);
        refused("retake: picture", x -> x.retake(4, 0), -1);
        refused("retake: scene ahead of not begun", x -> x.retake(1, 2), -1);
        refused("retake: no scene of a begun one", x -> x.retake(0, 2), -1);
        refused("retake: no scene at all", x -> x.retake(2, 0), -1);
        refused("retake: not begun", x -> x.retake(1, 0), -6);
    }

    /** Sixteen of PEOPLE, eight LAWS and PICTURES, six HALLS; a SCENE with nine DAYS LEFT. */
    private static StudioYears fullWorks() {
        StudioYears x = Stages.midYear();
        for (int i = 0; i < 16; i++) {
            x.person(7);
            x.law(i % 5, 900);
            x.picture(i % 6);
            x.hall(i % 3, i % 4, i);
            x.retake(0, 0);
        }
        return x;
    }

    private static void full() {
        Supplier<StudioYears> full = RefusalsTest::fullWorks;
        Stages.refused("person: pay ahead of room", full, x -> x.person(0), -6);
        Stages.refused("person: pay ahead of room", full, x -> x.person(1000), -6);
        Stages.refused("person: room", full, x -> x.person(1), -7);
        Stages.refused("law: letter ahead of room", full, x -> x.law(5, 900), -6);
        Stages.refused("law: day ahead of room", full, x -> x.law(0, 363), -6);
        Stages.refused("law: room", full, x -> x.law(0, 900), -7);
        Stages.refused("picture: kind ahead of room", full, x -> x.picture(6), -1);
        Stages.refused("picture: room", full, x -> x.picture(0), -7);
        Stages.refused("hall: town ahead of room", full, x -> x.hall(3, 0, 0), -1);
        Stages.refused("hall: rank ahead of room", full, x -> x.hall(0, 4, 0), -6);
        Stages.refused("hall: part ahead of room", full, x -> x.hall(0, 0, 91), -6);
        Stages.refused("hall: room", full, x -> x.hall(0, 0, 0), -7);
        Stages.refused("retake: room", full, x -> x.retake(0, 0), -7);
        Stages.refused("plan: stages ahead of room", full, x -> x.plan(0), -6);
        Stages.refused("plan: stages ahead of room", full, x -> x.plan(4), -6);
        Stages.refused("plan: room", full, x -> x.plan(1), -7);
    }

    private static void hands() {
        refused("draft: picture ahead of a picture", x -> x.draft(4, 0, 3), -1);
        refused("draft: hand ahead of nothing", x -> x.draft(1, 6, 4), -1);
        refused("draft: hand ahead of room", x -> x.draft(1, -1, 0), -1);
        refused("draft: shelf ahead of room", x -> x.draft(1, 0, 8), -1);
        refused("draft: a picture ahead of room", x -> x.draft(1, 0, 3), -2);
        refused("draft: a picture", x -> x.draft(2, 0, 3), -2);
        refused("draft: nothing ahead of room", x -> x.draft(1, 0, 4), -3);
        refused("draft: nothing", x -> x.draft(2, 0, 4), -3);
        refused("draft: room", x -> x.draft(1, 0, 0), -7);
        refused("draft: room even for an empty one", x -> x.draft(1, 0, 6), -7);
        refused("named: picture", x -> x.named(4), -1);
    }

    private static void cutting() {
        refused("code: mark ahead of n", x -> x.code(4, 10), -1);
        refused("code: n", x -> x.code(3, 10), -6);
        refused("barred: scene", x -> x.barred(2, 0), -1);
        refused("mend: picture", x -> x.mend(-1), -1);
        refused("take: picture ahead of a length", x -> x.take(4, 0, 0, 0, 0), -1);
        refused("take: scene ahead of a length", x -> x.take(1, 2, 0, 0, 0), -1);
        refused("take: length ahead of room", x -> x.take(1, 0, 0, 0, 0), -6);
        refused("take: worth ahead of room", x -> x.take(1, 0, 1, 100, 0), -6);
        refused("take: facts ahead of room", x -> x.take(1, 0, 1, 0, 100), -6);
        refused("take: room", x -> x.take(1, 0, 1, 99, 0), -7);
        refused("reel: picture ahead of a length", x -> x.reel(4, 401), -1);
        refused("reel: length", x -> x.reel(1, 401), -6);
        refused("land: kind ahead of a share", x -> x.land(4, 100), -1);
        refused("land: share", x -> x.land(0, 100), -6);
        refused("preview: picture ahead of came", x -> x.preview(4, 0, 0, 0), -1);
        refused("preview: kind ahead of came", x -> x.preview(1, 4, 100, 0), -1);
        refused("preview: came ahead of room", x -> x.preview(1, 0, 100, 0), -6);
        refused("preview: liked ahead of room", x -> x.preview(1, 0, 10, 11), -6);
        refused("preview: liked below ahead of room", x -> x.preview(1, 0, 10, -1), -6);
        refused("preview: room", x -> x.preview(1, 0, 10, 10), -7);
    }

    private static void halls() {
        refused("hall: town ahead of rank", x -> x.hall(3, 4, 0), -1);
        refused("hall: town ahead of part", x -> x.hall(-1, 0, 91), -1);
        refused("clearance: below", x -> x.clearance(-1), -6);
        refused("clearance: above", x -> x.clearance(10), -6);
    }

    private static void bookings() {
        refused("book: picture ahead of a week", x -> x.book(4, 0, 40), -1);
        refused("book: hall ahead of a week", x -> x.book(0, 3, -1), -1);
        refused("book: picture ahead of what is shown", x -> x.book(4, 0, 10), -1);
        refused("book: something is shown", x -> x.book(2, 0, 10), -6);
        refused("book: it is shown already", x -> x.book(1, 0, 10), -6);
        refused("book: clearance ahead", x -> x.book(1, 1, 8), -6);
        refused("book: clearance behind", x -> x.book(1, 1, 12), -6);
        refused("book: clearance in it", x -> x.book(1, 1, 10), -6);
        refused("block: hall ahead of no bit", x -> x.block(3, 0, 0), -1);
        refused("block: a bit of none ahead of a week", x -> x.block(0, 16, 40), -1);
        refused("block: a bit of none beside good ones", x -> x.block(0, 19, 0), -1);
        refused("block: no bit", x -> x.block(0, 0, 0), -6);
        refused("block: no bit and no week", x -> x.block(0, 0, 40), -6);
        refused("block: the last week is taken", x -> x.block(2, 1, 39), -6);
        refused("block: one of two has no week", x -> x.block(2, 3, 38), -6);
        refused("block: one of four has no week", x -> x.block(2, 15, 36), -6);
        Supplier<StudioYears> near = () -> {
            StudioYears x = Stages.midYear();
            x.book(3, 0, 39);
            return x;
        };
        Stages.refused("block: the last one is cleared away", near, x -> x.block(1, 12, 37), -6);
    }

    private static void takings() {
        refused("takings: hall ahead of a week", x -> x.takings(3, 40, 1), -1);
        refused("takings: hall ahead of coins", x -> x.takings(-1, 10, -1), -1);
        refused("takings: nothing is shown", x -> x.takings(0, 9, 1), -6);
        refused("takings: they were told", x -> x.takings(0, 10, 1), -6);
        refused("takings: coins", x -> x.takings(0, 11, 100000), -6);
    }

    private static void plans() {
        refused("lot: picture ahead of n", x -> x.lot(4, 0), -1);
        refused("lot: n", x -> x.lot(1, 5), -6);
        refused("worth: picture ahead of a slot", x -> x.worth(4, 8, 0), -1);
        refused("worth: picture ahead of n", x -> x.worth(-1, 0, 1000), -1);
        refused("worth: slot", x -> x.worth(1, 8, 0), -6);
        refused("worth: n", x -> x.worth(1, 3, 1000), -6);
        refused("plan: stages", x -> x.plan(0), -6);
    }

    /** Each refusal is counted by its own number, and only when a call is refused. */
    private static void counting() {
        StudioYears x = Stages.midYear();
        int[] was = new int[8];
        for (int i = 1; i <= 7; i++) {
            was[i] = x.status(10 + i);
        }
        Stages.Call[] calls = {y -> y.refuse(9), y -> y.set(3, 0, 0), y -> y.set(4, 0, 0),
            y -> y.row(0, 0, -1), y -> y.set(0, 9, 0), y -> y.days(0), y -> y.row(0, 0, 61)};
        for (int i = 1; i <= 7; i++) {
            for (int times = 0; times < i; times++) {
                Checks.due("refusal", calls[i - 1].on(x), -i);
            }
        }
        for (int i = 1; i <= 7; i++) {
            Checks.due("refusals -" + i, x.status(10 + i) - was[i], i);
        }
    }
}
