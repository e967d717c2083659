import java.util.Arrays;
import java.util.function.Supplier;

/** Objects to begin a test with, and what every refused, taken or merely asked call keeps to. */
final class Stages {
    interface Call {
        long on(StudioYears x);
    }

    private Stages() {
    }

    /**
     * NOW is 364. PEOPLE: 0 at work, 1 SUSPENDED, 2 LENT, 3 without a TERM, 4 whose TERM has ended.
     * SHELVES: 0 a TERM, 1 an ORDER of two (ints), 2 a FAULT, 3 PICTURE 1, 4 NOTHING, 5 longs,
     * 6 an empty ROW, 7 a TERM. PICTURES: 0 begun, 1 with two SCENES, 2 with none, 3 with eight.
     * HALLS: 0 and 1 of one TOWN with two RANKS, 2 of another TOWN.
     */
    static StudioYears midYear() {
        StudioYears x = new StudioYears();
        x.costs(0, 11);
        x.costs(1, 13);
        people(x);
        shelves(x);
        pictures(x);
        cutting(x);
        halls(x);
        return x;
    }

    private static void people(StudioYears x) {
        for (int who = 0; who < 5; who++) {
            x.person(70 + 7 * who);
        }
        Checks.write(x, 7, "y1");
        x.term(4, 7);
        x.days(100);
        x.days(100);
        x.days(100);
        x.days(64);
        Checks.write(x, 7, "y2w3s1r0p20l30");
        for (int who = 0; who < 3; who++) {
            x.term(who, 7);
        }
        x.refuse(1);
        x.lend(2, 400, 500);
        x.law(2, 500);
    }

    private static void shelves(StudioYears x) {
        Checks.write(x, 0, "y3");
        Checks.fill(x, 1, 1, 0);
        Checks.write(x, 2, "y1y");
        x.row(5, 3, 4);
        x.row(6, 0, 0);
    }

    private static void pictures(StudioYears x) {
        for (int kind = 0; kind < 4; kind++) {
            x.picture(kind);
        }
        for (int picture = 0; picture < 2; picture++) {
            x.scene(picture, 4, 1, 2);
            x.scene(picture, 5, 3, 1);
        }
        for (int scene = 0; scene < 8; scene++) {
            x.scene(3, scene % 3, scene, 1);
        }
        x.begin(0, 1);
        x.show(3, 1);
    }

    private static void cutting(StudioYears x) {
        for (int take = 0; take < 4; take++) {
            x.take(1, 0, 10 + take, 20 + take, 10 * take + take);
        }
        x.take(1, 1, 9, 30, 12);
        x.mark(1, 0, 2, 5);
        x.code(2, 4);
        for (int draft = 0; draft < 8; draft++) {
            x.draft(1, draft % 6, draft % 2);
        }
        x.land(0, 40);
        x.land(1, 60);
        for (int i = 0; i < 10; i++) {
            x.preview(1, 0, 99, 50);
        }
        x.reel(1, 40);
        x.worth(1, 3, 50);
        x.plan(2);
    }

    private static void halls(StudioYears x) {
        x.hall(0, 0, 30);
        x.hall(0, 1, 40);
        x.hall(1, 0, 50);
        x.book(1, 0, 10);
        x.book(0, 0, 11);
        x.book(1, 2, 39);
        x.takings(0, 10, 1000);
    }

    /** The call is refused, that is counted, and nothing else changes. */
    static void refused(String name, Supplier<StudioYears> stage, Call call, int want) {
        StudioYears x = stage.get();
        StudioYears twin = stage.get();
        Checks.due(name, call.on(x), want);
        for (int refusal = 1; refusal <= Probe.REFUSALS; refusal++) {
            int more = x.status(10 + refusal) - twin.status(10 + refusal);
            Checks.due(name + ": refusals -" + refusal, more, -want == refusal ? 1 : 0);
        }
        unchanged(name, x, twin);
    }

    /** The call isn't refused. */
    static void taken(String name, Supplier<StudioYears> stage, Call call) {
        StudioYears x = stage.get();
        long[] before = refusals(x);
        long answer = call.on(x);
        Checks.due(name + " answered " + answer + ": taken", answer >= 0 ? 1 : 0, 1);
        Checks.due(name + ": refuses nothing", Arrays.equals(before, refusals(x)) ? 1 : 0, 1);
    }

    /** The call only asks: it refuses and changes nothing. */
    static void asked(String name, Supplier<StudioYears> stage, Call call, long want) {
        StudioYears x = stage.get();
        StudioYears twin = stage.get();
        Checks.due(name, call.on(x), want);
        Checks.due(name + ": refuses nothing", Arrays.equals(refusals(twin), refusals(x)) ? 1 : 0, 1);
        unchanged(name, x, twin);
    }

    private static long[] refusals(StudioYears x) {
        long[] row = new long[Probe.REFUSALS];
        for (int i = 0; i < row.length; i++) {
            row[i] = x.status(11 + i);
        }
        return row;
    }

    private static void unchanged(String name, StudioYears x, StudioYears twin) {
        long[] is = Probe.deep(x);
        long[] should = Probe.deep(twin);
        // term() tells its FAULT even when it is refused.
        if (name.startsWith("term(")) {
            is[Probe.FAULT] = should[Probe.FAULT];
        }
        // The REFUSALS were looked at already.
        System.arraycopy(should, Probe.FAULT + 1, is, Probe.FAULT + 1, Probe.REFUSALS);
        Checks.due(name + ": changes nothing", Arrays.equals(is, should) ? 1 : 0, 1);
    }
}
