import java.util.ArrayList;
import java.util.List;

/**
 * All that an object tells, so that two objects, or one before and after a call, can be compared. It
 * takes more than the 512 calls that are promised: the class happens to answer later ones likewise.
 */
final class Probe {
    /** Where in told() the FAULT stands, and the REFUSALS -1 to -7 behind it. */
    static final int FAULT = 0;
    static final int REFUSALS = 7;

    private final StudioYears x;
    private final List<Long> all = new ArrayList<>();

    private Probe(StudioYears x) {
        this.x = x;
    }

    /** What it tells without being changed: the FAULT, the REFUSALS, then the rest. */
    static long[] told(StudioYears x) {
        Probe one = new Probe(x);
        one.tellAll();
        return one.row();
    }

    /** told(), and what only calls show that change it: the object is of no use behind this. */
    static long[] deep(StudioYears x) {
        Probe one = new Probe(x);
        one.tellAll();
        one.tellSettings();
        one.tellCutting();
        one.tellTakings();
        one.tellDays();
        return one.row();
    }

    private long[] row() {
        long[] row = new long[all.size()];
        for (int i = 0; i < row.length; i++) {
            row[i] = all.get(i);
        }
        return row;
    }

    private void add(long answer) {
        all.add(answer);
    }

    private void tellAll() {
        add(x.fault());
        for (int what = 11; what <= 17; what++) {
            add(x.status(what));
        }
        for (int what = 0; what <= 10; what++) {
            add(x.status(what));
        }
        for (int i = 0; i < 16; i++) {
            tellPerson(i);
        }
        for (int i = 0; i < 8; i++) {
            tellPicture(i);
            add(x.holds(i));
            for (int e = 0; e < 60; e++) {
                add(x.element(i, e));
            }
            add(x.got(0, i));
            for (int week = 0; week < 40; week++) {
                add(x.shown(i, week));
            }
        }
    }

    private void tellPerson(int i) {
        for (int what = 0; what < 8; what++) {
            add(x.who(i, what));
        }
        for (int letter = 0; letter < 5; letter++) {
            add(x.counts(i, letter, 0));
            add(x.counts(i, letter, 4000));
        }
        add(x.got(1, i));
    }

    private void tellPicture(int i) {
        for (int what = 0; what < 9; what++) {
            add(x.about(i, what));
        }
        for (int scene = 0; scene < 8; scene++) {
            add(x.left(i, scene));
            add(x.bestScene(i, scene));
            add(x.reelTake(i, scene));
            add(x.credit(i, scene));
        }
        add(x.putRight(i, false));
        add(x.putRight(i, true));
        add(x.planned(i));
    }

    private void tellSettings() {
        for (int picture = 0; picture < 8; picture++) {
            add(x.best(picture));
            add(x.bound(picture));
            add(x.named(picture));
            add(x.mend(picture));
            add(x.lot(picture, 1));
            for (int slot = 0; slot < 8; slot++) {
                add(x.worth(picture, slot, 7 * picture + slot));
                for (int mark = 0; mark < 4; mark++) {
                    add(x.mark(picture, slot, mark, 9));
                }
            }
        }
        for (int i = 0; i < 4; i++) {
            add(x.code(i, i));
            add(x.land(i, 1 + i));
        }
        add(x.clearance(0));
    }

    private void tellCutting() {
        for (int picture = 0; picture < 8; picture++) {
            for (int length = 400; length > 0; length -= 130) {
                add(x.reel(picture, length));
                for (int scene = 0; scene < 8; scene++) {
                    add(x.reelTake(picture, scene));
                }
            }
            for (int i = 0; i < 8; i++) {
                add(x.take(picture, i, 1, 1, 0));
                add(x.preview(picture, i, 1, 1));
                add(x.draft(picture, i, i));
                add(x.named(picture));
            }
            add(x.putRight(picture, false));
            add(x.putRight(picture, true));
        }
        add(x.plan(1));
        for (int picture = 0; picture < 8; picture++) {
            add(x.planned(picture));
        }
    }

    private void tellTakings() {
        for (int hall = 0; hall < 6; hall++) {
            for (int week = 0; week < 40; week++) {
                add(x.takings(hall, week, 1000));
            }
            add(x.got(0, hall));
            add(x.block(hall, 1, 0));
        }
        for (int who = 0; who < 16; who++) {
            add(x.got(1, who));
        }
    }

    private void tellDays() {
        for (int day = 0; day < 40; day++) {
            add(x.days(1));
            add(x.status(5));
            for (int who = 0; who < 16; who++) {
                add(x.who(who, 1));
                add(x.who(who, 7));
            }
            for (int picture = 0; picture < 8; picture++) {
                add(x.about(picture, 3));
                add(x.about(picture, 4));
            }
        }
        for (int who = 0; who < 16; who++) {
            add(x.refuse(who));
            add(x.recall(who));
            add(x.lend(who, 1, 1000));
        }
        add(x.costs(0, 0));
        add(x.costs(1, 0));
    }
}
