/** Promises 51 to 54 at their edges: LOTS, slots, STAGES, and which of several PLANS is best. */
public final class PlanEdgesTest {
    public static void main(String[] args) {
        noPictures();
        stagesInUse();
        slotsOfALot();
        sevenIsTheLast();
        peopleInBoth();
        greatOnes();
        likes();
        worthAheadOfLikes();
        fiveAndSix();
        latestPlan();
        mostWorth();
        Checks.end();
    }

    private static StudioYears pictures(int... kinds) {
        StudioYears x = new StudioYears();
        for (int kind : kinds) {
            x.picture(kind);
        }
        return x;
    }

    private static void plan(String name, StudioYears x, int stages, int sum, int... slots) {
        Checks.due(name, x.plan(stages), sum);
        for (int number = 0; number < slots.length; number++) {
            Checks.due(name + ": PICTURE " + number, x.planned(number), slots[number]);
        }
    }

    private static void noPictures() {
        StudioYears x = pictures();
        Checks.due("none yet", x.planned(0), -1);
        plan("no PICTURES", x, 1, 0, -1);
        plan("no PICTURES", x, 3, 0, -1);
        Checks.due("no STAGES", x.plan(0), -6);
        Checks.due("four STAGES", x.plan(4), -6);
        x.picture(0);
        Checks.due("a later one isn't planned", x.planned(0), -1);
        plan("one PICTURE without WORTH", x, 1, 0, 0);
    }

    /** So many in one slot as there are STAGES, and no more: the others take the least slots. */
    private static void stagesInUse() {
        int[][] want = {{0, 1, 2, 5}, {0, 0, 5, 5}, {0, 5, 5, 5}};
        for (int stages = 1; stages <= 3; stages++) {
            StudioYears x = pictures(0, 0, 0, 0);
            for (int number = 0; number < 4; number++) {
                x.worth(number, 5, 10);
            }
            plan("STAGES " + stages, x, stages, 10 * stages, want[stages - 1]);
        }
    }

    private static void slotsOfALot() {
        for (int lot = 1; lot <= 4; lot++) {
            StudioYears x = pictures(0, 0);
            Checks.due("1 at first", x.lot(0, lot), 1);
            x.worth(0, 2, 5);
            for (int slot = 0; slot < 8; slot++) {
                StudioYears y = pictures(0, 0);
                y.lot(0, lot);
                y.worth(0, 2, 5);
                y.worth(1, slot, 3);
                boolean meets = slot >= 2 && slot < 2 + lot;
                Checks.due("LOT " + lot + ", the other in " + slot, y.plan(1), meets ? 5 : 8);
            }
            plan("the least free slot", x, 1, 5, 2, 0);
        }
    }

    private static void sevenIsTheLast() {
        for (int slot = 4; slot < 8; slot++) {
            for (int lot = 1; lot <= 4; lot++) {
                StudioYears x = pictures(0);
                x.lot(0, lot);
                x.worth(0, slot, 9);
                plan("LOT " + lot + " from " + slot, x, 1, 9, slot);
            }
        }
        StudioYears x = pictures(0, 0);
        x.lot(0, 4);
        x.worth(0, 6, 9);
        x.worth(1, 7, 8);
        plan("in use in 7", x, 1, 9, 6, 0);
        x.worth(1, 5, 4);
        plan("not in use in 5", x, 1, 13, 6, 5);
        x.worth(1, 0, 5);
        plan("nor in 0", x, 1, 14, 6, 0);
    }

    private static void peopleInBoth() {
        StudioYears x = pictures(0, 0);
        for (int who = 0; who < 16; who++) {
            x.person(7);
        }
        x.worth(0, 3, 9);
        x.worth(1, 4, 9);
        x.lot(0, 2);
        plan("no CASTS", x, 2, 18, 3, 4);
        x.scene(0, 0, 1 << 15, 1);
        x.scene(1, 0, 1 << 14, 1);
        plan("nobody in both", x, 2, 18, 3, 4);
        x.scene(1, 0, 1 << 15, 1);
        plan("one in both", x, 2, 9, 0, 4);
        x.lot(0, 1);
        plan("one behind the other", x, 2, 18, 3, 4);
        x.lot(1, 4);
        x.worth(0, 3, 0);
        x.worth(0, 7, 5);
        plan("in use to 7", x, 3, 9, 0, 4);
    }

    /** Of each KIND whether it begins in any slot, or only in 0 and 4. */
    private static void greatOnes() {
        boolean[] great = {false, false, false, true, true, false};
        for (int kind = 0; kind < 6; kind++) {
            for (int slot = 0; slot < 8; slot++) {
                StudioYears x = pictures(kind);
                x.worth(0, slot, 7);
                boolean may = !great[kind] || slot == 0 || slot == 4;
                plan("KIND " + kind + " in " + slot, x, 1, may ? 7 : 0, may ? slot : 0);
            }
        }
        StudioYears x = pictures(3, 4, 3);
        plan("two slots for three", x, 1, 0, 0, 4, -1);
        x.lot(0, 4);
        plan("to 3", x, 1, 0, 0, 4, -1);
        plan("with two STAGES", x, 2, 0, 0, 0, 4);
        plan("with three STAGES", x, 3, 0, 0, 0, 0);
    }

    private static void likes() {
        plan("the least slots", pictures(0, 0, 0, 0, 0), 1, 0, 0, 1, 2, 3, 4);
        plan("the least slots", pictures(0, 0, 0, 0, 0), 2, 0, 0, 0, 1, 1, 2);
        plan("the least slots", pictures(0, 0, 0, 0, 0), 3, 0, 0, 0, 0, 1, 1);
        StudioYears x = pictures(0, 0, 0);
        for (int number = 0; number < 3; number++) {
            x.lot(number, 4);
        }
        plan("the last begins in no slot", x, 1, 0, 0, 4, -1);
        x.worth(2, 0, 1);
        plan("by WORTH none is the second", x, 1, 1, 4, -1, 0);
        StudioYears y = pictures(0, 0);
        for (int slot = 0; slot < 8; slot++) {
            y.worth(0, slot, 5);
            y.worth(1, slot, 5);
        }
        plan("PICTURE 0 first", y, 1, 10, 0, 1);
    }

    private static void worthAheadOfLikes() {
        StudioYears x = pictures(0, 0);
        x.worth(0, 7, 1);
        plan("one of WORTH in the last slot", x, 1, 1, 7, 0);
        x.worth(1, 7, 2);
        plan("two of WORTH", x, 1, 2, 0, 7);
        x.worth(0, 6, 1);
        plan("both", x, 1, 3, 6, 7);
    }

    private static void fiveAndSix() {
        StudioYears x = pictures(0, 0, 0, 0, 0);
        for (int number = 0; number < 5; number++) {
            x.worth(number, 7 - number, 999);
        }
        plan("five", x, 1, 4995, 7, 6, 5, 4, 3);
        x.picture(0);
        Checks.due("six", x.plan(1), -7);
        Checks.due("six", x.plan(3), -7);
        Checks.due("STAGES first", x.plan(0), -6);
        for (int number = 0; number < 5; number++) {
            Checks.due("planned as before", x.planned(number), 7 - number);
        }
        Checks.due("the sixth isn't", x.planned(5), -1);
        Checks.due("its WORTH may be told", x.worth(5, 0, 5), 0);
        Checks.due("and its LOT", x.lot(5, 2), 1);
    }

    private static void latestPlan() {
        StudioYears x = pictures(0, 0);
        x.lot(0, 4);
        x.lot(1, 4);
        x.plan(2);
        Checks.due("with two STAGES", x.planned(1), 0);
        x.plan(1);
        Checks.due("with one", x.planned(1), 4);
        x.plan(4);
        x.worth(1, 2, 9);
        Checks.due("the latest that was not refused", x.planned(1), 4);
        x.picture(0);
        x.lot(2, 4);
        x.plan(1);
        Checks.due("as things are", x.planned(1), 2);
        Checks.due("behind it, as far as 7", x.planned(0), 6);
        Checks.due("none comes last", x.planned(2), -1);
    }

    private static void mostWorth() {
        StudioYears x = pictures(0, 0, 0, 0, 0);
        for (int number = 0; number < 5; number++) {
            for (int slot = 0; slot < 8; slot++) {
                Checks.due("0 at first", x.worth(number, slot, 999), 0);
            }
        }
        plan("all of the most", x, 1, 4995, 0, 1, 2, 3, 4);
        for (int number = 0; number < 5; number++) {
            x.lot(number, 4);
        }
        plan("by LOTS of 4 two of them", x, 1, 1998, 0, 4, -1, -1, -1);
        plan("with three STAGES all", x, 3, 4995, 0, 0, 0, 4, 4);
    }
}
