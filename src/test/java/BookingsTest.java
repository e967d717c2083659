import java.util.ArrayList;
import java.util.List;
import java.util.Random;

/**
 * Promises 44 to 50 and 55: random HALLS, BOOKINGS, BLOCKS and TAKINGS, against a second writing that
 * keeps a list of showings and asks it anew each time.
 */
public final class BookingsTest {
    private static final int PEOPLE = 4;

    private record Place(int town, int rank, int part) {
    }

    private record Showing(int picture, int hall, int week) {
    }

    private final Random random;
    private final StudioYears x = new StudioYears();
    private final List<Place> halls = new ArrayList<>();
    private final List<Showing> showings = new ArrayList<>();
    private final List<Showing> told = new ArrayList<>();
    private final int[] parts = new int[PEOPLE];
    private final int[] casts;
    private final int[] hallGot = new int[6];
    private final int[] personGot = new int[PEOPLE];
    private int clearance = 2;
    private int purse = 0;

    private BookingsTest(long seed) {
        random = new Random(seed);
        casts = new int[1 + random.nextInt(8)];
    }

    public static void main(String[] args) {
        for (long seed = 1; seed <= 200; seed++) {
            new BookingsTest(seed).run();
        }
        Checks.end();
    }

    private void run() {
        for (int who = 0; who < PEOPLE; who++) {
            parts[who] = random.nextInt(51);
            Checks.hire(x, 7, "p" + parts[who]);
        }
        for (int number = 0; number < casts.length; number++) {
            x.picture(0);
            for (int scene = random.nextInt(3); scene > 0; scene--) {
                int cast = random.nextInt(1 << PEOPLE);
                casts[number] |= cast;
                x.scene(number, 0, cast, 1);
            }
        }
        for (int i = 1 + random.nextInt(6); i > 0; i--) {
            Place one = new Place(random.nextInt(2), random.nextInt(3), random.nextInt(91));
            halls.add(one);
            x.hall(one.town, one.rank, one.part);
        }
        for (int i = 0; i < 120; i++) {
            step();
        }
        compare();
    }

    private void step() {
        int hall = random.nextInt(halls.size());
        int week = random.nextInt(random.nextBoolean() ? 40 : 8);
        switch (random.nextInt(6)) {
            case 0:
                int n = random.nextInt(10);
                Checks.due("clearance", x.clearance(n), clearance);
                clearance = n;
                break;
            case 1:
            case 2:
                book(random.nextInt(casts.length), hall, week);
                break;
            case 3:
                block(hall, random.nextInt(1 << casts.length), week);
                break;
            default:
                takings(hall, week, random.nextInt(3000));
                break;
        }
    }

    private int shown(int hall, int week) {
        for (Showing one : showings) {
            if (one.hall == hall && one.week == week) {
                return one.picture;
            }
        }
        return -1;
    }

    private boolean may(int picture, int hall, int week) {
        for (Showing one : showings) {
            Place there = halls.get(one.hall);
            Place here = halls.get(hall);
            boolean clears = there.town == here.town && there.rank != here.rank;
            if (one.picture == picture && clears && Math.abs(one.week - week) <= clearance) {
                return false;
            }
        }
        return shown(hall, week) == -1;
    }

    private void book(int picture, int hall, int week) {
        boolean may = may(picture, hall, week);
        Checks.due("book", x.book(picture, hall, week), may ? 1 : -6);
        if (may) {
            showings.add(new Showing(picture, hall, week));
        }
    }

    private void block(int hall, int pictures, int week) {
        int before = showings.size();
        int last = -1;
        boolean all = pictures != 0;
        for (int number = 0; number < casts.length && all; number++) {
            if ((pictures >> number & 1) == 1) {
                int free = week;
                while (free < 40 && !may(number, hall, free)) {
                    free++;
                }
                all = free < 40;
                last = Math.max(last, free);
                showings.add(new Showing(number, hall, free));
            }
        }
        Checks.due("block", x.block(hall, pictures, week), all ? last : -6);
        while (!all && showings.size() > before) {
            showings.remove(showings.size() - 1);
        }
    }

    private void takings(int hall, int week, int coins) {
        int picture = shown(hall, week);
        Showing one = new Showing(picture, hall, week);
        if (picture == -1 || told.contains(one)) {
            Checks.due("takings", x.takings(hall, week, coins), -6);
            return;
        }
        told.add(one);
        int its = coins * halls.get(hall).part / 100;
        hallGot[hall] += its;
        int left = coins - its;
        int rest = left;
        for (int who = 0; who < PEOPLE; who++) {
            if ((casts[picture] >> who & 1) == 1) {
                int gets = Math.min(left * parts[who] / 100, rest);
                personGot[who] += gets;
                rest -= gets;
            }
        }
        purse += rest;
        Checks.due("takings", x.takings(hall, week, coins), rest);
    }

    private void compare() {
        Checks.due("THE PURSE", x.status(5), purse);
        Checks.due("showings", x.status(9), showings.size());
        for (int hall = 0; hall < halls.size(); hall++) {
            Checks.due("got by a HALL", x.got(0, hall), hallGot[hall]);
            for (int week = 0; week < 40; week++) {
                Checks.due("shown", x.shown(hall, week), shown(hall, week));
            }
        }
        for (int who = 0; who < PEOPLE; who++) {
            Checks.due("got by one", x.got(1, who), personGot[who]);
        }
    }
}
