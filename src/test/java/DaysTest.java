import java.util.ArrayList;
import java.util.List;
import java.util.Random;

/**
 * Promises 10 to 17, 27 to 31 and 49: long random years, against a second writing of the DAYS that
 * keeps whole histories (each refusal, each paid WEEK) and asks them anew each time.
 */
public final class DaysTest {
    private static final String LETTERS = "wsrpl";
    private static final int[] MOST = {52, 1, 9, 50, 99};
    private static final int[] WITHOUT = {52, 0, 0, 0, 0};

    private static final class Human {
        int pay;
        int begin;
        int end = -1;
        int[] clauses;
        boolean suspended;
        int lentTo = -1;
        int got;
        int paidInAll;
        List<Integer> refusals = new ArrayList<>();
        List<Integer> paid = new ArrayList<>();
        long[] ill = {};
    }

    private static final class Film {
        int[][] scenes;
        int[] order;
        int[] left;
        int place = -1;
        int idle;
        int shot;
        int changes;
    }

    private final Random random;
    private final StudioYears x = new StudioYears();
    private final List<Human> humans = new ArrayList<>();
    private final List<Film> films = new ArrayList<>();
    private final List<int[]> laws = new ArrayList<>();
    private int now = 0;
    private int purse = 0;
    private int fee = 0;
    private int change = 0;
    private int nextWeek = 0;

    private DaysTest(long seed) {
        random = new Random(seed);
    }

    public static void main(String[] args) {
        for (long seed = 1; seed <= 150; seed++) {
            new DaysTest(seed).run();
        }
        Checks.end();
    }

    private void run() {
        int persons = 1 + random.nextInt(6);
        for (int i = 0; i < persons; i++) {
            Human one = new Human();
            one.pay = 1 + random.nextInt(99);
            humans.add(one);
            x.person(one.pay);
        }
        x.hall(0, 0, 20);
        for (int i = 0; i < 150; i++) {
            step();
            compare();
        }
    }

    private void step() {
        int who = random.nextInt(humans.size());
        switch (random.nextInt(14)) {
            case 0:
            case 1:
                term(who);
                break;
            case 2:
                law();
                break;
            case 3:
                refuse(who);
                break;
            case 4:
                boolean was = humans.get(who).suspended;
                Checks.due("recall", x.recall(who), was ? 1 : -6);
                humans.get(who).suspended = false;
                break;
            case 5:
                lend(who);
                break;
            case 6:
                film();
                break;
            case 7:
                ill(who);
                break;
            case 8:
                fee = random.nextInt(20);
                x.costs(0, fee);
                change = random.nextInt(20);
                x.costs(1, change);
                break;
            case 9:
                retake();
                break;
            case 10:
                takings();
                break;
            default:
                live(1 + random.nextInt(random.nextInt(4) == 0 ? 100 : 12));
                break;
        }
    }

    private void term(int who) {
        Human one = humans.get(who);
        StringBuilder text = new StringBuilder();
        int years = 1 + random.nextInt(3);
        int[] clauses = WITHOUT.clone();
        text.append('y').append(years);
        for (int letter = 0; letter < 5; letter++) {
            if (random.nextBoolean()) {
                clauses[letter] = random.nextInt(1 + Math.min(MOST[letter], random.nextInt(60)));
                if (letter == 1) {
                    clauses[letter] = random.nextInt(2);
                }
                text.insert(0, "" + LETTERS.charAt(letter) + clauses[letter]);
            }
        }
        Checks.write(x, 0, text.toString());
        if (isUnder(one, now)) {
            Checks.due("term", x.term(who, 0), -6);
            return;
        }
        one.begin = now;
        one.end = now + 364 * years;
        one.clauses = clauses;
        one.refusals.clear();
        one.paid.clear();
        Checks.due("term", x.term(who, 0), one.end);
    }

    private void law() {
        int letter = random.nextInt(5);
        int day = Math.min(4000, now + random.nextInt(1500));
        if (random.nextInt(5) != 0 || laws.size() == 8) {
            return;
        }
        laws.add(new int[] {letter, day});
        Checks.due("law", x.law(letter, day), laws.size());
    }

    private int counts(Human one, int letter, int day) {
        for (int[] law : laws) {
            if (law[0] == letter && day >= law[1]) {
                return WITHOUT[letter];
            }
        }
        return one.clauses[letter];
    }

    private boolean isUnder(Human one, int day) {
        return one.end >= 0 && day < one.end;
    }

    private boolean isLent(Human one, int day) {
        return one.lentTo > day;
    }

    private int inYear(List<Integer> days, Human one, int day) {
        int count = 0;
        for (int d : days) {
            count += (d - one.begin) / 364 == (day - one.begin) / 364 ? 1 : 0;
        }
        return count;
    }

    private void refuse(int who) {
        Human one = humans.get(who);
        if (!isUnder(one, now) || one.suspended || isLent(one, now)) {
            Checks.due("refuse", x.refuse(who), -6);
        } else if (inYear(one.refusals, one, now) < counts(one, 2, now)) {
            one.refusals.add(now);
            Checks.due("refuse", x.refuse(who), 1);
        } else {
            one.suspended = true;
            Checks.due("refuse", x.refuse(who), 0);
        }
    }

    private void lend(int who) {
        Human one = humans.get(who);
        int n = 1 + random.nextInt(random.nextInt(5) == 0 ? 400 : 20);
        int price = random.nextInt(1000);
        if (!isUnder(one, now) || one.suspended || isLent(one, now)) {
            Checks.due("lend", x.lend(who, n, price), -6);
            return;
        }
        one.lentTo = now + n;
        int comes = price - price * counts(one, 4, now) / 100;
        purse += comes;
        Checks.due("lend", x.lend(who, n, price), comes);
    }

    private void film() {
        if (films.size() == 8) {
            return;
        }
        Film one = new Film();
        int number = x.picture(random.nextInt(6));
        int count = 1 + random.nextInt(5);
        one.scenes = new int[count][];
        one.order = new int[count];
        one.left = new int[count];
        List<Integer> order = new ArrayList<>();
        for (int i = 0; i < count; i++) {
            int cast = random.nextInt(1 << humans.size()) & random.nextInt(1 << humans.size());
            one.scenes[i] = new int[] {random.nextInt(3), cast, 1 + random.nextInt(4)};
            x.scene(number, one.scenes[i][0], cast, one.scenes[i][2]);
            one.left[i] = one.scenes[i][2];
            order.add(random.nextInt(order.size() + 1), i);
        }
        x.row(1, 1, count);
        for (int i = 0; i < count; i++) {
            one.order[i] = order.get(i);
            x.set(1, i, order.get(i));
        }
        films.add(one);
        Checks.due("begin", x.begin(number, 1), x.judge(number, 1));
    }

    private void ill(int who) {
        Human one = humans.get(who);
        one.ill = new long[random.nextInt(9)];
        x.row(2, 0, one.ill.length);
        for (int i = 0; i < one.ill.length; i++) {
            one.ill[i] = random.nextInt(4) == 0 ? 1 : 0;
            x.set(2, i, one.ill[i]);
        }
        Checks.due("ill", x.ill(who, 2), one.ill.length);
    }

    private void retake() {
        if (films.isEmpty()) {
            return;
        }
        int number = random.nextInt(films.size());
        Film one = films.get(number);
        int scene = random.nextInt(one.left.length);
        if (one.left[scene] < 9) {
            one.left[scene]++;
            Checks.due("retake", x.retake(number, scene), one.left[scene]);
        }
    }

    private void takings() {
        if (films.isEmpty() || nextWeek == 40) {
            return;
        }
        int number = random.nextInt(films.size());
        int coins = random.nextInt(5000);
        Checks.due("book", x.book(number, 0, nextWeek), 1);
        int left = coins - coins * 20 / 100;
        int rest = left;
        for (int who = 0; who < humans.size(); who++) {
            Human one = humans.get(who);
            boolean inCast = false;
            for (int[] scene : films.get(number).scenes) {
                inCast |= (scene[1] >> who & 1) == 1;
            }
            if (inCast && isUnder(one, now)) {
                int gets = Math.min(rest, left * counts(one, 3, now) / 100);
                one.got += gets;
                rest -= gets;
            }
        }
        purse += rest;
        Checks.due("takings", x.takings(0, nextWeek++, coins), rest);
    }

    private void live(int n) {
        if (now + n > 4000) {
            return;
        }
        for (int i = 0; i < n; i++) {
            liveOne();
        }
        Checks.due("days", x.days(n), now);
    }

    private boolean isReady(Human one, int day) {
        boolean ill = one.ill.length > 0 && one.ill[day % one.ill.length] != 0;
        return isUnder(one, day) && !one.suspended && !isLent(one, day) && !ill;
    }

    private void liveOne() {
        boolean[] used = new boolean[humans.size()];
        for (Film film : films) {
            int left = 0;
            for (int one : film.left) {
                left += one;
            }
            if (left > 0) {
                shoot(film, used);
            }
        }
        for (Human one : humans) {
            if (one.suspended && counts(one, 1, now) == 1) {
                one.end++;
            }
        }
        for (Human one : humans) {
            boolean works = isUnder(one, now) && !one.suspended && !isLent(one, now);
            if (now % 7 == 6 && works && inYear(one.paid, one, now) < counts(one, 0, now)) {
                one.paid.add(now);
                one.paidInAll++;
                purse -= one.pay;
            }
        }
        now++;
        for (Human one : humans) {
            if (!isUnder(one, now)) {
                one.suspended = false;
                one.lentTo = -1;
            }
        }
    }

    private void shoot(Film film, boolean[] used) {
        for (int scene : film.order) {
            boolean can = film.left[scene] > 0;
            for (int who = 0; who < used.length; who++) {
                if ((film.scenes[scene][1] >> who & 1) == 1) {
                    can &= !used[who] && isReady(humans.get(who), now);
                }
            }
            if (!can) {
                continue;
            }
            if (film.place != film.scenes[scene][0]) {
                film.place = film.scenes[scene][0];
                film.changes++;
                purse -= change;
                return;
            }
            film.left[scene]--;
            film.shot++;
            purse -= fee;
            for (int who = 0; who < used.length; who++) {
                used[who] |= (film.scenes[scene][1] >> who & 1) == 1;
            }
            return;
        }
        film.idle++;
    }

    private void compare() {
        Checks.due("NOW", x.status(4), now);
        Checks.due("purse", x.status(5), purse);
        int under = 0;
        int suspended = 0;
        int lent = 0;
        for (int who = 0; who < humans.size(); who++) {
            Human one = humans.get(who);
            boolean isUnder = isUnder(one, now);
            under += isUnder ? 1 : 0;
            suspended += one.suspended ? 1 : 0;
            lent += isLent(one, now) ? 1 : 0;
            int[] want = {one.pay, one.end, isUnder ? 1 : 0, one.suspended ? 1 : 0,
                isLent(one, now) ? one.lentTo : -1, one.paidInAll,
                isUnder ? inYear(one.refusals, one, now) : 0, isReady(one, now) ? 1 : 0};
            for (int what = 0; what < want.length; what++) {
                Checks.due("who " + what, x.who(who, what), want[what]);
            }
            Checks.due("got", x.got(1, who), one.got);
            int letter = random.nextInt(5);
            int day = random.nextInt(4001);
            int counts = one.end < 0 ? -1 : counts(one, letter, day);
            Checks.due("counts", x.counts(who, letter, day), counts);
        }
        Checks.due("UNDER", x.status(6), under);
        Checks.due("SUSPENDED", x.status(7), suspended);
        Checks.due("LENT", x.status(8), lent);
        for (int number = 0; number < films.size(); number++) {
            Film one = films.get(number);
            int left = 0;
            for (int scene = 0; scene < one.left.length; scene++) {
                left += one.left[scene];
                Checks.due("left", x.left(number, scene), one.left[scene]);
            }
            int[] want = {left, one.place, one.idle, one.shot, one.changes};
            for (int i = 0; i < want.length; i++) {
                Checks.due("about " + (i + 3), x.about(number, i + 3), want[i]);
            }
        }
    }
}
