import java.math.BigInteger;
import java.util.ArrayList;
import java.util.List;
import java.util.Map;
import java.util.TreeMap;
import java.util.TreeSet;

/**
 * A second writing of the whole document, without a thought of speed: it keeps histories and goes
 * through everything, so that WholeTest can lay the class against it. Its public methods are the
 * document's face.
 */
public final class PlainYears {
    private static final int NONE = -1;
    private static final String LETTERS = "wsrply";
    private static final int[] LEAST = {0, 0, 0, 0, 0, 1};
    private static final int[] MOST = {52, 1, 9, 50, 99, 9};
    private static final int[] WITHOUT = {52, 0, 0, 0, 0, 1};
    /** KINDS with what they are under, themselves first. */
    private static final List<List<Integer>> KINDS = List.of(List.of(0), List.of(1, 0), List.of(2, 1, 0),
            List.of(3, 0), List.of(4, 3, 0), List.of(5, 0));

    private static final class Human {
        int pay;
        int begin;
        int end = NONE;
        Map<Character, Integer> clauses;
        boolean suspended;
        int lentTo = NONE;
        List<Long> ill = List.of();
        int paidInAll;
        List<Integer> paidDays = new ArrayList<>();
        List<Integer> refusalDays = new ArrayList<>();
        int got;
    }

    private static final class Part {
        int place;
        int cast;
        int days;
        int left;
        int[] marks = new int[4];
        /** LENGTH, WORTH, fact at the beginning, fact at the end. */
        List<int[]> takes = new ArrayList<>();
    }

    private static final class Film {
        int kind;
        List<Part> parts = new ArrayList<>();
        List<Integer> order;
        int place = NONE;
        int idle;
        int shot;
        int changes;
        int drafts;
        List<Long> lines = List.of();
        List<Integer> hands = List.of();
        List<Integer> reel = List.of();
        int[] came = new int[4];
        int[] liked = new int[4];
        int lot = 1;
        int[] worths = new int[8];
    }

    private static final class House {
        int town;
        int rank;
        int part;
        Map<Integer, Integer> shows = new TreeMap<>();
        TreeSet<Integer> told = new TreeSet<>();
        int got;
    }

    /** What a SHELF holds: a ROW (elements isn't null), a PICTURE, or NOTHING. */
    private static final class Board {
        int sort;
        List<Long> elements;
        int picture = NONE;
    }

    private final List<Board> boards = new ArrayList<>();
    private final List<Human> humans = new ArrayList<>();
    private final List<Film> films = new ArrayList<>();
    private final List<House> houses = new ArrayList<>();
    private final List<int[]> laws = new ArrayList<>();
    private final int[] refusals = new int[8];
    private final int[] code = {9, 9, 9, 9};
    private final int[] shares = new int[4];
    private final int[] costs = new int[2];
    private List<Integer> plan = List.of();
    private int clearance = 2;
    private int now;
    private int purse;
    private int fault = NONE;

    public PlainYears() {
        for (int s = 0; s < 8; s++) {
            boards.add(new Board());
        }
    }

    // ---- refusals ----

    private int no(int refusal) {
        refusals[-refusal]++;
        return refusal;
    }

    private static boolean in(int n, int least, int most) {
        return n >= least && n <= most;
    }

    private static boolean has(List<?> list, int i) {
        return in(i, 0, list.size() - 1);
    }

    private boolean hasPart(int picture, int scene) {
        return has(films, picture) && has(films.get(picture).parts, scene);
    }

    /** -2 or -3 where a ROW is wanted in a SHELF that is there; 0. */
    private int noRow(int s) {
        Board one = boards.get(s);
        return one.elements != null ? 0 : one.picture != NONE ? -2 : -3;
    }

    // ---- people, shelves, terms ----

    public int person(int pay) {
        if (!in(pay, 1, 999)) {
            return no(-6);
        }
        if (humans.size() == 16) {
            return no(-7);
        }
        Human one = new Human();
        one.pay = pay;
        humans.add(one);
        return humans.size() - 1;
    }

    public int row(int s, int sort, int n) {
        if (!has(boards, s)) {
            return no(-1);
        }
        if (n < 0) {
            return no(-4);
        }
        if (!in(sort, 0, 3)) {
            return no(-6);
        }
        if (n > 60) {
            return no(-7);
        }
        Board one = new Board();
        one.sort = sort;
        one.elements = new ArrayList<>();
        for (int i = 0; i < n; i++) {
            one.elements.add(0L);
        }
        boards.set(s, one);
        return 1;
    }

    public int set(int s, int i, long v) {
        if (!has(boards, s)) {
            return no(-1);
        }
        if (noRow(s) != 0) {
            return no(noRow(s));
        }
        Board one = boards.get(s);
        if (!has(one.elements, i)) {
            return no(-5);
        }
        int away = 64 - (8 << one.sort);
        one.elements.set(i, v << away >> away);
        return 1;
    }

    public int copy(int p, int q, int i, int j, int n) {
        if (!has(boards, p) || !has(boards, q)) {
            return no(-1);
        }
        Board from = boards.get(p);
        Board to = boards.get(q);
        boolean sorts = from.elements != null && to.elements != null && from.sort != to.sort;
        if (noRow(p) == -2 || noRow(q) == -2 || sorts) {
            return no(-2);
        }
        if (noRow(p) == -3 || noRow(q) == -3) {
            return no(-3);
        }
        if (n < 0) {
            return no(-4);
        }
        if (i < 0 || j < 0 || (long) i + n > from.elements.size() || (long) j + n > to.elements.size()) {
            return no(-5);
        }
        List<Long> were = new ArrayList<>(from.elements);
        for (int k = 0; k < n; k++) {
            to.elements.set(j + k, were.get(i + k));
        }
        return 1;
    }

    public long element(int s, int i) {
        boolean there = has(boards, s) && noRow(s) == 0 && has(boards.get(s).elements, i);
        return there ? boards.get(s).elements.get(i) : 0;
    }

    public int show(int s, int picture) {
        if (!has(boards, s) || picture != NONE && !has(films, picture)) {
            return no(-1);
        }
        Board one = new Board();
        one.picture = picture;
        boards.set(s, one);
        return picture == NONE ? 0 : 1;
    }

    public int holds(int s) {
        if (!has(boards, s)) {
            return NONE;
        }
        Board one = boards.get(s);
        return one.elements != null ? 100 + one.sort : one.picture;
    }

    public int kindIn(int s, int kind) {
        if (!has(boards, s) || !has(KINDS, kind)) {
            return no(-1);
        }
        Board one = boards.get(s);
        if (one.elements != null) {
            return no(-2);
        }
        if (one.picture == NONE) {
            return no(-3);
        }
        int is = films.get(one.picture).kind;
        return KINDS.get(is).contains(kind) ? is : no(-2);
    }

    public int term(int who, int s) {
        if (!has(humans, who) || !has(boards, s)) {
            return no(-1);
        }
        if (noRow(s) != 0) {
            return no(noRow(s));
        }
        Human one = humans.get(who);
        StringBuilder text = new StringBuilder();
        fault = NONE;
        for (long element : boards.get(s).elements) {
            int sign = (int) element;
            text.append(in(sign, 1, 127) ? (char) sign : '?');
            if (fault == NONE && clausesOf(text.toString(), true) == null) {
                fault = text.length() - 1;
            }
        }
        Map<Character, Integer> clauses = clausesOf(text.toString(), false);
        if (fault == NONE && clauses == null) {
            fault = text.length();
        }
        if (fault != NONE || under(one, now)) {
            return no(-6);
        }
        one.clauses = clauses;
        one.begin = now;
        one.end = now + 364 * clauses.getOrDefault('y', 1);
        one.paidDays.clear();
        one.refusalDays.clear();
        return one.end;
    }

    /** CLAUSES of a text; null: it is no TERM (or, if it may be open, no beginning of one). */
    private static Map<Character, Integer> clausesOf(String text, boolean open) {
        Map<Character, Integer> clauses = new TreeMap<>();
        int at = 0;
        while (at < text.length()) {
            char letter = text.charAt(at);
            int to = at + 1;
            while (to < text.length() && Character.isDigit(text.charAt(to))) {
                to++;
            }
            int l = LETTERS.indexOf(letter);
            if (l < 0 || clauses.containsKey(letter)) {
                return null;
            }
            int number = NONE;
            for (int n = LEAST[l]; n <= MOST[l]; n++) {
                String digits = text.substring(at + 1, to);
                boolean fits = open && to == text.length() ? ("" + n).startsWith(digits) : digits.equals("" + n);
                number = fits ? n : number;
            }
            if (number == NONE) {
                return null;
            }
            clauses.put(letter, number);
            at = to;
        }
        return clauses.isEmpty() && !open ? null : clauses;
    }

    public int fault() {
        return fault;
    }

    public int law(int letter, int day) {
        if (!in(letter, 0, 4) || !in(day, now, 4000)) {
            return no(-6);
        }
        if (laws.size() == 8) {
            return no(-7);
        }
        laws.add(new int[] {letter, day});
        return laws.size();
    }

    public int counts(int who, int letter, int day) {
        if (!has(humans, who) || !in(letter, 0, 4) || humans.get(who).clauses == null) {
            return NONE;
        }
        return count(humans.get(who), LETTERS.charAt(letter), day);
    }

    private int count(Human one, char letter, int day) {
        int l = LETTERS.indexOf(letter);
        boolean struck = laws.stream().anyMatch(law -> law[0] == l && day >= law[1]);
        return struck ? WITHOUT[l] : one.clauses.getOrDefault(letter, WITHOUT[l]);
    }

    private static boolean under(Human one, int day) {
        return one.clauses != null && day < one.end;
    }

    private static boolean lent(Human one, int day) {
        return one.lentTo != NONE && day < one.lentTo;
    }

    private static boolean ready(Human one, int day) {
        boolean ill = !one.ill.isEmpty() && one.ill.get(day % one.ill.size()) != 0;
        return under(one, day) && !one.suspended && !lent(one, day) && !ill;
    }

    private static int inYear(List<Integer> days, Human one, int day) {
        int count = 0;
        for (int d : days) {
            count += (d - one.begin) / 364 == (day - one.begin) / 364 ? 1 : 0;
        }
        return count;
    }

    public int ill(int who, int s) {
        if (!has(humans, who) || !has(boards, s)) {
            return no(-1);
        }
        if (noRow(s) != 0) {
            return no(noRow(s));
        }
        humans.get(who).ill = List.copyOf(boards.get(s).elements);
        return humans.get(who).ill.size();
    }

    public int refuse(int who) {
        if (!has(humans, who)) {
            return no(-1);
        }
        Human one = humans.get(who);
        if (!under(one, now) || one.suspended || lent(one, now)) {
            return no(-6);
        }
        if (inYear(one.refusalDays, one, now) < count(one, 'r', now)) {
            one.refusalDays.add(now);
            return 1;
        }
        one.suspended = true;
        return 0;
    }

    public int recall(int who) {
        if (!has(humans, who)) {
            return no(-1);
        }
        if (!humans.get(who).suspended) {
            return no(-6);
        }
        humans.get(who).suspended = false;
        return 1;
    }

    public int lend(int who, int n, int price) {
        if (!has(humans, who)) {
            return no(-1);
        }
        Human one = humans.get(who);
        boolean free = under(one, now) && !one.suspended && !lent(one, now);
        if (!in(n, 1, 400) || !in(price, 0, 99999) || !free) {
            return no(-6);
        }
        one.lentTo = now + n;
        int comes = price - price * count(one, 'l', now) / 100;
        purse += comes;
        return comes;
    }

    // ---- pictures ----

    public int picture(int kind) {
        if (!has(KINDS, kind)) {
            return no(-1);
        }
        if (films.size() == 8) {
            return no(-7);
        }
        Film one = new Film();
        one.kind = kind;
        films.add(one);
        return films.size() - 1;
    }

    public int scene(int picture, int place, int cast, int days) {
        if (!has(films, picture) || cast < 0 || cast >= 1 << humans.size()) {
            return no(-1);
        }
        Film film = films.get(picture);
        if (!in(place, 0, 9) || !in(days, 1, 4) || film.order != null) {
            return no(-6);
        }
        if (film.parts.size() == 8) {
            return no(-7);
        }
        Part one = new Part();
        one.place = place;
        one.cast = cast;
        one.days = days;
        film.parts.add(one);
        return film.parts.size() - 1;
    }

    public int mark(int picture, int scene, int mark, int n) {
        if (!hasPart(picture, scene) || !in(mark, 0, 3)) {
            return no(-1);
        }
        if (!in(n, 0, 9)) {
            return no(-6);
        }
        int[] marks = films.get(picture).parts.get(scene).marks;
        int was = marks[mark];
        marks[mark] = n;
        return was;
    }

    public int costs(int what, int n) {
        if (!in(what, 0, 1) || !in(n, 0, 999)) {
            return no(-6);
        }
        int was = costs[what];
        costs[what] = n;
        return was;
    }

    private int costOf(Film film, List<Integer> order) {
        int cost = 0;
        int ahead = NONE;
        for (int scene : order) {
            Part one = film.parts.get(scene);
            cost += costs[0] * one.days + (one.place == ahead ? 0 : costs[1]);
            ahead = one.place;
        }
        for (int who = 0; who < humans.size(); who++) {
            cost += humans.get(who).pay / 7 * stay(film, order, who);
        }
        return cost;
    }

    /** DAYS from the first SCENE with one of PEOPLE to the last one. */
    private static int stay(Film film, List<Integer> order, int who) {
        int first = NONE;
        int last = NONE;
        for (int at = 0; at < order.size(); at++) {
            if ((film.parts.get(order.get(at)).cast >> who & 1) == 1) {
                first = first == NONE ? at : first;
                last = at;
            }
        }
        int days = 0;
        for (int at = first; first != NONE && at <= last; at++) {
            days += film.parts.get(order.get(at)).days;
        }
        return days;
    }

    private List<Integer> bestOrder(Film film) {
        List<Integer> best = new ArrayList<>();
        goThroughOrders(film, new ArrayList<>(), best, new int[] {Integer.MAX_VALUE});
        return best;
    }

    private void goThroughOrders(Film film, List<Integer> order, List<Integer> best, int[] least) {
        if (order.size() == film.parts.size()) {
            int cost = costOf(film, order);
            if (cost < least[0]) {
                least[0] = cost;
                best.clear();
                best.addAll(order);
            }
            return;
        }
        for (int scene = 0; scene < film.parts.size(); scene++) {
            if (!order.contains(scene)) {
                order.add(scene);
                goThroughOrders(film, order, best, least);
                order.remove(order.size() - 1);
            }
        }
    }

    public int best(int picture) {
        if (!has(films, picture)) {
            return no(-1);
        }
        Film one = films.get(picture);
        return one.parts.isEmpty() ? no(-6) : costOf(one, bestOrder(one));
    }

    public int bestScene(int picture, int i) {
        return hasPart(picture, i) ? bestOrder(films.get(picture)).get(i) : NONE;
    }

    public int bound(int picture) {
        if (!has(films, picture)) {
            return no(-1);
        }
        TreeSet<Integer> places = new TreeSet<>();
        int cost = 0;
        for (Part one : films.get(picture).parts) {
            places.add(one.place);
            cost += costs[0] * one.days;
            for (int who = 0; who < humans.size(); who++) {
                cost += (one.cast >> who & 1) * (humans.get(who).pay / 7) * one.days;
            }
        }
        return cost + costs[1] * places.size();
    }

    /** The ORDER in a SHELF; null: it isn't all SCENES, each once. */
    private List<Integer> orderIn(Film film, int s) {
        List<Integer> order = new ArrayList<>();
        for (long element : boards.get(s).elements) {
            order.add((int) element);
        }
        List<Integer> all = new ArrayList<>();
        for (int scene = 0; scene < film.parts.size(); scene++) {
            all.add(scene);
        }
        List<Integer> sorted = new ArrayList<>(order);
        sorted.sort(null);
        return sorted.equals(all) ? order : null;
    }

    public int judge(int picture, int s) {
        if (!has(films, picture) || !has(boards, s)) {
            return no(-1);
        }
        if (noRow(s) != 0) {
            return no(noRow(s));
        }
        List<Integer> order = orderIn(films.get(picture), s);
        return order == null ? no(-6) : costOf(films.get(picture), order);
    }

    public int begin(int picture, int s) {
        if (!has(films, picture) || !has(boards, s)) {
            return no(-1);
        }
        if (noRow(s) != 0) {
            return no(noRow(s));
        }
        Film one = films.get(picture);
        List<Integer> order = orderIn(one, s);
        if (order == null || one.order != null || one.parts.isEmpty()) {
            return no(-6);
        }
        one.order = order;
        one.parts.forEach(part -> part.left = part.days);
        return costOf(one, order);
    }

    public int retake(int picture, int scene) {
        if (!hasPart(picture, scene)) {
            return no(-1);
        }
        if (films.get(picture).order == null) {
            return no(-6);
        }
        Part one = films.get(picture).parts.get(scene);
        return one.left + 1 > 9 ? no(-7) : ++one.left;
    }

    // ---- days ----

    public int days(int n) {
        if (!in(n, 1, 100)) {
            return no(-6);
        }
        if (now + n > 4000) {
            return no(-7);
        }
        for (int i = 0; i < n; i++) {
            live(now);
        }
        return now;
    }

    private void live(int d) {
        TreeSet<Integer> used = new TreeSet<>();
        for (Film one : films) {
            if (one.order != null && leftOf(one) > 0) {
                shoot(one, d, used);
            }
        }
        for (Human one : humans) {
            if (one.suspended && count(one, 's', d) == 1) {
                one.end++;
            }
        }
        for (Human one : humans) {
            boolean works = under(one, d) && !one.suspended && !lent(one, d);
            if (d % 7 == 6 && works && inYear(one.paidDays, one, d) < count(one, 'w', d)) {
                one.paidDays.add(d);
                one.paidInAll++;
                purse -= one.pay;
            }
        }
        now = d + 1;
        for (Human one : humans) {
            if (!under(one, now)) {
                one.suspended = false;
                one.lentTo = NONE;
            }
        }
    }

    private static int leftOf(Film film) {
        return film.parts.stream().mapToInt(part -> part.left).sum();
    }

    private void shoot(Film film, int d, TreeSet<Integer> used) {
        for (int scene : film.order) {
            Part one = film.parts.get(scene);
            List<Integer> cast = castOf(one);
            boolean all = cast.stream().allMatch(who -> ready(humans.get(who), d) && !used.contains(who));
            if (one.left == 0 || !all) {
                continue;
            }
            if (one.place != film.place) {
                film.place = one.place;
                film.changes++;
                purse -= costs[1];
            } else {
                one.left--;
                film.shot++;
                purse -= costs[0];
                used.addAll(cast);
            }
            return;
        }
        film.idle++;
    }

    private List<Integer> castOf(Part one) {
        List<Integer> cast = new ArrayList<>();
        for (int who = 0; who < humans.size(); who++) {
            if ((one.cast >> who & 1) == 1) {
                cast.add(who);
            }
        }
        return cast;
    }

    private TreeSet<Integer> castOf(Film film) {
        TreeSet<Integer> cast = new TreeSet<>();
        film.parts.forEach(part -> cast.addAll(castOf(part)));
        return cast;
    }

    public int who(int who, int what) {
        if (!has(humans, who) || !in(what, 0, 7)) {
            return NONE;
        }
        Human one = humans.get(who);
        boolean under = under(one, now);
        return new int[] {one.pay, one.end, under ? 1 : 0, one.suspended ? 1 : 0,
            lent(one, now) ? one.lentTo : NONE, one.paidInAll,
            under ? inYear(one.refusalDays, one, now) : 0, ready(one, now) ? 1 : 0}[what];
    }

    public int about(int picture, int what) {
        if (!has(films, picture) || !in(what, 0, 8)) {
            return NONE;
        }
        Film one = films.get(picture);
        return new int[] {one.kind, one.parts.size(), one.order != null ? 1 : 0, leftOf(one), one.place,
            one.idle, one.shot, one.changes, one.drafts}[what];
    }

    public int left(int picture, int scene) {
        return hasPart(picture, scene) ? films.get(picture).parts.get(scene).left : NONE;
    }

    // ---- hands, code, cutting ----

    public int draft(int picture, int hand, int s) {
        if (!has(films, picture) || !in(hand, 0, 5) || !has(boards, s)) {
            return no(-1);
        }
        if (noRow(s) != 0) {
            return no(noRow(s));
        }
        Film film = films.get(picture);
        if (film.drafts == 8) {
            return no(-7);
        }
        List<Long> newer = List.copyOf(boards.get(s).elements);
        List<Long> older = film.drafts == 0 ? List.of() : film.lines;
        List<Integer> hands = new ArrayList<>();
        int kept = 0;
        int i = 0;
        int j = 0;
        while (j < newer.size()) {
            int can = canKeep(older.subList(i, older.size()), newer.subList(j, newer.size()));
            boolean alike = i < older.size() && older.get(i).equals(newer.get(j));
            if (alike && can == 1 + canKeep(older.subList(i + 1, older.size()), newer.subList(j + 1, newer.size()))) {
                hands.add(film.hands.get(i++));
                j++;
                kept++;
            } else if (i < older.size()
                    && can == canKeep(older.subList(i + 1, older.size()), newer.subList(j, newer.size()))) {
                i++;
            } else {
                hands.add(hand);
                j++;
            }
        }
        film.drafts++;
        film.lines = newer;
        film.hands = hands;
        return kept;
    }

    /** As many like lines in order, each once, as two rows have. */
    private static int canKeep(List<Long> a, List<Long> b) {
        int[][] most = new int[a.size() + 1][b.size() + 1];
        for (int i = 1; i <= a.size(); i++) {
            for (int j = 1; j <= b.size(); j++) {
                int both = most[i - 1][j - 1] + (a.get(i - 1).equals(b.get(j - 1)) ? 1 : 0);
                most[i][j] = Math.max(both, Math.max(most[i - 1][j], most[i][j - 1]));
            }
        }
        return most[a.size()][b.size()];
    }

    public int credit(int picture, int hand) {
        if (!has(films, picture) || !in(hand, 0, 5)) {
            return NONE;
        }
        return (int) films.get(picture).hands.stream().filter(h -> h == hand).count();
    }

    public int named(int picture) {
        if (!has(films, picture)) {
            return no(-1);
        }
        int bits = 0;
        for (int hand = 0; hand < 6; hand++) {
            int credit = credit(picture, hand);
            bits += credit >= 1 && 5 * credit >= films.get(picture).lines.size() ? 1 << hand : 0;
        }
        return bits;
    }

    public int code(int mark, int n) {
        if (!in(mark, 0, 3)) {
            return no(-1);
        }
        if (!in(n, 0, 9)) {
            return no(-6);
        }
        int was = code[mark];
        code[mark] = n;
        return was;
    }

    public int barred(int picture, int scene) {
        if (!hasPart(picture, scene)) {
            return no(-1);
        }
        int bits = 0;
        for (int mark = 0; mark < 4; mark++) {
            bits += films.get(picture).parts.get(scene).marks[mark] > code[mark] ? 1 << mark : 0;
        }
        return bits;
    }

    public int mend(int picture) {
        if (!has(films, picture)) {
            return no(-1);
        }
        int go = 0;
        for (Part one : films.get(picture).parts) {
            for (int mark = 0; mark < 4; mark++) {
                go += one.marks[mark] > code[mark] ? one.marks[mark] - code[mark] : 0;
            }
        }
        return go;
    }

    public int take(int picture, int scene, int length, int worth, int facts) {
        if (!hasPart(picture, scene)) {
            return no(-1);
        }
        if (!in(length, 1, 99) || !in(worth, 0, 99) || !in(facts, 0, 99)) {
            return no(-6);
        }
        List<int[]> takes = films.get(picture).parts.get(scene).takes;
        if (takes.size() == 4) {
            return no(-7);
        }
        takes.add(new int[] {length, worth, facts / 10, facts % 10});
        return takes.size() - 1;
    }

    public int reel(int picture, int length) {
        if (!has(films, picture)) {
            return no(-1);
        }
        if (!in(length, 0, 400)) {
            return no(-6);
        }
        Film film = films.get(picture);
        int[] best = {NONE, 0};
        goThroughReels(film, new ArrayList<>(), length, best);
        return best[0];
    }

    private void goThroughReels(Film film, List<Integer> reel, int most, int[] best) {
        if (reel.size() < film.parts.size()) {
            int takes = film.parts.get(reel.size()).takes.size();
            for (int take = 0; take <= takes; take++) {
                reel.add(take < takes ? take : NONE);
                goThroughReels(film, reel, most, best);
                reel.remove(reel.size() - 1);
            }
            return;
        }
        int length = 0;
        int worth = 0;
        int[] ahead = null;
        for (int scene = 0; scene < reel.size(); scene++) {
            if (reel.get(scene) != NONE) {
                int[] one = film.parts.get(scene).takes.get(reel.get(scene));
                if (ahead != null && ahead[3] != one[2]) {
                    return;
                }
                length += one[0];
                worth += one[1];
                ahead = one;
            }
        }
        if (length <= most && (worth > best[0] || worth == best[0] && length < best[1])) {
            best[0] = worth;
            best[1] = length;
            film.reel = List.copyOf(reel);
        }
    }

    public int reelTake(int picture, int scene) {
        return hasPart(picture, scene) && has(films.get(picture).reel, scene) ? films.get(picture).reel.get(scene) : NONE;
    }

    public int land(int kind, int share) {
        if (!in(kind, 0, 3)) {
            return no(-1);
        }
        if (!in(share, 0, 99)) {
            return no(-6);
        }
        int was = shares[kind];
        shares[kind] = share;
        return was;
    }

    public int preview(int picture, int kind, int came, int liked) {
        if (!has(films, picture) || !in(kind, 0, 3)) {
            return no(-1);
        }
        if (!in(came, 1, 99) || !in(liked, 0, came)) {
            return no(-6);
        }
        Film one = films.get(picture);
        if (one.came[kind] + came > 999) {
            return no(-7);
        }
        one.liked[kind] += liked;
        return one.came[kind] += came;
    }

    public long putRight(int picture, boolean lower) {
        if (!has(films, picture)) {
            return -1000;
        }
        Film one = films.get(picture);
        BigInteger all = BigInteger.ONE;
        int sum = 0;
        for (int kind = 0; kind < 4; kind++) {
            all = all.multiply(BigInteger.valueOf(Math.max(1, one.came[kind])));
            sum += one.came[kind] > 0 ? shares[kind] : 0;
        }
        if (sum == 0) {
            return lower ? 1 : 0;
        }
        BigInteger upper = BigInteger.ZERO;
        for (int kind = 0; kind < 4; kind++) {
            if (one.came[kind] > 0) {
                BigInteger times = BigInteger.valueOf(shares[kind] * one.liked[kind]);
                upper = upper.add(all.multiply(times).divide(BigInteger.valueOf(one.came[kind])));
            }
        }
        BigInteger under = all.multiply(BigInteger.valueOf(sum));
        return (lower ? under : upper).divide(upper.gcd(under)).longValueExact();
    }

    // ---- halls and years ----

    public int hall(int town, int rank, int part) {
        if (!in(town, 0, 2)) {
            return no(-1);
        }
        if (!in(rank, 0, 3) || !in(part, 0, 90)) {
            return no(-6);
        }
        if (houses.size() == 6) {
            return no(-7);
        }
        House one = new House();
        one.town = town;
        one.rank = rank;
        one.part = part;
        houses.add(one);
        return houses.size() - 1;
    }

    public int clearance(int n) {
        if (!in(n, 0, 9)) {
            return no(-6);
        }
        int was = clearance;
        clearance = n;
        return was;
    }

    private boolean may(int picture, House house, int week) {
        for (House one : houses) {
            for (Map.Entry<Integer, Integer> showing : one.shows.entrySet()) {
                boolean near = Math.abs(showing.getKey() - week) <= clearance;
                if (one.town == house.town && one.rank != house.rank && near && showing.getValue() == picture) {
                    return false;
                }
            }
        }
        return !house.shows.containsKey(week);
    }

    public int book(int picture, int hall, int week) {
        if (!has(films, picture) || !has(houses, hall)) {
            return no(-1);
        }
        if (!in(week, 0, 39) || !may(picture, houses.get(hall), week)) {
            return no(-6);
        }
        houses.get(hall).shows.put(week, picture);
        return 1;
    }

    public int block(int hall, int pictures, int week) {
        if (!has(houses, hall) || pictures < 0 || pictures >= 1 << films.size()) {
            return no(-1);
        }
        if (!in(week, 0, 39) || pictures == 0) {
            return no(-6);
        }
        House house = houses.get(hall);
        Map<Integer, Integer> were = new TreeMap<>(house.shows);
        TreeSet<Integer> weeks = new TreeSet<>();
        for (int picture = 0; picture < films.size(); picture++) {
            if ((pictures >> picture & 1) == 1) {
                int free = week;
                while (free < 40 && !may(picture, house, free)) {
                    free++;
                }
                if (free == 40) {
                    house.shows = were;
                    return no(-6);
                }
                house.shows.put(free, picture);
                weeks.add(free);
            }
        }
        return weeks.last();
    }

    public int shown(int hall, int week) {
        return has(houses, hall) ? houses.get(hall).shows.getOrDefault(week, NONE) : NONE;
    }

    public int takings(int hall, int week, int coins) {
        if (!has(houses, hall)) {
            return no(-1);
        }
        House house = houses.get(hall);
        if (!house.shows.containsKey(week) || house.told.contains(week) || !in(coins, 0, 99999)) {
            return no(-6);
        }
        house.told.add(week);
        int its = coins * house.part / 100;
        house.got += its;
        int first = coins - its;
        int rest = first;
        for (int who : castOf(films.get(house.shows.get(week)))) {
            Human one = humans.get(who);
            if (under(one, now)) {
                int gets = Math.min(first * count(one, 'p', now) / 100, rest);
                one.got += gets;
                rest -= gets;
            }
        }
        purse += rest;
        return rest;
    }

    public int got(int what, int i) {
        if (what == 0 && has(houses, i)) {
            return houses.get(i).got;
        }
        return what == 1 && has(humans, i) ? humans.get(i).got : NONE;
    }

    public int lot(int picture, int n) {
        if (!has(films, picture)) {
            return no(-1);
        }
        if (!in(n, 1, 4)) {
            return no(-6);
        }
        int was = films.get(picture).lot;
        films.get(picture).lot = n;
        return was;
    }

    public int worth(int picture, int slot, int n) {
        if (!has(films, picture)) {
            return no(-1);
        }
        if (!in(slot, 0, 7) || !in(n, 0, 999)) {
            return no(-6);
        }
        int was = films.get(picture).worths[slot];
        films.get(picture).worths[slot] = n;
        return was;
    }

    public int plan(int stages) {
        if (!in(stages, 1, 3)) {
            return no(-6);
        }
        if (films.size() > 5) {
            return no(-7);
        }
        int[] best = {NONE};
        List<TreeSet<Integer>> casts = new ArrayList<>();
        films.forEach(film -> casts.add(castOf(film)));
        goThroughPlans(new ArrayList<>(), casts, stages, best);
        return best[0];
    }

    private void goThroughPlans(List<Integer> slots, List<TreeSet<Integer>> casts, int stages, int[] best) {
        if (!canBe(slots, casts, stages)) {
            return;
        }
        if (slots.size() < films.size()) {
            for (int slot = 0; slot <= 8; slot++) {
                slots.add(slot < 8 ? slot : NONE);
                goThroughPlans(slots, casts, stages, best);
                slots.remove(slots.size() - 1);
            }
            return;
        }
        int sum = 0;
        for (int i = 0; i < slots.size(); i++) {
            sum += slots.get(i) == NONE ? 0 : films.get(i).worths[slots.get(i)];
        }
        if (sum > best[0]) {
            best[0] = sum;
            plan = List.copyOf(slots);
        }
    }

    private boolean canBe(List<Integer> slots, List<TreeSet<Integer>> casts, int stages) {
        int[] used = new int[8];
        for (int i = 0; i < slots.size(); i++) {
            int from = slots.get(i);
            boolean great = KINDS.get(films.get(i).kind).contains(3);
            if (great && from != NONE && from != 0 && from != 4) {
                return false;
            }
            for (int slot = from; from != NONE && slot < 8 && slot < from + films.get(i).lot; slot++) {
                if (++used[slot] > stages) {
                    return false;
                }
                for (int k = 0; k < i; k++) {
                    int begin = slots.get(k);
                    boolean there = begin != NONE && begin <= slot && slot < begin + films.get(k).lot;
                    if (there && casts.get(i).stream().anyMatch(casts.get(k)::contains)) {
                        return false;
                    }
                }
            }
        }
        return true;
    }

    public int planned(int picture) {
        return has(plan, picture) ? plan.get(picture) : NONE;
    }

    public int status(int what) {
        int under = 0;
        int suspended = 0;
        int lent = 0;
        for (Human one : humans) {
            under += under(one, now) ? 1 : 0;
            suspended += one.suspended ? 1 : 0;
            lent += lent(one, now) ? 1 : 0;
        }
        int showings = 0;
        for (House one : houses) {
            showings += one.shows.size();
        }
        if (in(what, 11, 17)) {
            return refusals[what - 10];
        }
        int[] all = {humans.size(), films.size(), laws.size(), houses.size(), now, purse, under, suspended, lent,
            showings};
        return in(what, 0, 9) ? all[what] : NONE;
    }
}
