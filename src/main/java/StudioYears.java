/**
 * A film works through its years: people under terms, pictures in scenes, drafts, a code, reels,
 * previews, halls and a plan of the year. The words in comments are those of the document.
 */
public final class StudioYears {
    public static final int NONE = -1;

    private static final int FINE = 0;
    private static final int NOBODY = -1;
    private static final int OTHER = -2;
    private static final int NOTHING = -3;
    private static final int BELOW = -4;
    private static final int BEYOND = -5;
    private static final int WRONG = -6;
    private static final int ROOM = -7;
    private static final int REFUSALS = 7;

    private static final int SHELVES = 8;
    private static final int MOST_ELEMENTS = 60;
    private static final int MOST_PEOPLE = 16;
    private static final int MOST_LAWS = 8;
    private static final int MOST_PICTURES = 8;
    private static final int MOST_PLANNED = 5;
    private static final int MOST_SCENES = 8;
    private static final int MOST_LEFT = 9;
    private static final int MOST_TAKES = 4;
    private static final int MOST_DRAFTS = 8;
    private static final int MOST_CAME = 999;
    private static final int MOST_COINS = 99999;
    private static final int MOST_HALLS = 6;
    private static final int HANDS = 6;
    private static final int MARKS = 4;
    private static final int CROWDS = 4;
    private static final int TOWNS = 3;
    private static final int HALL_WEEKS = 40;
    private static final int SLOTS = 8;
    private static final int LAST_DAY = 4000;
    private static final int WEEK = 7;
    private static final int YEAR = 364;

    private static final int GREAT = 3;
    /** Of each KIND the one that it is under. */
    private static final int[] KIND_ABOVE = {NONE, 0, 1, 0, 3, 0};

    /** The letters of CLAUSES: those that laws may strike by their numbers, then y. */
    private static final int LETTER_W = 0;
    private static final int LETTER_S = 1;
    private static final int LETTER_R = 2;
    private static final int LETTER_P = 3;
    private static final int LETTER_L = 4;
    private static final int LETTER_Y = 5;
    private static final int LETTERS = 6;
    private static final int STRIKABLE = 5;
    private static final int[] LETTER_SIGN = {'w', 's', 'r', 'p', 'l', 'y'};
    private static final int[] LETTER_LEAST = {0, 0, 0, 0, 0, 1};
    private static final int[] LETTER_MOST = {52, 1, 9, 50, 99, 9};
    private static final int[] LETTER_WITHOUT = {52, 0, 0, 0, 0, 1};

    private final Shelf[] shelves = new Shelf[SHELVES];
    private final Person[] people = new Person[MOST_PEOPLE];
    private final Picture[] pictures = new Picture[MOST_PICTURES];
    private final Hall[] halls = new Hall[MOST_HALLS];
    private final Laws laws = new Laws();
    private final TermReader terms = new TermReader();
    private final Orders orders = new Orders();
    private final Drafts drafts = new Drafts();
    private final Reels reels = new Reels();
    private final Plans plans = new Plans();
    private final int[] mostOfMark = new int[MARKS];
    private final int[] shares = new int[CROWDS];
    private final int[] refusals = new int[REFUSALS];
    private int personCount = 0;
    private int pictureCount = 0;
    private int hallCount = 0;
    private int now = 0;
    private int purse = 0;
    private int clearanceWeeks = 2;

    public StudioYears() {
        for (int s = 0; s < SHELVES; s++) {
            shelves[s] = new Shelf();
        }
        for (int mark = 0; mark < MARKS; mark++) {
            mostOfMark[mark] = 9;
        }
    }

    // ---- people, shelves, terms ----

    public int person(int pay) {
        if (pay < 1 || pay > 999) {
            return refused(WRONG);
        }
        if (personCount >= MOST_PEOPLE) {
            return refused(ROOM);
        }
        people[personCount] = new Person(pay);
        orders.dayPays[personCount] = pay / WEEK;
        return personCount++;
    }

    public int row(int s, int sort, int n) {
        Shelf shelf = shelfAt(s);
        if (shelf == null) {
            return refused(NOBODY);
        }
        if (n < 0) {
            return refused(BELOW);
        }
        if (sort < 0 || sort > 3) {
            return refused(WRONG);
        }
        if (n > MOST_ELEMENTS) {
            return refused(ROOM);
        }
        shelf.becomeRow(sort, n);
        return 1;
    }

    public int set(int s, int i, long v) {
        int lack = rowLack(s);
        if (lack != FINE) {
            return refused(lack);
        }
        Shelf shelf = shelves[s];
        if (i < 0 || i >= shelf.size) {
            return refused(BEYOND);
        }
        shelf.elements[i] = shelf.lowestBits(v);
        return 1;
    }

    public int copy(int p, int q, int i, int j, int n) {
        Shelf from = shelfAt(p);
        Shelf to = shelfAt(q);
        if (from == null || to == null) {
            return refused(NOBODY);
        }
        if (from.lackOfRow() == OTHER || to.lackOfRow() == OTHER) {
            return refused(OTHER);
        }
        boolean bothRows = from.lackOfRow() == FINE && to.lackOfRow() == FINE;
        if (!bothRows) {
            return refused(NOTHING);
        }
        if (from.sort != to.sort) {
            return refused(OTHER);
        }
        if (n < 0) {
            return refused(BELOW);
        }
        if (!from.hasSpan(i, n) || !to.hasSpan(j, n)) {
            return refused(BEYOND);
        }
        System.arraycopy(from.elements, i, to.elements, j, n);
        return 1;
    }

    public long element(int s, int i) {
        Shelf shelf = shelfAt(s);
        if (shelf == null || shelf.lackOfRow() != FINE || i < 0 || i >= shelf.size) {
            return 0;
        }
        return shelf.elements[i];
    }

    public int show(int s, int picture) {
        Shelf shelf = shelfAt(s);
        if (shelf == null || picture < NONE || picture >= pictureCount) {
            return refused(NOBODY);
        }
        shelf.becomePicture(picture);
        return picture == NONE ? 0 : 1;
    }

    public int holds(int s) {
        Shelf shelf = shelfAt(s);
        if (shelf == null) {
            return NONE;
        }
        return shelf.sort == NONE ? shelf.picture : 100 + shelf.sort;
    }

    public int kindIn(int s, int kind) {
        Shelf shelf = shelfAt(s);
        if (shelf == null || !isKind(kind)) {
            return refused(NOBODY);
        }
        if (shelf.sort != NONE) {
            return refused(OTHER);
        }
        Picture one = pictureAt(shelf.picture);
        if (one == null) {
            return refused(NOTHING);
        }
        return isUnderKind(one.kind, kind) ? one.kind : refused(OTHER);
    }

    public int term(int who, int s) {
        Person one = personAt(who);
        int lack = rowLack(s);
        if (one == null || lack == NOBODY) {
            return refused(NOBODY);
        }
        if (lack != FINE) {
            return refused(lack);
        }
        // The FAULT is told even of one who is UNDER a TERM: that call came to a ROW too.
        terms.read(shelves[s]);
        if (terms.faultPlace != NONE || one.isUnder(now)) {
            return refused(WRONG);
        }
        one.beginTerm(terms.clauses, now);
        return one.end;
    }

    public int fault() {
        return terms.faultPlace;
    }

    public int law(int letter, int day) {
        if (letter < 0 || letter >= STRIKABLE || day < now || day > LAST_DAY) {
            return refused(WRONG);
        }
        if (laws.count >= MOST_LAWS) {
            return refused(ROOM);
        }
        laws.strike(letter, day);
        return laws.count;
    }

    public int counts(int who, int letter, int day) {
        Person one = personAt(who);
        if (one == null || letter < 0 || letter >= STRIKABLE || one.end == NONE) {
            return NONE;
        }
        return one.countOf(letter, day, laws);
    }

    public int ill(int who, int s) {
        Person one = personAt(who);
        int lack = rowLack(s);
        if (one == null || lack == NOBODY) {
            return refused(NOBODY);
        }
        if (lack != FINE) {
            return refused(lack);
        }
        one.takeIllness(shelves[s]);
        return one.illSize;
    }

    public int refuse(int who) {
        Person one = personAt(who);
        if (one == null) {
            return refused(NOBODY);
        }
        if (!one.isAtWork(now)) {
            return refused(WRONG);
        }
        if (one.refusalsOn(now) < one.countOf(LETTER_R, now, laws)) {
            one.addRefusal(now);
            return 1;
        }
        one.suspended = true;
        return 0;
    }

    public int recall(int who) {
        Person one = personAt(who);
        if (one == null) {
            return refused(NOBODY);
        }
        if (!one.suspended) {
            return refused(WRONG);
        }
        one.suspended = false;
        return 1;
    }

    public int lend(int who, int n, int price) {
        Person one = personAt(who);
        if (one == null) {
            return refused(NOBODY);
        }
        if (n < 1 || n > 400 || price < 0 || price > MOST_COINS || !one.isAtWork(now)) {
            return refused(WRONG);
        }
        one.lentTo = now + n;
        int comes = price - price * one.countOf(LETTER_L, now, laws) / 100;
        purse += comes;
        return comes;
    }

    // ---- pictures and shooting ----

    public int picture(int kind) {
        if (!isKind(kind)) {
            return refused(NOBODY);
        }
        if (pictureCount >= MOST_PICTURES) {
            return refused(ROOM);
        }
        pictures[pictureCount] = new Picture(kind);
        return pictureCount++;
    }

    public int scene(int picture, int place, int cast, int days) {
        Picture one = pictureAt(picture);
        if (one == null || hasBitBeyond(cast, personCount)) {
            return refused(NOBODY);
        }
        if (place < 0 || place > 9 || days < 1 || days > 4 || one.begun) {
            return refused(WRONG);
        }
        if (one.sceneCount >= MOST_SCENES) {
            return refused(ROOM);
        }
        orders.forget();
        one.scenes[one.sceneCount] = new Scene(place, cast, days);
        return one.sceneCount++;
    }

    public int mark(int picture, int scene, int mark, int n) {
        Scene one = sceneAt(picture, scene);
        if (one == null || mark < 0 || mark >= MARKS) {
            return refused(NOBODY);
        }
        if (n < 0 || n > 9) {
            return refused(WRONG);
        }
        int was = one.marks[mark];
        one.marks[mark] = n;
        return was;
    }

    public int costs(int what, int n) {
        if (what < 0 || what > 1 || n < 0 || n > 999) {
            return refused(WRONG);
        }
        orders.forget();
        int was = what == 0 ? orders.fee : orders.change;
        if (what == 0) {
            orders.fee = n;
        } else {
            orders.change = n;
        }
        return was;
    }

    public int best(int picture) {
        Picture one = pictureAt(picture);
        if (one == null) {
            return refused(NOBODY);
        }
        if (one.sceneCount == 0) {
            return refused(WRONG);
        }
        orders.findBest(one);
        return orders.bestCost();
    }

    public int bestScene(int picture, int i) {
        Picture one = pictureAt(picture);
        if (one == null || i < 0 || i >= one.sceneCount) {
            return NONE;
        }
        orders.findBest(one);
        return orders.bestOrder[i];
    }

    public int bound(int picture) {
        Picture one = pictureAt(picture);
        return one == null ? refused(NOBODY) : orders.boundOf(one);
    }

    public int judge(int picture, int s) {
        int lack = orderLack(picture, s);
        return lack != FINE ? refused(lack) : orders.costOf(pictures[picture]);
    }

    public int begin(int picture, int s) {
        int lack = orderLack(picture, s);
        if (lack != FINE) {
            return refused(lack);
        }
        Picture one = pictures[picture];
        if (one.begun || one.sceneCount == 0) {
            return refused(WRONG);
        }
        one.beginShooting(orders.told);
        return orders.costOf(one);
    }

    public int retake(int picture, int scene) {
        Scene one = sceneAt(picture, scene);
        if (one == null) {
            return refused(NOBODY);
        }
        if (!pictures[picture].begun) {
            return refused(WRONG);
        }
        if (one.left >= MOST_LEFT) {
            return refused(ROOM);
        }
        one.left++;
        return one.left;
    }

    public int days(int n) {
        if (n < 1 || n > 100) {
            return refused(WRONG);
        }
        if (n > LAST_DAY - now) {
            return refused(ROOM);
        }
        for (int i = 0; i < n; i++) {
            liveDay();
        }
        return now;
    }

    public int who(int who, int what) {
        Person one = personAt(who);
        if (one == null) {
            return NONE;
        }
        switch (what) {
            case 0:
                return one.pay;
            case 1:
                return one.end;
            case 2:
                return one.isUnder(now) ? 1 : 0;
            case 3:
                return one.suspended ? 1 : 0;
            case 4:
                return one.lentTo;
            case 5:
                return one.weeksPaid;
            case 6:
                return one.isUnder(now) ? one.refusalsOn(now) : 0;
            case 7:
                return one.isReady(now) ? 1 : 0;
            default:
                return NONE;
        }
    }

    public int about(int picture, int what) {
        Picture one = pictureAt(picture);
        if (one == null) {
            return NONE;
        }
        switch (what) {
            case 0:
                return one.kind;
            case 1:
                return one.sceneCount;
            case 2:
                return one.begun ? 1 : 0;
            case 3:
                return one.leftOfAll();
            case 4:
                return one.standingPlace;
            case 5:
                return one.idleDays;
            case 6:
                return one.shotDays;
            case 7:
                return one.changesMade;
            case 8:
                return one.draftCount;
            default:
                return NONE;
        }
    }

    public int left(int picture, int scene) {
        Scene one = sceneAt(picture, scene);
        return one == null ? NONE : one.left;
    }

    // ---- hands, code, cutting ----

    public int draft(int picture, int hand, int s) {
        Picture one = pictureAt(picture);
        int lack = rowLack(s);
        if (one == null || hand < 0 || hand >= HANDS || lack == NOBODY) {
            return refused(NOBODY);
        }
        if (lack != FINE) {
            return refused(lack);
        }
        if (one.draftCount >= MOST_DRAFTS) {
            return refused(ROOM);
        }
        return drafts.add(one, hand, shelves[s]);
    }

    public int credit(int picture, int hand) {
        Picture one = pictureAt(picture);
        if (one == null || hand < 0 || hand >= HANDS) {
            return NONE;
        }
        return one.linesOf(hand);
    }

    public int named(int picture) {
        Picture one = pictureAt(picture);
        if (one == null) {
            return refused(NOBODY);
        }
        int bits = 0;
        for (int hand = 0; hand < HANDS; hand++) {
            int lines = one.linesOf(hand);
            if (lines > 0 && 5 * lines >= one.lineCount) {
                bits |= 1 << hand;
            }
        }
        return bits;
    }

    public int code(int mark, int n) {
        if (mark < 0 || mark >= MARKS) {
            return refused(NOBODY);
        }
        if (n < 0 || n > 9) {
            return refused(WRONG);
        }
        int was = mostOfMark[mark];
        mostOfMark[mark] = n;
        return was;
    }

    public int barred(int picture, int scene) {
        Scene one = sceneAt(picture, scene);
        if (one == null) {
            return refused(NOBODY);
        }
        int bits = 0;
        for (int mark = 0; mark < MARKS; mark++) {
            if (one.marks[mark] > mostOfMark[mark]) {
                bits |= 1 << mark;
            }
        }
        return bits;
    }

    public int mend(int picture) {
        Picture one = pictureAt(picture);
        if (one == null) {
            return refused(NOBODY);
        }
        int go = 0;
        for (int scene = 0; scene < one.sceneCount; scene++) {
            for (int mark = 0; mark < MARKS; mark++) {
                go += Math.max(0, one.scenes[scene].marks[mark] - mostOfMark[mark]);
            }
        }
        return go;
    }

    public int take(int picture, int scene, int length, int worth, int facts) {
        Scene one = sceneAt(picture, scene);
        if (one == null) {
            return refused(NOBODY);
        }
        if (length < 1 || length > 99 || worth < 0 || worth > 99 || facts < 0 || facts > 99) {
            return refused(WRONG);
        }
        if (one.takeCount >= MOST_TAKES) {
            return refused(ROOM);
        }
        one.lengths[one.takeCount] = length;
        one.worths[one.takeCount] = worth;
        one.facts[one.takeCount] = facts;
        return one.takeCount++;
    }

    public int reel(int picture, int length) {
        Picture one = pictureAt(picture);
        if (one == null) {
            return refused(NOBODY);
        }
        if (length < 0 || length > 400) {
            return refused(WRONG);
        }
        return reels.findBest(one, length);
    }

    public int reelTake(int picture, int scene) {
        if (sceneAt(picture, scene) == null) {
            return NONE;
        }
        return pictures[picture].reelTakes[scene];
    }

    public int land(int kind, int share) {
        if (kind < 0 || kind >= CROWDS) {
            return refused(NOBODY);
        }
        if (share < 0 || share > 99) {
            return refused(WRONG);
        }
        int was = shares[kind];
        shares[kind] = share;
        return was;
    }

    public int preview(int picture, int kind, int came, int liked) {
        Picture one = pictureAt(picture);
        if (one == null || kind < 0 || kind >= CROWDS) {
            return refused(NOBODY);
        }
        if (came < 1 || came > 99 || liked < 0 || liked > came) {
            return refused(WRONG);
        }
        if (one.came[kind] + came > MOST_CAME) {
            return refused(ROOM);
        }
        one.came[kind] += came;
        one.liked[kind] += liked;
        return one.came[kind];
    }

    public long putRight(int picture, boolean lower) {
        Picture one = pictureAt(picture);
        if (one == null) {
            return -1000;
        }
        long upper = 0;
        long under = 1;
        long shareSum = 0;
        for (int kind = 0; kind < CROWDS; kind++) {
            int came = one.came[kind];
            if (came > 0) {
                upper = upper * came + under * shares[kind] * one.liked[kind];
                under *= came;
                shareSum += shares[kind];
            }
        }
        if (shareSum == 0) {
            return lower ? 1 : 0;
        }
        under *= shareSum;
        long common = commonDivisor(upper, under);
        long part = lower ? under : upper;
        return common > 0 ? part / common : part;
    }

    // ---- halls and years ----

    public int hall(int town, int rank, int part) {
        if (town < 0 || town >= TOWNS) {
            return refused(NOBODY);
        }
        if (rank < 0 || rank > 3 || part < 0 || part > 90) {
            return refused(WRONG);
        }
        if (hallCount >= MOST_HALLS) {
            return refused(ROOM);
        }
        halls[hallCount] = new Hall(town, rank, part);
        return hallCount++;
    }

    public int clearance(int n) {
        if (n < 0 || n > 9) {
            return refused(WRONG);
        }
        int was = clearanceWeeks;
        clearanceWeeks = n;
        return was;
    }

    public int book(int picture, int hall, int week) {
        Hall one = hallAt(hall);
        if (one == null || pictureAt(picture) == null) {
            return refused(NOBODY);
        }
        if (!isHallWeek(week) || !mayBook(picture, one, week)) {
            return refused(WRONG);
        }
        one.shows[week] = picture;
        return 1;
    }

    public int block(int hall, int pictures, int week) {
        Hall one = hallAt(hall);
        if (one == null || hasBitBeyond(pictures, pictureCount)) {
            return refused(NOBODY);
        }
        if (!isHallWeek(week) || pictures == 0) {
            return refused(WRONG);
        }
        int last = NONE;
        long got = 0;
        for (int number = 0; number < pictureCount; number++) {
            if ((pictures >> number & 1) == 1) {
                int free = earliestWeek(number, one, week);
                if (free == NONE) {
                    one.giveBack(got);
                    return refused(WRONG);
                }
                one.shows[free] = number;
                got |= 1L << free;
                last = Math.max(last, free);
            }
        }
        return last;
    }

    public int shown(int hall, int week) {
        Hall one = hallAt(hall);
        return one == null || !isHallWeek(week) ? NONE : one.shows[week];
    }

    public int takings(int hall, int week, int coins) {
        Hall one = hallAt(hall);
        if (one == null) {
            return refused(NOBODY);
        }
        if (!isHallWeek(week) || coins < 0 || coins > MOST_COINS || one.told[week]) {
            return refused(WRONG);
        }
        Picture what = pictureAt(one.shows[week]);
        if (what == null) {
            return refused(WRONG);
        }
        int hallGets = coins * one.part / 100;
        int rest = payParts(what, coins - hallGets);
        one.told[week] = true;
        one.coinsGot += hallGets;
        purse += rest;
        return rest;
    }

    public int got(int what, int i) {
        if (what == 0) {
            Hall one = hallAt(i);
            return one == null ? NONE : one.coinsGot;
        }
        if (what == 1) {
            Person one = personAt(i);
            return one == null ? NONE : one.coinsGot;
        }
        return NONE;
    }

    public int lot(int picture, int n) {
        Picture one = pictureAt(picture);
        if (one == null) {
            return refused(NOBODY);
        }
        if (n < 1 || n > 4) {
            return refused(WRONG);
        }
        int was = one.stageWeeks;
        one.stageWeeks = n;
        return was;
    }

    public int worth(int picture, int slot, int n) {
        Picture one = pictureAt(picture);
        if (one == null) {
            return refused(NOBODY);
        }
        if (slot < 0 || slot >= SLOTS || n < 0 || n > 999) {
            return refused(WRONG);
        }
        int was = one.slotWorths[slot];
        one.slotWorths[slot] = n;
        return was;
    }

    public int plan(int stages) {
        if (stages < 1 || stages > 3) {
            return refused(WRONG);
        }
        if (pictureCount > MOST_PLANNED) {
            return refused(ROOM);
        }
        return plans.findBest(pictures, pictureCount, stages);
    }

    public int planned(int picture) {
        return picture < 0 || picture >= plans.count ? NONE : plans.bestSlots[picture];
    }

    public int status(int what) {
        switch (what) {
            case 0:
                return personCount;
            case 1:
                return pictureCount;
            case 2:
                return laws.count;
            case 3:
                return hallCount;
            case 4:
                return now;
            case 5:
                return purse;
            case 6:
            case 7:
            case 8:
                return peopleWho(what);
            case 9:
                return showings();
            default:
                return what > 10 && what - 11 < refusals.length ? refusals[what - 11] : NONE;
        }
    }

    // ---- finding what a number means ----

    private int refused(int refusal) {
        if (refusal >= ROOM && refusal <= NOBODY) {
            refusals[-refusal - 1]++;
        }
        return refusal;
    }

    private Shelf shelfAt(int s) {
        return s < 0 || s >= SHELVES ? null : shelves[s];
    }

    private Person personAt(int who) {
        return who < 0 || who >= personCount ? null : people[who];
    }

    private Picture pictureAt(int number) {
        return number < 0 || number >= pictureCount ? null : pictures[number];
    }

    private Scene sceneAt(int number, int scene) {
        Picture one = pictureAt(number);
        return one == null || scene < 0 || scene >= one.sceneCount ? null : one.scenes[scene];
    }

    private Hall hallAt(int number) {
        return number < 0 || number >= hallCount ? null : halls[number];
    }

    /** The refusal where SHELF s should hold a ROW; FINE if it does. */
    private int rowLack(int s) {
        Shelf shelf = shelfAt(s);
        return shelf == null ? NOBODY : shelf.lackOfRow();
    }

    /** The refusal where SHELF s should hold an ORDER of a PICTURE; if FINE, orders has read it. */
    private int orderLack(int picture, int s) {
        Picture one = pictureAt(picture);
        if (one == null) {
            return NOBODY;
        }
        int lack = rowLack(s);
        if (lack != FINE) {
            return lack;
        }
        return orders.readOrder(one, shelves[s]) ? FINE : WRONG;
    }

    private static boolean hasBitBeyond(int bits, int count) {
        return bits >>> count != 0;
    }

    private static boolean isHallWeek(int week) {
        return week >= 0 && week < HALL_WEEKS;
    }

    private static boolean isKind(int kind) {
        return kind >= 0 && kind < KIND_ABOVE.length;
    }

    private static boolean isUnderKind(int kind, int above) {
        int at = kind;
        for (int step = 0; step < KIND_ABOVE.length && isKind(at); step++) {
            if (at == above) {
                return true;
            }
            at = KIND_ABOVE[at];
        }
        return false;
    }

    private static long commonDivisor(long one, long other) {
        long a = one;
        long b = other;
        // Euclid's steps on two longs stay far below 200.
        for (int step = 0; step < 200 && b != 0; step++) {
            long rest = a % b;
            a = b;
            b = rest;
        }
        return a;
    }

    // ---- living a day ----

    private void liveDay() {
        int free = readyPeople();
        for (int number = 0; number < pictureCount; number++) {
            Picture one = pictures[number];
            if (one.begun && one.leftOfAll() > 0) {
                free &= ~shoot(one, free);
            }
        }
        lengthenSuspended();
        if (now % WEEK == WEEK - 1) {
            payWeek();
        }
        now++;
        for (int who = 0; who < personCount; who++) {
            people[who].settle(now);
        }
    }

    private int readyPeople() {
        int bits = 0;
        for (int who = 0; who < personCount; who++) {
            if (people[who].isReady(now)) {
                bits |= 1 << who;
            }
        }
        return bits;
    }

    /** A PICTURE's work on NOW with who is free; answers who is used by it. */
    private int shoot(Picture one, int free) {
        int number = one.nextScene(free);
        if (number == NONE) {
            one.idleDays++;
            return 0;
        }
        Scene scene = one.scenes[number];
        if (scene.place != one.standingPlace) {
            one.standingPlace = scene.place;
            one.changesMade++;
            purse -= orders.change;
            return 0;
        }
        scene.left--;
        one.shotDays++;
        purse -= orders.fee;
        return scene.cast;
    }

    private void lengthenSuspended() {
        for (int who = 0; who < personCount; who++) {
            Person one = people[who];
            if (one.suspended && one.countOf(LETTER_S, now, laws) == 1) {
                one.end++;
            }
        }
    }

    private void payWeek() {
        for (int who = 0; who < personCount; who++) {
            Person one = people[who];
            if (one.isAtWork(now) && one.paidOn(now) < one.countOf(LETTER_W, now, laws)) {
                one.addPaidWeek(now);
                purse -= one.pay;
            }
        }
    }

    // ---- halls ----

    private boolean mayBook(int picture, Hall where, int week) {
        if (where.shows[week] != NONE) {
            return false;
        }
        for (int number = 0; number < hallCount; number++) {
            Hall one = halls[number];
            boolean clears = one.town == where.town && one.rank != where.rank;
            if (clears && one.showsNear(picture, week, clearanceWeeks)) {
                return false;
            }
        }
        return true;
    }

    private int earliestWeek(int picture, Hall where, int from) {
        for (int week = from; week < HALL_WEEKS; week++) {
            if (mayBook(picture, where, week)) {
                return week;
            }
        }
        return NONE;
    }

    /** Gives each of PEOPLE of a PICTURE its part of what is left; answers the rest. */
    private int payParts(Picture what, int left) {
        int cast = what.castOfAll();
        int rest = left;
        for (int who = 0; who < personCount; who++) {
            Person one = people[who];
            if ((cast >> who & 1) == 1 && one.isUnder(now)) {
                int gets = Math.min(rest, left * one.countOf(LETTER_P, now, laws) / 100);
                one.coinsGot += gets;
                rest -= gets;
            }
        }
        return rest;
    }

    // ---- counting ----

    /** How many are UNDER (what 6), SUSPENDED (7) or LENT (8). */
    private int peopleWho(int what) {
        int count = 0;
        for (int who = 0; who < personCount; who++) {
            Person one = people[who];
            boolean counted = what == 6 ? one.isUnder(now)
                    : what == 7 ? one.suspended : one.lentTo != NONE;
            if (counted) {
                count++;
            }
        }
        return count;
    }

    private int showings() {
        int count = 0;
        for (int number = 0; number < hallCount; number++) {
            for (int week = 0; week < HALL_WEEKS; week++) {
                if (halls[number].shows[week] != NONE) {
                    count++;
                }
            }
        }
        return count;
    }

    /** A SHELF: a ROW if sort isn't NONE, else a PICTURE if picture isn't NONE, else NOTHING. */
    private static final class Shelf {
        final long[] elements = new long[MOST_ELEMENTS];
        int sort = NONE;
        int size = 0;
        int picture = NONE;

        void becomeRow(int newSort, int newSize) {
            sort = newSort;
            size = newSize;
            picture = NONE;
            for (int i = 0; i < MOST_ELEMENTS; i++) {
                elements[i] = 0;
            }
        }

        void becomePicture(int number) {
            sort = NONE;
            size = 0;
            picture = number;
        }

        /** The refusal if a ROW is wanted here; FINE if this is one. */
        int lackOfRow() {
            if (sort != NONE) {
                return FINE;
            }
            return picture != NONE ? OTHER : NOTHING;
        }

        boolean hasSpan(int from, int count) {
            return from >= 0 && (long) from + count <= size;
        }

        long lowestBits(long value) {
            switch (sort) {
                case 0:
                    return (byte) value;
                case 1:
                    return (short) value;
                case 2:
                    return (int) value;
                default:
                    return value;
            }
        }
    }

    /** LAWS: each strikes a letter from a DAY on. */
    private static final class Laws {
        final int[] letters = new int[MOST_LAWS];
        final int[] fromDays = new int[MOST_LAWS];
        int count = 0;

        void strike(int letter, int day) {
            if (count < MOST_LAWS) {
                letters[count] = letter;
                fromDays[count] = day;
                count++;
            }
        }

        boolean areAgainst(int letter, int day) {
            for (int i = 0; i < count; i++) {
                if (letters[i] == letter && fromDays[i] <= day) {
                    return true;
                }
            }
            return false;
        }
    }

    /** Reads a ROW as a TERM, sign by sign. */
    private static final class TermReader {
        /** The numbers of CLAUSES by letter; NONE: no such CLAUSE (or no digit of it yet). */
        final int[] clauses = new int[LETTERS];
        int openLetter = NONE;
        int faultPlace = NONE;

        void read(Shelf row) {
            openLetter = NONE;
            for (int letter = 0; letter < LETTERS; letter++) {
                clauses[letter] = NONE;
            }
            faultPlace = findFault(row);
        }

        private int findFault(Shelf row) {
            for (int at = 0; at < row.size; at++) {
                int sign = (int) row.elements[at];
                boolean digit = sign >= '0' && sign <= '9';
                if (digit ? !addDigit(sign - '0') : !openClause(sign)) {
                    return at;
                }
            }
            return hasNumber() ? NONE : row.size;
        }

        private boolean hasNumber() {
            return openLetter != NONE && clauses[openLetter] != NONE;
        }

        private boolean addDigit(int digit) {
            if (openLetter == NONE) {
                return false;
            }
            int ahead = clauses[openLetter];
            int number = ahead == NONE ? digit : ahead * 10 + digit;
            if (ahead == 0 || number < LETTER_LEAST[openLetter] || number > LETTER_MOST[openLetter]) {
                return false;
            }
            clauses[openLetter] = number;
            return true;
        }

        private boolean openClause(int sign) {
            if (openLetter != NONE && !hasNumber()) {
                return false;
            }
            for (int letter = 0; letter < LETTERS; letter++) {
                if (LETTER_SIGN[letter] == sign && clauses[letter] == NONE) {
                    openLetter = letter;
                    return true;
                }
            }
            return false;
        }
    }

    /** One of PEOPLE. */
    private static final class Person {
        final int pay;
        final int[] clauses = new int[LETTERS];
        final long[] illDays = new long[MOST_ELEMENTS];
        int illSize = 0;
        int beginDay = 0;
        /** END of the latest TERM; NONE: no TERM yet. */
        int end = NONE;
        boolean suspended = false;
        int lentTo = NONE;
        int weeksPaid = 0;
        int paidYear = 0;
        int paidInYear = 0;
        int refusalYear = 0;
        int refusalsInYear = 0;
        int coinsGot = 0;

        Person(int pay) {
            this.pay = pay;
        }

        void beginTerm(int[] read, int day) {
            for (int letter = 0; letter < LETTERS && letter < read.length; letter++) {
                clauses[letter] = read[letter] == NONE ? LETTER_WITHOUT[letter] : read[letter];
            }
            beginDay = day;
            end = day + YEAR * clauses[LETTER_Y];
            paidYear = 0;
            paidInYear = 0;
            refusalYear = 0;
            refusalsInYear = 0;
        }

        int countOf(int letter, int day, Laws laws) {
            return laws.areAgainst(letter, day) ? LETTER_WITHOUT[letter] : clauses[letter];
        }

        boolean isUnder(int day) {
            return end != NONE && day >= beginDay && day < end;
        }

        /** UNDER, not SUSPENDED and not LENT. */
        boolean isAtWork(int day) {
            return isUnder(day) && !suspended && lentTo == NONE;
        }

        boolean isReady(int day) {
            return isAtWork(day) && !isIll(day);
        }

        private boolean isIll(int day) {
            return illSize > 0 && illDays[day % illSize] != 0;
        }

        void takeIllness(Shelf row) {
            illSize = row.size;
            System.arraycopy(row.elements, 0, illDays, 0, illSize);
        }

        private int yearOfTerm(int day) {
            return (day - beginDay) / YEAR;
        }

        int paidOn(int day) {
            return paidYear == yearOfTerm(day) ? paidInYear : 0;
        }

        void addPaidWeek(int day) {
            paidInYear = paidOn(day) + 1;
            paidYear = yearOfTerm(day);
            weeksPaid++;
        }

        int refusalsOn(int day) {
            return refusalYear == yearOfTerm(day) ? refusalsInYear : 0;
        }

        void addRefusal(int day) {
            refusalsInYear = refusalsOn(day) + 1;
            refusalYear = yearOfTerm(day);
        }

        /** What ends by itself as a DAY comes: lending at its DAY, all with the TERM. */
        void settle(int day) {
            if (!isUnder(day)) {
                suspended = false;
                lentTo = NONE;
            } else if (lentTo <= day) {
                lentTo = NONE;
            }
        }
    }

    private static final class Picture {
        final int kind;
        final Scene[] scenes = new Scene[MOST_SCENES];
        int sceneCount = 0;
        boolean begun = false;
        final int[] order = new int[MOST_SCENES];
        int standingPlace = NONE;
        int idleDays = 0;
        int shotDays = 0;
        int changesMade = 0;
        int draftCount = 0;
        /** The lines of the last DRAFT, with the HAND of each. */
        final long[] lines = new long[MOST_ELEMENTS];
        final int[] hands = new int[MOST_ELEMENTS];
        int lineCount = 0;
        final int[] reelTakes = new int[MOST_SCENES];
        final int[] came = new int[CROWDS];
        final int[] liked = new int[CROWDS];
        int stageWeeks = 1;
        final int[] slotWorths = new int[SLOTS];

        Picture(int kind) {
            this.kind = kind;
            for (int scene = 0; scene < MOST_SCENES; scene++) {
                reelTakes[scene] = NONE;
            }
        }

        void beginShooting(int[] told) {
            begun = true;
            for (int i = 0; i < sceneCount && i < told.length; i++) {
                order[i] = told[i];
                scenes[i].left = scenes[i].shootingDays;
            }
        }

        int leftOfAll() {
            int sum = 0;
            for (int i = 0; i < sceneCount; i++) {
                sum += scenes[i].left;
            }
            return sum;
        }

        /** In its ORDER the first SCENE with LEFT DAYS whose CAST is free; NONE. */
        int nextScene(int free) {
            for (int i = 0; i < sceneCount; i++) {
                Scene one = scenes[order[i]];
                if (one.left > 0 && (one.cast & ~free) == 0) {
                    return order[i];
                }
            }
            return NONE;
        }

        int castOfAll() {
            int cast = 0;
            for (int i = 0; i < sceneCount; i++) {
                cast |= scenes[i].cast;
            }
            return cast;
        }

        int linesOf(int hand) {
            int count = 0;
            for (int i = 0; i < lineCount; i++) {
                if (hands[i] == hand) {
                    count++;
                }
            }
            return count;
        }
    }

    private static final class Scene {
        final int place;
        final int cast;
        final int shootingDays;
        int left = 0;
        final int[] marks = new int[MARKS];
        int takeCount = 0;
        final int[] lengths = new int[MOST_TAKES];
        final int[] worths = new int[MOST_TAKES];
        /** Of each TAKE 10 times the fact at its beginning and that at its end. */
        final int[] facts = new int[MOST_TAKES];

        Scene(int place, int cast, int shootingDays) {
            this.place = place;
            this.cast = cast;
            this.shootingDays = shootingDays;
        }
    }

    /** COSTS of ORDERS, and the BEST of them by sets of SCENES that are behind. */
    private static final class Orders {
        private static final int SETS = 256;
        /** Far above any COST: all there may be comes to some 113,000. */
        private static final int BEYOND_ANY_COST = 1000000000;
        final int[] dayPays = new int[MOST_PEOPLE];
        int fee = 0;
        int change = 0;
        /** The ORDER that was read last. */
        final int[] told = new int[MOST_SCENES];
        /** BEST ORDER of the PICTURE found; null: things have changed since. */
        final int[] bestOrder = new int[MOST_SCENES];
        Picture found = null;
        private final int[] castOfSet = new int[SETS];
        /** By the set that is behind and its last SCENE: the least COST of all that is to come. */
        private final int[] leastToCome = new int[SETS * MOST_SCENES];

        void forget() {
            found = null;
        }

        int bestCost() {
            return leastToCome[0];
        }

        void findBest(Picture picture) {
            if (found == picture) {
                return;
            }
            found = picture;
            int all = (1 << picture.sceneCount) - 1;
            castOfSet[0] = 0;
            for (int set = 1; set <= all; set++) {
                int lowest = Integer.numberOfTrailingZeros(set);
                castOfSet[set] = castOfSet[set & (set - 1)] | picture.scenes[lowest].cast;
            }
            fillLeast(picture, all);
            walkBest(picture, all);
        }

        private void fillLeast(Picture picture, int all) {
            for (int last = 0; last < MOST_SCENES; last++) {
                leastToCome[all * MOST_SCENES + last] = 0;
            }
            for (int behind = all - 1; behind >= 0; behind--) {
                for (int last = 0; last < MOST_SCENES; last++) {
                    leastToCome[behind * MOST_SCENES + last] = BEYOND_ANY_COST;
                }
                for (int next = 0; next < picture.sceneCount; next++) {
                    if ((behind >> next & 1) == 0) {
                        fillWithNext(picture, all, behind, next);
                    }
                }
            }
        }

        private void fillWithNext(Picture picture, int all, int behind, int next) {
            int onward = onwardCost(picture, all, behind, next);
            for (int last = 0; last < picture.sceneCount; last++) {
                // With nothing behind there is no last SCENE: the row's place 0 stands for that.
                if (behind == 0 ? last == 0 : (behind >> last & 1) == 1) {
                    int at = behind * MOST_SCENES + last;
                    int cost = onward + changeCost(picture, behind, last, next);
                    leastToCome[at] = Math.min(leastToCome[at], cost);
                }
            }
        }

        /** COST of a SCENE behind a set of them, and of the best way on, without its CHANGE. */
        private int onwardCost(Picture picture, int all, int behind, int next) {
            Scene scene = picture.scenes[next];
            int there = scene.cast | castOfSet[behind] & castOfSet[all & ~behind];
            int then = leastToCome[(behind | 1 << next) * MOST_SCENES + next];
            return scene.shootingDays * dayCost(there) + then;
        }

        private int changeCost(Picture picture, int behind, int last, int next) {
            boolean stays = behind != 0 && picture.scenes[last].place == picture.scenes[next].place;
            return stays ? 0 : change;
        }

        private void walkBest(Picture picture, int all) {
            int behind = 0;
            int last = 0;
            for (int at = 0; at < picture.sceneCount; at++) {
                int next = firstOfBest(picture, all, behind, last);
                bestOrder[at] = next;
                behind |= 1 << next;
                last = next;
            }
        }

        private int firstOfBest(Picture picture, int all, int behind, int last) {
            int least = leastToCome[behind * MOST_SCENES + last];
            for (int next = 0; next < picture.sceneCount; next++) {
                if ((behind >> next & 1) == 0) {
                    int cost = onwardCost(picture, all, behind, next)
                            + changeCost(picture, behind, last, next);
                    if (cost == least) {
                        return next;
                    }
                }
            }
            return 0;
        }

        private int dayCost(int there) {
            int cost = fee;
            for (int who = 0; who < MOST_PEOPLE; who++) {
                if ((there >> who & 1) == 1) {
                    cost += dayPays[who];
                }
            }
            return cost;
        }

        /** Reads a ROW into told; false: it isn't all SCENES, each once. */
        boolean readOrder(Picture picture, Shelf row) {
            if (row.size != picture.sceneCount) {
                return false;
            }
            int seen = 0;
            for (int at = 0; at < picture.sceneCount; at++) {
                int scene = (int) row.elements[at];
                if (scene < 0 || scene >= picture.sceneCount || (seen >> scene & 1) == 1) {
                    return false;
                }
                seen |= 1 << scene;
                told[at] = scene;
            }
            return true;
        }

        /** COST of the ORDER in told. */
        int costOf(Picture picture) {
            int cost = 0;
            for (int at = 0; at < picture.sceneCount; at++) {
                Scene scene = picture.scenes[told[at]];
                if (at == 0 || picture.scenes[told[at - 1]].place != scene.place) {
                    cost += change;
                }
                cost += scene.shootingDays * dayCost(peopleThere(picture, at));
            }
            return cost;
        }

        /** Who is in the SCENE at a place of told, or in one ahead and one behind. */
        private int peopleThere(Picture picture, int place) {
            int ahead = 0;
            int behind = 0;
            for (int at = 0; at < picture.sceneCount; at++) {
                int cast = picture.scenes[told[at]].cast;
                if (at <= place) {
                    ahead |= cast;
                }
                if (at >= place) {
                    behind |= cast;
                }
            }
            return ahead & behind;
        }

        int boundOf(Picture picture) {
            int cost = 0;
            int places = 0;
            for (int i = 0; i < picture.sceneCount; i++) {
                Scene scene = picture.scenes[i];
                cost += scene.shootingDays * dayCost(scene.cast);
                places |= 1 << scene.place;
            }
            return cost + change * Integer.bitCount(places);
        }
    }

    /** Lays a new DRAFT against the one ahead. */
    private static final class Drafts {
        private static final int WIDE = MOST_ELEMENTS + 1;
        /** By the lines of the older and the newer that are passed: how many can still be KEPT. */
        private final int[] canKeep = new int[WIDE * WIDE];
        private final int[] newHands = new int[MOST_ELEMENTS];

        int add(Picture picture, int hand, Shelf row) {
            int kept = 0;
            for (int i = 0; i < row.size; i++) {
                newHands[i] = hand;
            }
            if (picture.draftCount > 0) {
                fillCanKeep(picture, row);
                keepHands(picture, row);
                kept = canKeep[0];
            }
            System.arraycopy(newHands, 0, picture.hands, 0, row.size);
            System.arraycopy(row.elements, 0, picture.lines, 0, row.size);
            picture.lineCount = row.size;
            picture.draftCount++;
            return kept;
        }

        private void fillCanKeep(Picture older, Shelf newer) {
            for (int i = older.lineCount; i >= 0; i--) {
                for (int j = newer.size; j >= 0; j--) {
                    int most = 0;
                    if (i < older.lineCount && j < newer.size) {
                        most = older.lines[i] == newer.elements[j]
                                ? 1 + canKeep[(i + 1) * WIDE + j + 1]
                                : Math.max(canKeep[(i + 1) * WIDE + j], canKeep[i * WIDE + j + 1]);
                    }
                    canKeep[i * WIDE + j] = most;
                }
            }
        }

        private void keepHands(Picture older, Shelf newer) {
            int i = 0;
            int j = 0;
            int most = older.lineCount + newer.size;
            for (int step = 0; step < most && i < older.lineCount && j < newer.size; step++) {
                // Like lines that are met can always both be KEPT without keeping fewer.
                if (older.lines[i] == newer.elements[j]) {
                    newHands[j] = older.hands[i];
                    i++;
                    j++;
                } else if (canKeep[(i + 1) * WIDE + j] == canKeep[i * WIDE + j]) {
                    i++;
                } else {
                    j++;
                }
            }
        }
    }

    /** Searches the BEST REEL by going through TAKES in the order in which likes are parted. */
    private static final class Reels {
        /** So much that a LENGTH never outweighs one of WORTH. */
        private static final int WEIGHT = 1000;
        private final int[] trial = new int[MOST_SCENES];
        /** What SCENES from a number on could add at most. */
        private final int[] mostFrom = new int[MOST_SCENES + 1];
        private int limit = 0;
        private int bestValue = 0;

        /** Leaves BEST REEL in the PICTURE's reelTakes; answers its WORTH. */
        int findBest(Picture one, int length) {
            limit = length;
            bestValue = -1;
            mostFrom[one.sceneCount] = 0;
            for (int i = one.sceneCount - 1; i >= 0; i--) {
                mostFrom[i] = mostFrom[i + 1] + mostOf(one.scenes[i]);
            }
            search(one, 0, NONE, 0, 0);
            return (bestValue + WEIGHT - 1) / WEIGHT;
        }

        private static int valueOf(Scene scene, int take) {
            return scene.worths[take] * WEIGHT - scene.lengths[take];
        }

        private static int mostOf(Scene scene) {
            int most = 0;
            for (int take = 0; take < scene.takeCount; take++) {
                most = Math.max(most, valueOf(scene, take));
            }
            return most;
        }

        private void search(Picture one, int number, int fact, int length, int value) {
            if (value + mostFrom[number] <= bestValue) {
                return;
            }
            if (number >= one.sceneCount) {
                bestValue = value;
                System.arraycopy(trial, 0, one.reelTakes, 0, one.sceneCount);
                return;
            }
            Scene scene = one.scenes[number];
            for (int take = 0; take < scene.takeCount; take++) {
                boolean joins = fact == NONE || scene.facts[take] / 10 == fact;
                int longer = length + scene.lengths[take];
                if (joins && longer <= limit) {
                    trial[number] = take;
                    search(one, number + 1, scene.facts[take] % 10, longer,
                            value + valueOf(scene, take));
                }
            }
            trial[number] = NONE;
            search(one, number + 1, fact, length, value);
        }
    }

    private static final class Hall {
        final int town;
        final int rank;
        final int part;
        final int[] shows = new int[HALL_WEEKS];
        final boolean[] told = new boolean[HALL_WEEKS];
        int coinsGot = 0;

        Hall(int town, int rank, int part) {
            this.town = town;
            this.rank = rank;
            this.part = part;
            for (int week = 0; week < HALL_WEEKS; week++) {
                shows[week] = NONE;
            }
        }

        boolean showsNear(int picture, int week, int within) {
            int last = Math.min(HALL_WEEKS - 1, week + within);
            for (int near = Math.max(0, week - within); near <= last; near++) {
                if (shows[near] == picture) {
                    return true;
                }
            }
            return false;
        }

        void giveBack(long weeks) {
            for (int week = 0; week < HALL_WEEKS; week++) {
                if ((weeks >> week & 1) == 1) {
                    shows[week] = NONE;
                }
            }
        }
    }

    /** Searches the BEST PLAN by going through slots in the order in which likes are parted. */
    private static final class Plans {
        final int[] bestSlots = new int[MOST_PICTURES];
        /** PICTURES of the latest plan. */
        int count = 0;
        private int stages = 0;
        private int bestSum = 0;
        private final int[] trial = new int[MOST_PICTURES];
        private final int[] casts = new int[MOST_PICTURES];
        /** What PICTURES from a number on could add at most. */
        private final int[] mostFrom = new int[MOST_PICTURES + 1];
        private final int[] inUse = new int[SLOTS];
        private final int[] peopleIn = new int[SLOTS];

        int findBest(Picture[] pictures, int pictureCount, int stagesTold) {
            count = Math.min(pictureCount, MOST_PICTURES);
            stages = stagesTold;
            bestSum = -1;
            mostFrom[count] = 0;
            for (int i = count - 1; i >= 0; i--) {
                casts[i] = pictures[i].castOfAll();
                mostFrom[i] = mostFrom[i + 1] + mostOf(pictures[i]);
            }
            search(pictures, 0, 0);
            return bestSum;
        }

        private static int mostOf(Picture picture) {
            int most = 0;
            for (int slot = 0; slot < SLOTS; slot++) {
                most = Math.max(most, picture.slotWorths[slot]);
            }
            return most;
        }

        private void search(Picture[] pictures, int number, int sum) {
            if (sum + mostFrom[number] <= bestSum) {
                return;
            }
            if (number >= count) {
                bestSum = sum;
                System.arraycopy(trial, 0, bestSlots, 0, count);
                return;
            }
            Picture one = pictures[number];
            boolean great = isUnderKind(one.kind, GREAT);
            for (int slot = 0; slot < SLOTS; slot++) {
                if ((!great || slot % 4 == 0) && isFree(slot, one.stageWeeks, casts[number])) {
                    trial[number] = slot;
                    use(slot, one.stageWeeks, casts[number], 1);
                    search(pictures, number + 1, sum + one.slotWorths[slot]);
                    use(slot, one.stageWeeks, casts[number], -1);
                }
            }
            trial[number] = NONE;
            search(pictures, number + 1, sum);
        }

        private boolean isFree(int from, int weeks, int cast) {
            for (int slot = from; slot < from + weeks && slot < SLOTS; slot++) {
                if (inUse[slot] >= stages || (peopleIn[slot] & cast) != 0) {
                    return false;
                }
            }
            return true;
        }

        /** Puts a PICTURE into its slots (by 1) or takes it out of them (by -1). */
        private void use(int from, int weeks, int cast, int by) {
            for (int slot = from; slot < from + weeks && slot < SLOTS; slot++) {
                inUse[slot] += by;
                // In use together are only casts without one in both, so this takes out its own.
                peopleIn[slot] ^= cast;
            }
        }
    }
}
