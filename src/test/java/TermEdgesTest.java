import java.util.ArrayList;
import java.util.List;

/** Promises 10 to 13 at their edges: where a TERM breaks off, what it counts as, what LAWS strike. */
public final class TermEdgesTest {
    private static final String LETTERS = "wsrply";
    private static final int[] LEAST = {0, 0, 0, 0, 0, 1};
    private static final int[] MOST = {52, 1, 9, 50, 99, 9};
    private static final int[] WITHOUT = {52, 0, 0, 0, 0};

    public static void main(String[] args) {
        everyNumber();
        everySign();
        lettersOnce();
        sixClauses();
        endsTooEarly();
        elementsAsInts();
        countsAtTheEdges();
        ends();
        lawDays();
        lawsTogether();
        lawsAheadOfTerms();
        latestFault();
        Checks.end();
    }

    private static int faultOf(StudioYears x, String text) {
        Checks.write(x, 0, text);
        x.term(0, 0);
        return x.fault();
    }

    private static StudioYears onePerson() {
        StudioYears x = new StudioYears();
        x.person(7);
        return x;
    }

    /** Each letter with all numbers of up to three digits, against all numbers that may be. */
    private static void everyNumber() {
        for (int letter = 0; letter < 6; letter++) {
            List<String> good = new ArrayList<>();
            for (int n = LEAST[letter]; n <= MOST[letter]; n++) {
                good.add("" + n);
            }
            for (int digits = 1; digits <= 3; digits++) {
                for (int n = 0; n < Math.pow(10, digits); n++) {
                    String number = String.format("%0" + digits + "d", n);
                    String text = LETTERS.charAt(letter) + number;
                    Checks.due("fault of " + text, faultOf(onePerson(), text), faultOfNumber(number, good));
                }
            }
        }
    }

    private static int faultOfNumber(String number, List<String> good) {
        for (int at = 0; at < number.length(); at++) {
            String ahead = number.substring(0, at + 1);
            if (good.stream().noneMatch(one -> one.startsWith(ahead))) {
                return 1 + at;
            }
        }
        return good.contains(number) ? -1 : 1 + number.length();
    }

    /** Each sign that a byte can be: at the beginning, behind a letter, behind a number. */
    private static void everySign() {
        for (int sign = -128; sign < 128; sign++) {
            boolean letter = sign > 0 && LETTERS.indexOf(sign) >= 0;
            boolean digit = sign >= '0' && sign <= '9';
            Checks.due("at the beginning " + sign, faultWith(sign, ""), letter ? 1 : 0);
            Checks.due("behind a letter " + sign, faultWith(sign, "l"), digit ? -1 : 1);
            int behind = letter && sign != 'l' ? 3 : digit ? -1 : 2;
            Checks.due("behind a number " + sign, faultWith(sign, "l4"), behind);
        }
    }

    private static int faultWith(int sign, String ahead) {
        StudioYears x = onePerson();
        x.row(0, 0, ahead.length() + 1);
        for (int i = 0; i < ahead.length(); i++) {
            x.set(0, i, ahead.charAt(i));
        }
        x.set(0, ahead.length(), sign);
        x.term(0, 0);
        return x.fault();
    }

    private static void lettersOnce() {
        for (int a = 0; a < 6; a++) {
            for (int b = 0; b < 6; b++) {
                String text = "" + LETTERS.charAt(a) + 1 + LETTERS.charAt(b) + 1;
                Checks.due("fault of " + text, faultOf(onePerson(), text), a == b ? 2 : -1);
                for (int c = 0; c < 6 && a != b; c++) {
                    String longer = text + LETTERS.charAt(c) + 1;
                    Checks.due("fault of " + longer, faultOf(onePerson(), longer), c == a || c == b ? 4 : -1);
                }
            }
        }
    }

    /** All six, in any order, are a TERM; there is no seventh. */
    private static void sixClauses() {
        String[] orders = {"wsrply", "ylprsw", "yswlpr", "plyrsw"};
        for (String order : orders) {
            StringBuilder text = new StringBuilder();
            for (char letter : order.toCharArray()) {
                text.append(letter).append(1);
            }
            Checks.due("fault of " + text, faultOf(onePerson(), text.toString()), -1);
            for (char seventh : (LETTERS + "a").toCharArray()) {
                Checks.due("a seventh", faultOf(onePerson(), text.toString() + seventh + 1), 12);
            }
        }
        StudioYears x = onePerson();
        Checks.write(x, 0, "y9w52s1r9p50l99");
        Checks.due("the longest TERM", x.term(0, 0), 9 * 364);
    }

    private static void endsTooEarly() {
        String text = "y9w52s1r9p50l99";
        for (int length = 0; length <= text.length(); length++) {
            String ahead = text.substring(0, length);
            boolean open = length == 0 || Character.isLetter(ahead.charAt(length - 1));
            Checks.due("fault of " + ahead, faultOf(onePerson(), ahead), open ? length : -1);
        }
        StudioYears x = onePerson();
        x.row(0, 0, 60);
        for (int i = 0; i < text.length(); i++) {
            x.set(0, i, text.charAt(i));
        }
        Checks.due("zeros behind it", x.term(0, 0), -6);
        Checks.due("are its fault", x.fault(), 15);
    }

    private static void elementsAsInts() {
        long[][] first = {{'y'}, {'y'}, {'y'}, {'y', 'y' + (1L << 32), 'y' + (1L << 63), 'y' - (1L << 40)}};
        long[][] wrong = {{'y' - 128}, {'y' + 256, 'y' - 256}, {'y' + 65536, 'y' - 65536, 'y' | 1L << 31},
            {'y' + 256, 'y' + (1L << 31), 'y' + (1L << 16)}};
        for (int sort = 0; sort < 4; sort++) {
            for (long one : first[sort]) {
                StudioYears x = onePerson();
                Checks.fillSort(x, 0, sort, one, '1');
                Checks.due("sort " + sort + " by " + one, x.term(0, 0), 364);
            }
            for (long one : wrong[sort]) {
                StudioYears x = onePerson();
                Checks.fillSort(x, 0, sort, one, '1');
                Checks.due("sort " + sort + " by " + one, x.term(0, 0), -6);
                Checks.due("its fault", x.fault(), 0);
            }
        }
        StudioYears x = onePerson();
        Checks.fillSort(x, 0, 3, 'p', '5' + (3L << 32), '0' - (9L << 32));
        Checks.due("digits as ints", x.term(0, 0), 364);
        Checks.due("fifty", x.counts(0, 3, 0), 50);
    }

    private static void countsAtTheEdges() {
        for (int letter = 0; letter < 5; letter++) {
            for (int n : new int[] {LEAST[letter], LEAST[letter] + 1, MOST[letter] - 1, MOST[letter]}) {
                StudioYears x = onePerson();
                Checks.due("a TERM", faultOf(x, "" + LETTERS.charAt(letter) + n), -1);
                for (int other = 0; other < 5; other++) {
                    int want = other == letter ? n : WITHOUT[other];
                    Checks.due("counts " + other, x.counts(0, other, 0), want);
                }
            }
        }
    }

    private static void ends() {
        for (int years = 1; years <= 9; years++) {
            for (int now : new int[] {0, 37}) {
                StudioYears x = onePerson();
                Checks.liveTo(x, now);
                Checks.write(x, 0, "y" + years);
                Checks.due("END", x.term(0, 0), now + 364 * years);
                Checks.due("END told", x.who(0, 1), now + 364 * years);
                if (years <= 2) {
                    Checks.liveTo(x, now + 364 * years - 1);
                    Checks.due("UNDER ahead of END", x.who(0, 2), 1);
                    Checks.due("UNDER ahead of END", x.term(0, 0), -6);
                    x.days(1);
                    Checks.due("not UNDER on END", x.who(0, 2), 0);
                    Checks.due("a new TERM on END", x.term(0, 0), now + 728 * years);
                }
            }
        }
    }

    private static void lawDays() {
        for (int letter = 0; letter < 5; letter++) {
            StudioYears x = onePerson();
            Checks.due("a TERM", faultOf(x, "w1s1r1p1l1"), -1);
            x.law(letter, 100);
            for (int other = 0; other < 5; other++) {
                int struck = other == letter ? WITHOUT[other] : 1;
                Checks.due("ahead of the law", x.counts(0, other, 99), 1);
                Checks.due("on its day", x.counts(0, other, 100), struck);
                Checks.due("behind it", x.counts(0, other, 101), struck);
                Checks.due("far behind it", x.counts(0, other, Integer.MAX_VALUE), struck);
                Checks.due("far ahead of it", x.counts(0, other, Integer.MIN_VALUE), 1);
            }
        }
    }

    private static void lawsTogether() {
        StudioYears x = onePerson();
        Checks.due("a TERM", faultOf(x, "w1p1"), -1);
        x.law(3, 200);
        x.law(3, 100);
        x.law(3, 300);
        Checks.due("ahead of the earliest", x.counts(0, 3, 99), 1);
        Checks.due("on the earliest", x.counts(0, 3, 100), 0);
        Checks.due("behind them all", x.counts(0, 3, 300), 0);
        Checks.due("another letter", x.counts(0, 0, 300), 1);
        for (int count = 4; count <= 8; count++) {
            Checks.due("how many", x.law(0, 4000), count);
        }
        Checks.due("no ninth", x.law(0, 4000), -7);
        Checks.due("the eighth counts", x.counts(0, 0, 4000), 52);
        Checks.due("from its day on", x.counts(0, 0, 3999), 1);
    }

    private static void lawsAheadOfTerms() {
        StudioYears x = onePerson();
        x.law(0, 0);
        x.law(4, 10);
        x.days(5);
        Checks.due("a TERM", faultOf(x, "w7l7"), -1);
        Checks.due("struck ahead of the TERM", x.counts(0, 0, 5), 52);
        Checks.due("struck even ahead of its begin", x.counts(0, 0, 0), 52);
        Checks.due("not struck yet", x.counts(0, 4, 9), 7);
        Checks.due("struck", x.counts(0, 4, 10), 0);
    }

    private static void latestFault() {
        StudioYears x = onePerson();
        x.picture(0);
        x.show(1, 0);
        Checks.due("none yet", x.fault(), -1);
        Checks.due("an empty row", faultOf(x, ""), 0);
        x.term(1, 0);
        Checks.due("no such one came to no row", x.fault(), 0);
        Checks.due("another", faultOf(x, "w9w"), 2);
        x.term(0, 8);
        x.term(0, 1);
        x.term(0, 2);
        Checks.due("no row: it stays", x.fault(), 2);
        Checks.write(x, 3, "");
        Checks.due("a new row alone changes nothing", x.fault(), 2);
        Checks.due("a TERM", faultOf(x, "y1"), -1);
        Checks.due("UNDER, with a fault", faultOf(x, "y"), 1);
        Checks.due("UNDER, with a TERM", faultOf(x, "y2"), -1);
        Checks.due("END as it was", x.who(0, 1), 364);
    }
}
