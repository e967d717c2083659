/** What the tests of the project share: counting wrong answers, and filling ROWS. */
final class Checks {
    private static int wrong = 0;

    private Checks() {
    }

    static void due(String call, long got, long want) {
        if (got != want) {
            wrong++;
            System.out.println(call + " answered " + got + ", due is " + want);
        }
    }

    /** Ends the test: with exit code 1 if an answer was wrong. */
    static void end() {
        if (wrong != 0) {
            System.out.println(wrong + " answers are not as due");
            System.exit(1);
        }
        System.out.println("all answers are as due");
    }

    /** SHELF s gets a ROW of ints with these elements. */
    static void fill(StudioYears x, int s, long... elements) {
        fillSort(x, s, 2, elements);
    }

    static void fillSort(StudioYears x, int s, int sort, long... elements) {
        due("row", x.row(s, sort, elements.length), 1);
        for (int i = 0; i < elements.length; i++) {
            due("set", x.set(s, i, elements[i]), 1);
        }
    }

    /** SHELF s gets a ROW of bytes with the letters of a text. */
    static void write(StudioYears x, int s, String text) {
        due("row", x.row(s, 0, text.length()), 1);
        for (int i = 0; i < text.length(); i++) {
            due("set", x.set(s, i, text.charAt(i)), 1);
        }
    }

    /** DAYS are lived until NOW is a DAY. */
    static void liveTo(StudioYears x, int day) {
        for (int i = 0; i < 41 && x.status(4) < day; i++) {
            x.days(Math.min(100, day - x.status(4)));
        }
        due("NOW", x.status(4), day);
    }

    /** One of PEOPLE with a PAY, UNDER a TERM by a text (written into SHELF 7). */
    static int hire(StudioYears x, int pay, String text) {
        int who = x.person(pay);
        write(x, 7, text);
        x.term(who, 7);
        due("UNDER by " + text, x.who(who, 2), 1);
        return who;
    }
}
