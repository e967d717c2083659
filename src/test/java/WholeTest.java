import java.lang.reflect.Method;
import java.util.ArrayList;
import java.util.Arrays;
import java.util.HashMap;
import java.util.List;
import java.util.Map;
import java.util.Random;

/** All promises: random years of at most 512 calls, each answered as PlainYears answers it. */
public final class WholeTest {
    private static final int CALLS = 512;
    /** Each method with how often it is called and what its arguments are. */
    private static final String FACE = "person 4 1..999; row 1 shelf 0..3 0..60; set 3 shelf 0..12 value; "
            + "copy 4 shelf shelf 0..8 0..8 0..8; element 6 shelf 0..12; show 3 shelf picture; holds 2 shelf; "
            + "kindIn 3 shelf 0..5; term 5 who shelf; fault 3; law 2 0..4 0..4000; counts 4 who 0..4 0..4000; "
            + "ill 3 who shelf; refuse 6 who; recall 4 who; lend 3 who 1..400 0..99999; picture 3 0..5; "
            + "scene 8 picture 0..2 cast 1..4; mark 3 picture scene 0..3 0..9; costs 2 0..1 0..999; "
            + "best 1 picture; bestScene 2 picture scene; bound 2 picture; judge 3 picture shelf; "
            + "begin 3 picture shelf; retake 4 picture scene; days 9 1..100; who 10 who 0..7; "
            + "about 8 picture 0..8; left 3 picture scene; draft 4 picture 0..5 shelf; credit 4 picture 0..5; "
            + "named 2 picture; code 2 0..3 0..9; barred 2 picture scene; mend 2 picture; "
            + "take 12 picture scene 1..99 0..99 facts; reel 2 picture 0..400; reelTake 4 picture scene; "
            + "land 2 0..3 0..99; preview 4 picture 0..3 1..99 0..99; putRight 4 picture flag; "
            + "hall 2 0..2 0..3 0..90; clearance 1 0..9; book 8 picture hall 0..39; "
            + "block 4 hall pictures 0..39; shown 4 hall 0..39; takings 6 hall 0..9 0..99999; got 4 0..1 0..15; "
            + "lot 2 picture 1..4; worth 6 picture 0..7 0..999; plan 1 1..3; planned 3 0..7; status 8 0..18";

    private record Call(Method plain, Method own, String[] arguments) {
    }

    private static final List<Call> CALLS_BY_WEIGHT = new ArrayList<>();

    private final Random random;
    private final long seed;
    private final StudioYears x = new StudioYears();
    private final PlainYears plain = new PlainYears();
    private final List<String> run = new ArrayList<>();
    /** How many SCENES a PICTURE gets at most: going through all of eight takes long. */
    private final int scenes;
    private boolean alike = true;

    private WholeTest(long seed) {
        this.seed = seed;
        random = new Random(seed);
        scenes = seed % 20 == 0 ? 8 : 1 + random.nextInt(5);
    }

    public static void main(String[] args) throws Exception {
        readFace();
        int runs = args.length > 0 ? Integer.parseInt(args[0]) : 1000;
        for (long seed = 1; seed <= runs; seed++) {
            new WholeTest(seed).play();
        }
        Checks.end();
    }

    private static void readFace() {
        Map<String, Method> plains = new HashMap<>();
        for (Method one : PlainYears.class.getMethods()) {
            plains.put(one.getName(), one);
        }
        Map<String, Method> owns = new HashMap<>();
        for (Method one : StudioYears.class.getMethods()) {
            owns.put(one.getName(), one);
        }
        String[] rows = FACE.split("; ");
        Checks.due("methods of the face", rows.length, 54);
        for (String row : rows) {
            String[] words = row.split(" ");
            String[] arguments = Arrays.copyOfRange(words, 2, words.length);
            Call call = new Call(plains.get(words[0]), owns.get(words[0]), arguments);
            for (int i = Integer.parseInt(words[1]); i > 0; i--) {
                CALLS_BY_WEIGHT.add(call);
            }
        }
    }

    private void play() throws Exception {
        start();
        while (alike && run.size() < CALLS) {
            int s = random.nextInt(8);
            switch (random.nextInt(50)) {
                case 0:
                    write(s, random.nextInt(4), termText());
                    both(named("term"), number(0), s);
                    break;
                case 1:
                    int picture = number(1);
                    write(s, random.nextInt(4), orderRow(picture));
                    both(named(random.nextInt(3) == 0 ? "begin" : "judge"), picture, s);
                    break;
                case 2:
                    write(s, random.nextInt(4), lines());
                    both(named("draft"), number(1), random.nextInt(6), s);
                    break;
                case 3:
                    write(s, random.nextInt(4), lines());
                    both(named("ill"), number(0), s);
                    break;
                default:
                    anyCall();
                    break;
            }
        }
    }

    /** Some PEOPLE, most of them UNDER a TERM, PICTURES and HALLS, so that more can go on from here. */
    private void start() throws Exception {
        for (int i = random.nextInt(6); i > 0; i--) {
            both(named("person"), 1 + random.nextInt(999));
            write(7, 0, termText());
            both(named("term"), plain.status(0) - 1, 7);
        }
        for (int i = random.nextInt(5); i > 0; i--) {
            both(named("picture"), random.nextInt(6));
            for (int scene = random.nextInt(1 + scenes); scene > 0; scene--) {
                int cast = random.nextInt(1 << plain.status(0)) & random.nextInt(1 << plain.status(0));
                both(named("scene"), plain.status(1) - 1, random.nextInt(3), cast, 1 + random.nextInt(4));
            }
        }
        for (int i = random.nextInt(5); i > 0; i--) {
            both(named("hall"), random.nextInt(2), random.nextInt(3), random.nextInt(91));
        }
    }

    /** A number of PEOPLE (what 0) or PICTURES (1), nearly always of one that is there. */
    private int number(int what) {
        return random.nextInt(Math.max(1, plain.status(what)) + (random.nextInt(20) == 0 ? 1 : 0));
    }

    private void anyCall() throws Exception {
        Call call = CALLS_BY_WEIGHT.get(random.nextInt(CALLS_BY_WEIGHT.size()));
        Object[] with = new Object[call.arguments.length];
        int picture = 0;
        for (int i = 0; i < with.length; i++) {
            with[i] = argument(call.arguments[i], picture);
            if (call.arguments[i].equals("picture")) {
                picture = (int) with[i];
            }
        }
        if (call.own.getName().equals("scene") && plain.about(picture, 1) >= scenes && random.nextInt(9) > 0) {
            return;
        }
        both(call, with);
        lookBehind(call.own.getName(), picture);
    }

    /** What a search or TAKINGS left to be asked. */
    private void lookBehind(String name, int picture) throws Exception {
        for (int i = 0; i < 8; i++) {
            if (name.equals("reel") && i < plain.about(picture, 1)) {
                both(named("reelTake"), picture, i);
            } else if (name.equals("plan") && i < plain.status(1)) {
                both(named("planned"), i);
            } else if (name.equals("block") && i < plain.status(3)) {
                both(named("shown"), i, random.nextInt(12));
            } else if (name.equals("takings") && i < plain.status(0)) {
                both(named("got"), 1, i);
            }
        }
        if (name.equals("days") || name.equals("takings")) {
            both(named("status"), 5);
        }
    }

    /** The call on both; what is answered must be alike. */
    private void both(Call call, Object... with) throws Exception {
        if (!alike || run.size() >= CALLS) {
            return;
        }
        long want = ((Number) call.plain.invoke(plain, with)).longValue();
        long got = ((Number) call.own.invoke(x, with)).longValue();
        run.add(call.own.getName() + Arrays.toString(with) + " = " + got);
        if (got != want) {
            alike = false;
            System.out.println(String.join("\n", run));
        }
        Checks.due("seed " + seed + ", " + call.own.getName() + Arrays.toString(with), got, want);
    }

    private Call named(String name) {
        return CALLS_BY_WEIGHT.stream().filter(call -> call.own.getName().equals(name)).findFirst().orElseThrow();
    }

    private void write(int s, int sort, long[] elements) throws Exception {
        both(named("row"), s, sort, elements.length);
        for (int i = 0; i < elements.length; i++) {
            both(named("set"), s, i, elements[i]);
        }
    }

    private long[] termText() {
        StringBuilder text = new StringBuilder();
        List<String> letters = new ArrayList<>(List.of("w", "s", "r", "p", "l", "y"));
        int[] most = {52, 1, 9, 50, 99, 9};
        for (int i = 1 + random.nextInt(6); i > 0; i--) {
            String letter = letters.remove(random.nextInt(letters.size()));
            int l = "wsrply".indexOf(letter);
            int least = l == 5 ? 1 : 0;
            text.append(letter).append(least + random.nextInt(1 + most[l] - least));
        }
        long[] row = text.chars().asLongStream().toArray();
        if (random.nextInt(4) == 0) {
            row[random.nextInt(row.length)] = "wsrply0123456789 W".charAt(random.nextInt(18));
        }
        if (random.nextInt(4) == 0) {
            row[random.nextInt(row.length)] += (random.nextLong() >> random.nextInt(64)) << 32;
        }
        return random.nextInt(6) == 0 ? Arrays.copyOf(row, random.nextInt(row.length)) : row;
    }

    private long[] orderRow(int picture) {
        int count = Math.max(0, plain.about(picture, 1));
        List<Long> order = new ArrayList<>();
        for (long i = 0; i < count; i++) {
            order.add(random.nextInt(order.size() + 1), i);
        }
        long[] row = order.stream().mapToLong(one -> one).toArray();
        if (count > 0 && random.nextInt(8) == 0) {
            row[random.nextInt(count)] = random.nextInt(10) - 1;
        }
        return row;
    }

    private long[] lines() {
        long[] row = new long[random.nextInt(10)];
        int sorts = 1 + random.nextInt(6);
        for (int i = 0; i < row.length; i++) {
            row[i] = random.nextInt(sorts) + (random.nextInt(30) == 0 ? random.nextLong() : 0);
        }
        return row;
    }

    private Object argument(String kind, int picture) {
        if (kind.equals("flag")) {
            return random.nextBoolean();
        }
        if (kind.equals("value")) {
            return random.nextInt(5) == 0 ? random.nextLong() : (long) random.nextInt(9);
        }
        int[] range = range(kind, picture);
        switch (random.nextInt(60)) {
            case 0:
                return range[0] - 1;
            case 1:
                return range[1] + 1;
            case 2:
                return random.nextBoolean() ? Integer.MIN_VALUE : Integer.MAX_VALUE;
            case 3:
                return random.nextInt();
            case 4:
                return range[1];
            default:
                return within(kind, range);
        }
    }

    private int within(String kind, int[] range) {
        int width = Math.max(1, 1 + range[1] - range[0]);
        // Small numbers let more of the calls meet one another; a DAY must be ahead to be a law's.
        int near = kind.endsWith("4000") ? plain.status(4) + random.nextInt(500)
                : range[0] + random.nextInt(Math.min(width, 12));
        return random.nextInt(3) > 0 ? near : range[0] + random.nextInt(width);
    }

    private int[] range(String kind, int picture) {
        switch (kind) {
            case "shelf":
                return new int[] {0, 7};
            case "who":
                return new int[] {0, plain.status(0) - 1};
            case "picture":
                return new int[] {0, plain.status(1) - 1};
            case "scene":
                return new int[] {0, plain.about(picture, 1) - 1};
            case "hall":
                return new int[] {0, plain.status(3) - 1};
            case "cast":
                return new int[] {0, (1 << plain.status(0)) - 1};
            case "pictures":
                return new int[] {0, (1 << plain.status(1)) - 1};
            case "facts":
                return random.nextInt(3) == 0 ? new int[] {0, 99} : new int[] {11, 12};
            default:
                String[] ends = kind.split("\\.\\.");
                return new int[] {Integer.parseInt(ends[0]), Integer.parseInt(ends[1])};
        }
    }
}
