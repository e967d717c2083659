import java.lang.reflect.Method;
import java.lang.reflect.Modifier;
import java.util.ArrayList;
import java.util.Arrays;
import java.util.Comparator;
import java.util.List;
import java.util.Random;
import java.util.Set;

/**
 * All promises: wild calls never throw, like calls on two objects are answered alike, and a call
 * that is refused changes nothing but how many there were.
 */
public final class WildTest {
    private static final Set<String> NEVER_REFUSED = Set.of("element", "holds", "fault", "counts",
            "bestScene", "who", "about", "left", "credit", "reelTake", "putRight", "shown", "got",
            "planned", "status");
    private static final int[] EDGES = {Integer.MIN_VALUE, Integer.MAX_VALUE, -2, -1, 4, 5, 7, 8, 9, 10,
        16, 39, 40, 60, 61, 99, 100, 101, 364, 400, 401, 999, 1000, 4000, 4001, 99999, 100000};

    public static void main(String[] args) throws Exception {
        List<Method> methods = new ArrayList<>();
        for (Method one : StudioYears.class.getDeclaredMethods()) {
            if (Modifier.isPublic(one.getModifiers())) {
                methods.add(one);
            }
        }
        methods.sort(Comparator.comparing(Method::getName));
        Checks.due("methods of the face", methods.size(), 54);
        for (int seed = 0; seed < 120; seed++) {
            run(methods, new Random(seed), seed % 6 == 0);
        }
        Checks.end();
    }

    private static void run(List<Method> methods, Random random, boolean full) throws Exception {
        StudioYears x = new StudioYears();
        StudioYears twin = new StudioYears();
        if (full) {
            fill(x);
            fill(twin);
        } else {
            prepare(x);
            prepare(twin);
        }
        for (int call = 0; call < 450; call++) {
            Method one = methods.get(random.nextInt(methods.size()));
            Object[] with = arguments(one, random);
            long[] before = Probe.told(x);
            long answer = ((Number) one.invoke(x, with)).longValue();
            String told = one.getName() + Arrays.toString(with);
            Checks.due(told + " of a twin", ((Number) one.invoke(twin, with)).longValue(), answer);
            long[] after = Probe.told(x);
            boolean refused = !NEVER_REFUSED.contains(one.getName()) && answer < 0;
            for (int i = 1; i <= 7; i++) {
                int more = refused && answer == -i ? 1 : 0;
                Checks.due("refusals -" + i + " by " + told, after[i] - before[i], more);
                before[i] = after[i];
            }
            // term() tells its FAULT even when it is refused.
            if (one.getName().equals("term")) {
                before[Probe.FAULT] = after[Probe.FAULT];
            }
            if (refused || NEVER_REFUSED.contains(one.getName())) {
                Checks.due("changed by " + told, Arrays.equals(before, after) ? 0 : 1, 0);
            }
        }
    }

    /** A start from which much can go on. */
    private static void prepare(StudioYears x) {
        for (int i = 0; i < 3; i++) {
            x.person(70 + i);
            x.picture(i + 2);
            x.hall(0, i, 10 * i);
            x.scene(i, i, 1 << i, 1 + i);
            x.scene(i, 2, i, 1);
            x.take(i, 0, 5 + i, 6, 12);
        }
        Checks.write(x, 0, "y2r1s1p9l9");
        x.term(0, 0);
        x.term(1, 0);
        Checks.fill(x, 1, 1, 0);
        x.begin(0, 1);
        x.costs(0, 7);
        x.costs(1, 9);
    }

    /** A start with as much as there may be of everything. */
    private static void fill(StudioYears x) {
        Checks.write(x, 7, "y9w52s1r9p50l99");
        for (int who = 0; who < 16; who++) {
            x.person(999);
            x.term(who, 7);
        }
        x.row(6, 3, 60);
        x.set(6, 59, 1);
        Checks.fill(x, 5, 7, 6, 5, 4, 3, 2, 1, 0);
        for (int i = 0; i < 8; i++) {
            x.law(i % 5, 3000);
            x.ill(i, 6);
            x.picture(i % 6);
            for (int scene = 0; scene < 8; scene++) {
                x.scene(i, scene, 1 << scene | 1 << 15 - i, 4);
                for (int take = 0; take < 4; take++) {
                    x.take(i, scene, 40 + take, 50 + scene, 11);
                    x.mark(i, scene, take, 9);
                }
            }
            x.begin(i, 5);
            for (int draft = 0; draft < 7; draft++) {
                x.draft(i, draft % 6, 6);
            }
        }
        for (int hall = 0; hall < 6; hall++) {
            x.hall(hall % 3, 1, 90);
            for (int week = 0; week < 40; week++) {
                Checks.due("book", x.book(week % 8, hall, week), 1);
            }
        }
        Checks.due("people", x.status(0), 16);
        Checks.due("pictures", x.status(1), 8);
        Checks.due("laws", x.status(2), 8);
        Checks.due("halls", x.status(3), 6);
        Checks.due("showings", x.status(9), 240);
    }

    private static Object[] arguments(Method one, Random random) {
        Class<?>[] types = one.getParameterTypes();
        Object[] with = new Object[types.length];
        for (int i = 0; i < types.length; i++) {
            int number = number(random);
            if (types[i] == long.class) {
                with[i] = random.nextInt(4) == 0 ? random.nextLong() : (long) number;
            } else if (types[i] == boolean.class) {
                with[i] = random.nextBoolean();
            } else {
                with[i] = number;
            }
        }
        return with;
    }

    private static int number(Random random) {
        int way = random.nextInt(20);
        if (way == 0) {
            return EDGES[random.nextInt(EDGES.length)];
        }
        if (way == 1) {
            return random.nextInt();
        }
        return way < 16 ? random.nextInt(4) : random.nextInt(60);
    }
}
