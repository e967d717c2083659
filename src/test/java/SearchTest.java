import java.math.BigInteger;
import java.util.ArrayList;
import java.util.List;
import java.util.Random;

/** Promises 22 to 25, 32, 33, 39, 40, 43, 53 and 54, against going through everything by the words. */
public final class SearchTest {
    private static final Random RANDOM = new Random(1927);

    public static void main(String[] args) {
        for (int i = 0; i < 120; i++) {
            orders(1 + RANDOM.nextInt(i < 110 ? 6 : 8));
        }
        for (int i = 0; i < 400; i++) {
            drafts();
        }
        for (int i = 0; i < 300; i++) {
            reels(1 + RANDOM.nextInt(5));
        }
        for (int i = 0; i < 200; i++) {
            fractions();
        }
        for (int i = 0; i < 150; i++) {
            plans(1 + RANDOM.nextInt(i < 140 ? 4 : 5));
        }
        for (int i = 0; i < 60; i++) {
            apart();
        }
        Checks.end();
    }

    // ---- ORDERS ----

    private static void orders(int scenes) {
        StudioYears x = new StudioYears();
        int persons = 1 + RANDOM.nextInt(5);
        int[] pays = new int[persons];
        for (int who = 0; who < persons; who++) {
            pays[who] = 1 + RANDOM.nextInt(RANDOM.nextBoolean() ? 30 : 999);
            x.person(pays[who]);
        }
        int fee = RANDOM.nextInt(5);
        int change = RANDOM.nextInt(60);
        x.costs(0, fee);
        x.costs(1, change);
        x.picture(0);
        int[][] scene = new int[scenes][];
        for (int i = 0; i < scenes; i++) {
            scene[i] = new int[] {RANDOM.nextInt(3), RANDOM.nextInt(1 << persons), 1 + RANDOM.nextInt(4)};
            x.scene(0, scene[i][0], scene[i][1], scene[i][2]);
        }
        int[] best = null;
        int least = Integer.MAX_VALUE;
        for (int[] order : permutations(scenes)) {
            int cost = cost(order, scene, pays, fee, change);
            if (cost < least) {
                least = cost;
                best = order;
            }
        }
        Checks.due("best", x.best(0), least);
        for (int i = 0; i < scenes; i++) {
            Checks.due("bestScene", x.bestScene(0, i), best[i]);
        }
        Checks.due("bound is no more", x.bound(0) <= least ? 1 : 0, 1);
        List<int[]> all = permutations(Math.min(scenes, 6));
        if (scenes <= 6) {
            int[] some = all.get(RANDOM.nextInt(all.size()));
            x.row(0, RANDOM.nextInt(4), scenes);
            for (int i = 0; i < scenes; i++) {
                x.set(0, i, some[i]);
            }
            Checks.due("judge", x.judge(0, 0), cost(some, scene, pays, fee, change));
        }
    }

    private static int cost(int[] order, int[][] scene, int[] pays, int fee, int change) {
        int cost = 0;
        for (int at = 0; at < order.length; at++) {
            cost += fee * scene[order[at]][2];
            if (at == 0 || scene[order[at]][0] != scene[order[at - 1]][0]) {
                cost += change;
            }
        }
        for (int who = 0; who < pays.length; who++) {
            int first = -1;
            int last = -1;
            for (int at = 0; at < order.length; at++) {
                if ((scene[order[at]][1] >> who & 1) == 1) {
                    first = first < 0 ? at : first;
                    last = at;
                }
            }
            for (int at = first; first >= 0 && at <= last; at++) {
                cost += pays[who] / 7 * scene[order[at]][2];
            }
        }
        return cost;
    }

    /** All of them, the lesser ones first. */
    private static List<int[]> permutations(int n) {
        List<int[]> all = new ArrayList<>();
        addPermutations(new int[n], 0, 0, all);
        return all;
    }

    private static void addPermutations(int[] made, int at, int used, List<int[]> all) {
        if (at == made.length) {
            all.add(made.clone());
            return;
        }
        for (int i = 0; i < made.length; i++) {
            if ((used >> i & 1) == 0) {
                made[at] = i;
                addPermutations(made, at + 1, used | 1 << i, all);
            }
        }
    }

    // ---- DRAFTS ----

    private static void drafts() {
        StudioYears x = new StudioYears();
        x.picture(0);
        long[] older = {};
        int[] hands = {};
        for (int number = 0; number < 8; number++) {
            int hand = RANDOM.nextInt(6);
            long[] newer = new long[RANDOM.nextInt(8)];
            x.row(0, RANDOM.nextInt(4), newer.length);
            for (int i = 0; i < newer.length; i++) {
                newer[i] = RANDOM.nextInt(4) - 1;
                x.set(0, i, newer[i]);
            }
            int[] newHands = new int[newer.length];
            int kept = number == 0 ? 0 : canKeep(older, 0, newer, 0);
            walk(older, hands, newer, newHands, hand);
            Checks.due("draft", x.draft(0, hand, 0), kept);
            older = newer;
            hands = newHands;
            for (int h = 0; h < 6; h++) {
                int lines = 0;
                for (int one : hands) {
                    lines += one == h ? 1 : 0;
                }
                Checks.due("credit", x.credit(0, h), lines);
            }
        }
    }

    private static int canKeep(long[] older, int i, long[] newer, int j) {
        if (i >= older.length || j >= newer.length) {
            return 0;
        }
        int most = Math.max(canKeep(older, i + 1, newer, j), canKeep(older, i, newer, j + 1));
        return older[i] != newer[j] ? most : Math.max(most, 1 + canKeep(older, i + 1, newer, j + 1));
    }

    private static void walk(long[] older, int[] hands, long[] newer, int[] newHands, int hand) {
        java.util.Arrays.fill(newHands, hand);
        int i = 0;
        int j = 0;
        while (i < older.length && j < newer.length) {
            int most = canKeep(older, i, newer, j);
            if (older[i] == newer[j] && 1 + canKeep(older, i + 1, newer, j + 1) == most) {
                newHands[j++] = hands[i++];
            } else if (canKeep(older, i + 1, newer, j) == most) {
                i++;
            } else {
                j++;
            }
        }
    }

    // ---- REELS ----

    private static void reels(int scenes) {
        StudioYears x = new StudioYears();
        x.picture(0);
        int facts = 1 + RANDOM.nextInt(4);
        int[][][] takes = new int[scenes][][];
        for (int i = 0; i < scenes; i++) {
            x.scene(0, 0, 0, 1);
            takes[i] = new int[RANDOM.nextInt(5)][];
            for (int t = 0; t < takes[i].length; t++) {
                int[] one = {1 + RANDOM.nextInt(9), RANDOM.nextInt(6), RANDOM.nextInt(facts), RANDOM.nextInt(facts)};
                takes[i][t] = one;
                x.take(0, i, one[0], one[1], 10 * one[2] + one[3]);
            }
        }
        for (int length = 0; length < 30; length += 1 + RANDOM.nextInt(6)) {
            int[] best = bestReel(takes, length);
            Checks.due("reel", x.reel(0, length), measure(takes, best)[1]);
            for (int i = 0; i < scenes; i++) {
                Checks.due("reelTake", x.reelTake(0, i), best[i]);
            }
        }
    }

    private static int[] bestReel(int[][][] takes, int length) {
        int[] best = null;
        int[] bestMeasure = null;
        int combinations = (int) Math.pow(5, takes.length);
        for (int number = 0; number < combinations; number++) {
            int[] reel = new int[takes.length];
            int rest = number;
            boolean there = true;
            for (int i = takes.length - 1; i >= 0; i--) {
                reel[i] = rest % 5 == 4 ? -1 : rest % 5;
                rest /= 5;
                there &= reel[i] < takes[i].length;
            }
            int[] measure = there ? measure(takes, reel) : null;
            if (measure == null || measure[0] > length) {
                continue;
            }
            boolean better = best == null || measure[1] > bestMeasure[1]
                    || measure[1] == bestMeasure[1] && measure[0] < bestMeasure[0];
            if (better) {
                best = reel;
                bestMeasure = measure;
            }
        }
        return best;
    }

    /** LENGTH and WORTH of a reel; null if two that follow are not alike. */
    private static int[] measure(int[][][] takes, int[] reel) {
        int length = 0;
        int worth = 0;
        int[] ahead = null;
        for (int i = 0; i < reel.length; i++) {
            if (reel[i] >= 0) {
                int[] one = takes[i][reel[i]];
                if (ahead != null && ahead[3] != one[2]) {
                    return null;
                }
                length += one[0];
                worth += one[1];
                ahead = one;
            }
        }
        return new int[] {length, worth};
    }

    // ---- PREVIEWS ----

    private static void fractions() {
        StudioYears x = new StudioYears();
        x.picture(0);
        int[] shares = new int[4];
        int[] came = new int[4];
        int[] liked = new int[4];
        for (int kind = 0; kind < 4; kind++) {
            shares[kind] = RANDOM.nextInt(100);
            x.land(kind, shares[kind]);
            for (int i = RANDOM.nextInt(11); i > 0; i--) {
                int c = 1 + RANDOM.nextInt(99);
                int l = RANDOM.nextInt(c + 1);
                if (x.preview(0, kind, c, l) > 0) {
                    came[kind] += c;
                    liked[kind] += l;
                }
            }
        }
        BigInteger upper = BigInteger.ZERO;
        BigInteger lower = BigInteger.ONE;
        int sum = 0;
        for (int kind = 0; kind < 4; kind++) {
            if (came[kind] > 0) {
                BigInteger c = BigInteger.valueOf(came[kind]);
                upper = upper.multiply(c).add(BigInteger.valueOf((long) shares[kind] * liked[kind]).multiply(lower));
                lower = lower.multiply(c);
                sum += shares[kind];
            }
        }
        lower = sum == 0 ? BigInteger.ONE : lower.multiply(BigInteger.valueOf(sum));
        BigInteger common = upper.gcd(lower);
        Checks.due("upper part", x.putRight(0, false), upper.divide(common).longValueExact());
        Checks.due("lower part", x.putRight(0, true), lower.divide(common).longValueExact());
    }

    // ---- PLANS ----

    private static void plans(int pictures) {
        StudioYears x = new StudioYears();
        int persons = 6;
        for (int who = 0; who < persons; who++) {
            x.person(7);
        }
        int[] kinds = new int[pictures];
        int[] lots = new int[pictures];
        int[] casts = new int[pictures];
        int[][] worths = new int[pictures][8];
        for (int i = 0; i < pictures; i++) {
            kinds[i] = RANDOM.nextInt(6);
            lots[i] = 1 + RANDOM.nextInt(4);
            x.picture(kinds[i]);
            x.lot(i, lots[i]);
            for (int scene = RANDOM.nextInt(3); scene > 0; scene--) {
                int cast = 1 << RANDOM.nextInt(persons);
                casts[i] |= cast;
                x.scene(i, 0, cast, 1);
            }
            for (int slot = 0; slot < 8; slot++) {
                worths[i][slot] = RANDOM.nextInt(4);
                x.worth(i, slot, worths[i][slot]);
            }
        }
        int stages = 1 + RANDOM.nextInt(3);
        int[] best = bestPlan(kinds, lots, casts, worths, stages);
        int sum = 0;
        for (int i = 0; i < pictures; i++) {
            sum += best[i] < 0 ? 0 : worths[i][best[i]];
        }
        Checks.due("plan", x.plan(stages), sum);
        for (int i = 0; i < pictures; i++) {
            Checks.due("planned", x.planned(i), best[i]);
        }
    }

    private static int[] bestPlan(int[] kinds, int[] lots, int[] casts, int[][] worths, int stages) {
        int[] best = null;
        int bestSum = -1;
        int combinations = (int) Math.pow(9, kinds.length);
        for (int number = 0; number < combinations; number++) {
            int[] plan = new int[kinds.length];
            int rest = number;
            int sum = 0;
            for (int i = kinds.length - 1; i >= 0; i--) {
                plan[i] = rest % 9 == 8 ? -1 : rest % 9;
                rest /= 9;
                sum += plan[i] < 0 ? 0 : worths[i][plan[i]];
            }
            if (sum > bestSum && canBe(plan, kinds, lots, casts, stages)) {
                best = plan;
                bestSum = sum;
            }
        }
        return best;
    }

    private static boolean canBe(int[] plan, int[] kinds, int[] lots, int[] casts, int stages) {
        for (int i = 0; i < plan.length; i++) {
            boolean great = kinds[i] == 3 || kinds[i] == 4;
            if (great && plan[i] != -1 && plan[i] != 0 && plan[i] != 4) {
                return false;
            }
        }
        for (int slot = 0; slot < 8; slot++) {
            int used = 0;
            int people = 0;
            for (int i = 0; i < plan.length; i++) {
                if (plan[i] >= 0 && slot >= plan[i] && slot < plan[i] + lots[i]) {
                    used++;
                    if ((people & casts[i]) != 0) {
                        return false;
                    }
                    people |= casts[i];
                }
            }
            if (used > stages) {
                return false;
            }
        }
        return true;
    }

    // ---- several PICTURES in one object ----

    /** What is asked of one PICTURE is answered as if the others were not there. */
    private static void apart() {
        StudioYears all = new StudioYears();
        int[] sets = {RANDOM.nextInt(9), RANDOM.nextInt(50)};
        costsAndPeople(all, sets);
        StudioYears[] alone = new StudioYears[8];
        for (int number = 0; number < 8; number++) {
            alone[number] = new StudioYears();
            costsAndPeople(alone[number], sets);
            all.picture(0);
            alone[number].picture(0);
            long seed = RANDOM.nextLong();
            fillPicture(all, number, new Random(seed));
            fillPicture(alone[number], 0, new Random(seed));
        }
        for (int i = 0; i < 40; i++) {
            int number = RANDOM.nextInt(8);
            int length = RANDOM.nextInt(200);
            Checks.due("best", all.best(number), alone[number].best(0));
            Checks.due("reel", all.reel(number, length), alone[number].reel(0, length));
            for (int scene = 0; scene < 8; scene++) {
                Checks.due("bestScene", all.bestScene(number, scene), alone[number].bestScene(0, scene));
                Checks.due("reelTake", all.reelTake(number, scene), alone[number].reelTake(0, scene));
            }
        }
    }

    private static void costsAndPeople(StudioYears x, int[] sets) {
        x.costs(0, sets[0]);
        x.costs(1, sets[1]);
        for (int who = 0; who < 5; who++) {
            x.person(70 + 70 * who);
        }
    }

    private static void fillPicture(StudioYears x, int number, Random random) {
        int scenes = 1 + random.nextInt(8);
        for (int scene = 0; scene < scenes; scene++) {
            x.scene(number, random.nextInt(3), random.nextInt(32), 1 + random.nextInt(4));
            for (int take = random.nextInt(5); take > 0; take--) {
                x.take(number, scene, 1 + random.nextInt(60), random.nextInt(60), 11 * random.nextInt(2));
            }
        }
    }
}
