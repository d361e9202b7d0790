import java.util.Arrays;
import java.util.Random;

/**
 * Nets of 9 to 11 posts: every row is written out and priced by the document's words, so that the
 * least cost, how many have it, and the first and the last of these are known without any table.
 */
public final class LargeNetTest {
    private static final int[] COSTS = {1, 2, 3, 5};
    private static final Due due = new Due("LargeNetTest");

    private final int posts;
    private final int[][] weight;
    private final boolean[][] ahead;
    private final int[] row;
    private final boolean[] laid;
    private final int[] least = new int[COSTS.length];
    private final int[] many = new int[COSTS.length];
    private final int[][] first = new int[COSTS.length][];
    private final int[][] last = new int[COSTS.length][];

    private LargeNetTest(int posts) {
        this.posts = posts;
        weight = new int[posts][posts];
        ahead = new boolean[posts][posts];
        row = new int[posts];
        laid = new boolean[posts];
        Arrays.fill(least, Integer.MAX_VALUE);
    }

    public static void main(String[] args) {
        int[] sizes = {9, 9, 9, 9, 9, 9, 10, 10, 10, 11};
        for (int seed = 0; seed < sizes.length; seed++) {
            // the more posts, the more pairs: rows that keep none are not written out
            new LargeNetTest(sizes[seed]).run(seed, sizes[seed] * 5 - 42 + seed % 3);
        }
        due.ending();
    }

    private void run(int seed, int pairs) {
        Random random = new Random(seed);
        NarrowRows x = Nets.of(posts);
        for (int i = 0; i < posts * 3 / 2; i++) {
            int one = random.nextInt(posts);
            int other = random.nextInt(posts);
            int heavy = 1 + random.nextInt(seed % 2 == 0 ? 3 : 900);
            if (one != other && weight[one][other] == 0) {
                x.weigh(one, other, heavy);
                weight[one][other] = heavy;
                weight[other][one] = heavy;
            }
        }
        for (int i = 0; i < pairs; i++) {
            int one = random.nextInt(posts);
            int other = random.nextInt(posts);
            if (x.pair(one, other) > 0) {
                ahead[one][other] = true;
            }
        }
        write(0, new int[4]);
        for (int i = 0; i < COSTS.length; i++) {
            compare("seed " + seed + ", " + posts + " posts", x, i, random);
        }
    }

    /** Writes rows in order; so far are the costs up to the last place. */
    private void write(int place, int[] soFar) {
        if (place == posts) {
            for (int i = 0; i < COSTS.length; i++) {
                meet(i, soFar[i]);
            }
            return;
        }
        for (int post = 0; post < posts; post++) {
            if (!laid[post] && mayStandHere(post)) {
                laid[post] = true;
                row[place] = post;
                write(place + 1, with(soFar));
                laid[post] = false;
            }
        }
    }

    private boolean mayStandHere(int post) {
        for (int other = 0; other < posts; other++) {
            if (!laid[other] && ahead[other][post]) {
                return false;
            }
        }
        return true;
    }

    private int[] with(int[] soFar) {
        int cut = 0;
        int open = 0;
        int held = 0;
        for (int one = 0; one < posts; one++) {
            boolean opens = false;
            boolean holds = false;
            for (int other = 0; laid[one] && other < posts; other++) {
                if (!laid[other]) {
                    cut += weight[one][other];
                    opens |= weight[one][other] > 0;
                    holds |= ahead[one][other];
                }
            }
            open += opens ? 1 : 0;
            held += holds ? 1 : 0;
        }
        return new int[] {Math.max(soFar[0], cut), Math.max(soFar[1], open), soFar[2] + cut,
            Math.max(soFar[3], held + 1)};
    }

    private void meet(int i, int cost) {
        if (cost < least[i]) {
            least[i] = cost;
            many[i] = 0;
            first[i] = row.clone();
        }
        if (cost == least[i]) {
            many[i]++;
            last[i] = row.clone();
        }
    }

    private void compare(String net, NarrowRows x, int i, Random random) {
        int cost = COSTS[i];
        due.is(net + ": least(" + cost + ")", x.least(cost), least[i]);
        due.is(net + ": many(" + cost + ")", x.many(cost), many[i]);
        due.is(net + ": best(" + cost + ", many)", x.best(cost, many[i]), -1);
        due.is(net + ": best(" + cost + ", 0)", x.best(cost, 0), posts);
        Nets.held(due, net + ": best(" + cost + ", 0)", x, first[i]);
        due.is(net + ": best(" + cost + ", last)", x.best(cost, many[i] - 1), posts);
        Nets.held(due, net + ": best(" + cost + ", last)", x, last[i]);
        for (int turn = 0; turn < 10; turn++) {
            int k = random.nextInt(many[i]);
            due.is(net + ": best(" + cost + ", " + k + ")", x.best(cost, k), posts);
            due.is(net + ": number(" + cost + ")", x.number(cost), k);
            due.is(net + ": cost(" + cost + ")", x.cost(cost), least[i]);
            due.is(net + ": lawful()", x.lawful(), 1);
            due.is(net + ": better(" + cost + ", 60)", x.better(cost, 60), 0);
        }
    }
}
