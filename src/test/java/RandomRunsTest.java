import java.util.Random;

/**
 * Promises 1 to 14 together: runs of 512 calls in any order, each answer compared with the model's; the last calls
 * of a run look at the whole key.
 */
public final class RandomRunsTest {
    private static final int[] EDGES = {-1, 0, 1, 2, 3, 4, 7, 9, 10, 14, 15, 16, 31, 32, 33, 1023, 1024, 32767, 32768,
        Integer.MAX_VALUE, Integer.MIN_VALUE};

    public static void main(String[] args) {
        Random random = new Random(20261115);
        for (int run = 0; run < 80; run++) {
            int n = 14 + random.nextInt(21);
            int t = 1 + random.nextInt(4);
            GoppaLockbox box = new GoppaLockbox(n, t);
            Model model = new Model(n, t);
            for (int k = 0; k < 512 - Keys.CALLS; k++) {
                call("run " + run + ", call " + k + ": ", random, box, model);
            }
            Keys.same("run " + run + ", at its end", box, model);
        }
        Check.finish();
    }

    private static void call(String name, Random random, GoppaLockbox box, Model model) {
        long coins = random.nextInt(4) == 0 ? random.nextLong() : random.nextInt(500) - 250;
        int index = random.nextInt(6) == 0 ? EDGES[random.nextInt(EDGES.length)] : random.nextInt(34) - 1;
        int other = random.nextInt(6) == 0 ? EDGES[random.nextInt(EDGES.length)] : random.nextInt(32);
        int syndrome = syndrome(random, model);
        int pattern = pattern(random, model);
        switch (random.nextInt(14)) {
            case 0 -> same(name + "times", () -> model.times(index, other), () -> box.times(index, other));
            case 1 -> same(name + "inverse", () -> model.inverse(index), () -> box.inverse(index));
            case 2, 3 -> same(name + "attempt", () -> model.attempt(coins), () -> box.attempt(coins));
            case 4 -> same(name + "search", () -> model.search(coins), () -> box.search(coins));
            case 5 -> same(name + "coefficient", () -> model.coefficient(index), () -> box.coefficient(index));
            case 6 -> same(name + "support", () -> model.support(index), () -> box.support(index));
            case 7 -> same(name + "row", () -> model.row(index), () -> box.row(index));
            case 8 -> same(name + "hide", () -> model.hide(pattern), () -> box.hide(pattern));
            case 9 -> same(name + "find", () -> model.find(syndrome), () -> box.find(syndrome));
            case 10 -> same(name + "seal", () -> model.seal(coins), () -> box.seal(coins));
            case 11 -> same(name + "shared", () -> model.shared, box::shared);
            case 12 -> same(name + "open", () -> model.open(syndrome), () -> box.open(syndrome));
            default -> {
                if (random.nextInt(3) == 0) {
                    same(name + "erase", model::erase, box::erase);
                }
            }
        }
    }

    private static void same(String name, Check.Call due, Check.Call call) {
        Check.due(name, Check.outcome(due), call);
    }

    private static int syndrome(Random random, Model model) {
        return random.nextInt(6) == 0 ? EDGES[random.nextInt(EDGES.length)] : random.nextInt(1 << model.m);
    }

    private static int pattern(Random random, Model model) {
        int pattern = 0;
        int bits = random.nextInt(5) == 0 ? random.nextInt(6) : model.t;
        int range = random.nextInt(5) == 0 ? 32 : model.n;
        for (int k = 0; k < bits; k++) {
            pattern |= 1 << random.nextInt(range);
        }
        return pattern;
    }
}
