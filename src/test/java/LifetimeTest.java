import java.util.Random;

/** "An object is used for at most 512 calls": the last of them is as good as the first, and none behind them fails. */
public final class LifetimeTest {
    private static final int CALLS = 512;
    private static final int BEYOND = 200000;

    public static void main(String[] args) {
        countsUpToTheLastCall();
        movesAPageUpToTheLastCall();
        fullUpToTheLastCall();
        refusesUpToTheLastCall();
        neverFailsBehindTheLastCall();
        Check.end();
    }

    private static void countsUpToTheLastCall() {
        ClusterImage x = Check.with(new int[][] {{0, Op.SET, 1, 1}, {0, Op.ADD, 0, 1}, {0, Op.JUMP, 1, 1}});
        Check.due("spawn(0, 0)", x.spawn(0, 0), 0);
        Check.ready(x, 0, 0, CALLS - 5);
        // One step was the SET, and each second one of the others an ADD.
        Check.due("call 512", x.reg(0, 0), (CALLS - 5) / 2);
    }

    /** Each round of five calls takes the page to the node that has it not. */
    private static void movesAPageUpToTheLastCall() {
        ClusterImage x = Check.with(new int[][] {{0, Op.STORE, 1, 0}, {0, Op.SET, 1, 1}, {0, Op.JUMP, 1, 0}});
        Check.due("spawn(0, 0)", x.spawn(0, 0), 0);
        Check.due("spawn(0, 1)", x.spawn(0, 1), 1);
        int calls = 5;
        int rounds = 0;
        while (calls + 5 < CALLS - 1) {
            int node = rounds % 2;
            Check.steps(x, node, 10 + node);
            Check.due("serve(0)", x.serve(0), node);
            Check.steps(x, node, node, node, node);
            rounds++;
            calls += 5;
        }
        while (calls < CALLS - 1) {
            Check.due("serve(7)", x.serve(7), ClusterImage.IDLE);
            calls++;
        }
        Check.due("call 512", x.count(1), 3 * rounds - 1);
    }

    private static void fullUpToTheLastCall() {
        ClusterImage x = new ClusterImage();
        for (int i = 0; i < 12; i++) {
            x.instr(0, Op.YIELD, 0, 0);
        }
        for (int i = 0; i < 8; i++) {
            x.spawn(1, 0);
        }
        for (int call = 20; call < CALLS; call++) {
            if (call % 2 == 0) {
                Check.due("instr as call " + call, x.instr(0, Op.YIELD, 0, 0), ClusterImage.FULL);
            } else {
                Check.due("spawn as call " + call, x.spawn(0, 0), ClusterImage.FULL);
            }
        }
    }

    private static void refusesUpToTheLastCall() {
        ClusterImage x = new ClusterImage();
        x.spawn(0, 0);
        for (int call = 1; call < CALLS - 1; call++) {
            Check.due("migrate as call " + call, x.migrate(0, 0), ClusterImage.REFUSED);
        }
        Check.due("call 512", x.migrate(0, 2), 0);
    }

    /** What is answered there is free; that each call comes back is asked of every call. */
    private static void neverFailsBehindTheLastCall() {
        for (int seed = 0; seed < 10; seed++) {
            Random random = new Random(seed);
            ClusterImage x = new ClusterImage();
            for (int i = 0; i < BEYOND; i++) {
                anyCall(x, random);
            }
        }
    }

    private static int any(Random random) {
        int[] extremes = {Integer.MIN_VALUE, Integer.MAX_VALUE, -1, 8, 32, -1000, 1000};
        int kind = random.nextInt(20);
        if (kind == 0) {
            return extremes[random.nextInt(extremes.length)];
        }
        return random.nextInt(kind < 4 ? 13 : 4);
    }

    private static void anyCall(ClusterImage x, Random random) {
        int a = any(random);
        int b = any(random);
        switch (random.nextInt(18)) {
            case 0 -> x.instr(a, any(random), b, any(random));
            case 1 -> x.spawn(a, b);
            case 2, 3, 4, 5 -> x.step(a);
            case 6, 7 -> x.serve(a);
            case 8 -> x.migrate(a, b);
            case 9 -> x.find(a, b);
            case 10 -> x.reg(a, b);
            case 11 -> x.info(a, b);
            case 12 -> x.line(a, b);
            case 13 -> x.word(a);
            case 14 -> x.copy(a, b);
            case 15 -> x.right(a, b);
            case 16 -> x.owner(a);
            default -> x.count(a);
        }
    }
}
