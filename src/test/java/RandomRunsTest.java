import java.util.Random;

/** Runs of 512 calls, each answer against that of the model; a fixed seed makes every run the same. */
public final class RandomRunsTest {
    private static final int RUNS = 20000;
    private static final int CALLS = 512;

    private final Random random;
    private final ClusterImage x = new ClusterImage();
    private final Model model = new Model();
    private final int run;

    private RandomRunsTest(int run) {
        this.run = run;
        this.random = new Random(run);
    }

    public static void main(String[] args) {
        for (int run = 0; run < RUNS && Check.isClean(); run++) {
            new RandomRunsTest(run).go();
        }
        Check.end();
    }

    private void go() {
        int calls = 0;
        int start = random.nextInt(40);
        while (calls < start) {
            instr();
            calls++;
        }
        int reads = random.nextInt(4);
        while (calls < CALLS && Check.isClean()) {
            change();
            calls++;
            for (int i = 0; i < reads && calls < CALLS; i++) {
                read();
                calls++;
            }
        }
        finalState();
    }

    private void same(String name, long got, long want, int... args) {
        if (got != want) {
            StringBuilder text = new StringBuilder("run " + run + ": " + name + "(");
            for (int i = 0; i < args.length; i++) {
                text.append(i == 0 ? "" : ", ").append(args[i]);
            }
            Check.due(text.append(")").toString(), got, want);
        }
    }

    /** Mostly a number below the limit, now and then one beside the range. */
    private int upTo(int limit) {
        int kind = random.nextInt(100);
        return kind == 0 ? -1 : kind == 1 ? limit : kind == 2 ? random.nextInt() : random.nextInt(limit);
    }

    private void instr() {
        int[] favourites = {0, 0, 1, 2, 2, 3, 3, 4, 5, 6, 6, 7, 8, 9, 10, 11, 12};
        int program = upTo(4);
        int op = random.nextInt(50) == 0 ? upTo(13) : favourites[random.nextInt(favourites.length)];
        int a = upTo(4);
        int b = op == 0 ? setValue() : op == 5 ? upTo(12) : upTo(4);
        same("instr", x.instr(program, op, a, b), model.instr(program, op, a, b), program, op, a, b);
    }

    private int setValue() {
        int kind = random.nextInt(4);
        return kind == 0 ? random.nextInt(2003) - 1001 : kind == 1 ? random.nextInt(9) - 1 : random.nextInt(32);
    }

    private void change() {
        int kind = random.nextInt(100);
        if (kind < 3) {
            instr();
        } else if (kind < 8) {
            int program = upTo(4);
            int node = upTo(3);
            same("spawn", x.spawn(program, node), model.spawn(program, node), program, node);
        } else if (kind < 60) {
            int node = upTo(3);
            same("step", x.step(node), model.step(node), node);
        } else if (kind < 86) {
            serveWherePossible();
        } else if (kind < 93) {
            int process = upTo(8);
            int node = upTo(3);
            same("migrate", x.migrate(process, node), model.migrate(process, node), process, node);
        } else {
            int process = upTo(8);
            int node = upTo(3);
            same("find", x.find(node, process), model.find(node, process), node, process);
        }
    }

    /** The model is asked which page somebody waits for, so that runs go on; asking it costs no call. */
    private void serveWherePossible() {
        int page = upTo(8);
        int first = random.nextInt(8);
        for (int i = 0; i < 8 && random.nextInt(20) != 0; i++) {
            long wanted = model.info((first + i) % 8, 5);
            if (wanted >= 0 && wanted < 8) {
                page = (int) wanted;
                break;
            }
        }
        same("serve", x.serve(page), model.serve(page), page);
    }

    private void read() {
        int node = upTo(3);
        int page = upTo(8);
        int process = upTo(8);
        int address = upTo(32);
        int what = upTo(7);
        int register = upTo(4);
        switch (random.nextInt(8)) {
            case 0 -> same("reg", x.reg(process, register), model.reg(process, register), process, register);
            case 1 -> same("info", x.info(process, what), model.info(process, what), process, what);
            case 2 -> same("line", x.line(node, page), model.line(node, page), node, page);
            case 3 -> same("word", x.word(address), model.word(address), address);
            case 4 -> same("copy", x.copy(node, address), model.copy(node, address), node, address);
            case 5 -> same("right", x.right(node, page), model.right(node, page), node, page);
            case 6 -> same("owner", x.owner(page), model.owner(page), page);
            default -> same("count", x.count(what), model.count(what), what);
        }
    }

    /** Later answers are free by the document; this program keeps its word all the same. */
    private void finalState() {
        for (int p = 0; p < 8; p++) {
            for (int what = 0; what < 6; what++) {
                same("info", x.info(p, what), model.info(p, what), p, what);
                same("reg", x.reg(p, what), model.reg(p, what), p, what);
            }
        }
        for (int node = 0; node < 3; node++) {
            for (int i = 0; i < 32; i++) {
                same("copy", x.copy(node, i), model.copy(node, i), node, i);
                same("right", x.right(node, i), model.right(node, i), node, i);
                same("line", x.line(node, i), model.line(node, i), node, i);
            }
        }
        for (int i = 0; i < 32; i++) {
            same("word", x.word(i), model.word(i), i);
            same("owner", x.owner(i), model.owner(i), i);
            same("count", x.count(i), model.count(i), i);
        }
    }
}
