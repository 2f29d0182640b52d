import java.util.Random;

/** What the terms say of every state, looked at behind random runs without any model beside them. */
public final class InvariantsTest {
    private static final int RUNS = 6000;

    public static void main(String[] args) {
        int[] seen = new int[4];
        for (int run = 0; run < RUNS && Check.isClean(); run++) {
            ClusterImage x = randomRun(new Random(run));
            rights(x);
            owners(x);
            copies(x);
            lines(x);
            states(x);
            counts(x);
            for (int node = 0; node < 3; node++) {
                seen[held(x, node)]++;
            }
        }
        Check.sentence("the runs reach every number of held pages");
        for (int pages = 0; pages < 4; pages++) {
            Check.due("reached " + pages, seen[pages] > 0 ? 1 : 0, 1);
        }
        Check.end();
    }

    /** At most 200 calls, so that the looks behind them stay within the object's 512. */
    private static ClusterImage randomRun(Random random) {
        ClusterImage x = new ClusterImage();
        int[] ops = {Op.SET, Op.SET, Op.SET, Op.LOAD, Op.LOAD, Op.STORE, Op.CAS, Op.ADD, Op.JUMP, Op.FORK, Op.WAIT,
            Op.KILL, Op.YIELD, Op.EXIT};
        for (int i = 0; i < 30; i++) {
            int op = ops[random.nextInt(ops.length)];
            int limit = op == Op.SET ? 32 : op == Op.JUMP ? 12 : 4;
            x.instr(random.nextInt(4), op, random.nextInt(4), random.nextInt(limit));
        }
        int length = random.nextInt(170);
        for (int i = 0; i < length; i++) {
            int kind = random.nextInt(20);
            if (kind < 2) {
                x.spawn(random.nextInt(4), random.nextInt(3));
            } else if (kind < 12) {
                x.step(random.nextInt(3));
            } else if (kind < 18) {
                x.serve(random.nextInt(8));
            } else {
                x.migrate(random.nextInt(8), random.nextInt(3));
            }
        }
        return x;
    }

    private static int held(ClusterImage x, int node) {
        int sum = 0;
        for (int page = 0; page < 8; page++) {
            sum += x.right(node, page) > 0 ? 1 : 0;
        }
        return sum;
    }

    private static void holds(String what, boolean fact) {
        Check.due(what, fact ? 1 : 0, 1);
    }

    private static void rights(ClusterImage x) {
        Check.sentence("If a node has WRITE no other one has a right");
        for (int page = 0; page < 8; page++) {
            int with = 0;
            int writing = 0;
            for (int node = 0; node < 3; node++) {
                with += x.right(node, page) > 0 ? 1 : 0;
                writing += x.right(node, page) == 2 ? 1 : 0;
            }
            holds("page " + page, writing == 0 || with == 1);
        }
        Check.sentence("A node has rights to at most 3 pages");
        for (int node = 0; node < 3; node++) {
            holds("node " + node, held(x, node) <= 3);
        }
    }

    private static void owners(ClusterImage x) {
        Check.sentence("Every page has an OWNER, a node with a right to it or HOME 3");
        for (int page = 0; page < 8; page++) {
            int owner = x.owner(page);
            holds("page " + page, owner == 3 || x.right(owner, page) > 0);
            if (owner == 3) {
                holds("HOME, so no node has a right to " + page,
                    x.right(0, page) + x.right(1, page) + x.right(2, page) == 0);
            }
        }
    }

    private static void copies(ClusterImage x) {
        Check.sentence("NONE if it has no right to its page, else the memory's word");
        for (int address = 1; address < 32; address += 6) {
            for (int node = 0; node < 3; node++) {
                long due = x.right(node, address / 4) == 0 ? ClusterImage.NONE : x.word(address);
                Check.due("copy(" + node + ", " + address + ")", x.copy(node, address), due);
            }
        }
    }

    private static void lines(ClusterImage x) {
        Check.sentence("Each node has a LINE of the ready processes placed there");
        int[] stands = new int[8];
        for (int node = 0; node < 3; node++) {
            for (int k = 0; x.line(node, k) != 8; k++) {
                int p = x.line(node, k);
                stands[p]++;
                Check.due("place of " + p, x.info(p, 1), node);
            }
        }
        int ready = 0;
        for (int p = 0; p < x.count(0); p++) {
            Check.due("times that " + p + " stands in a line", stands[p], x.info(p, 0) == 1 ? 1 : 0);
            ready += stands[p];
        }
        Check.due("count(5)", x.count(5), ready);
    }

    private static void states(ClusterImage x) {
        Check.sentence("READY 1, BLOCKED 2 (on a page), WAITING 3, ENDED 4 with a code; a SLICE below 3");
        for (int p = 0; p < x.count(0); p++) {
            long state = x.info(p, 0);
            holds("state of " + p, state >= 1 && state <= 4);
            holds("page of " + p, state == 2 ? x.info(p, 5) < 8 : x.info(p, 5) == 8);
            holds("code of " + p, state == 4 || x.info(p, 4) == 0);
            holds("slice of " + p, x.info(p, 3) >= 0 && x.info(p, 3) < 3);
        }
    }

    private static void counts(ClusterImage x) {
        Check.sentence("messages (1), faults (2), pages given up (3), requests in all lines (4), grants (6)");
        int blocked = 0;
        for (int p = 0; p < x.count(0); p++) {
            blocked += x.info(p, 0) == 2 ? 1 : 0;
        }
        holds("each blocked one has a request", x.count(4) >= blocked);
        holds("each request and each grant comes of a fault", x.count(4) + x.count(6) <= x.count(2));
        holds("a grant costs 1 to 5 messages", x.count(1) >= x.count(6) && x.count(1) <= 5 * x.count(6));
        holds("a grant gives up one page at most", x.count(3) <= x.count(6));
    }
}
