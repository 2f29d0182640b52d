/** Promise 6: migrate. */
public final class MigrateTest {
    public static void main(String[] args) {
        movesAReadyOne();
        movesABlockedAndAWaitingOne();
        refuses();
        refusesAnEndedOne();
        Check.end();
    }

    private static void movesAReadyOne() {
        ClusterImage x = new ClusterImage();
        Check.load(x, new int[][] {{0, Op.SET, 0, 1}, {0, Op.SET, 0, 2}});
        for (int i = 0; i < 3; i++) {
            x.spawn(0, 0);
        }
        x.spawn(0, 1);
        Check.steps(x, 0, 0);
        Check.due("migrate(1, 1)", x.migrate(1, 1), 0);
        Check.line(x, 0, 0, 2);
        Check.line(x, 1, 3, 1);
        Check.due("slice", x.info(0, 3), 1);
        Check.due("migrate(0, 1)", x.migrate(0, 1), 0);
        Check.line(x, 0, 2);
        Check.line(x, 1, 3, 1, 0);
        Check.due("slice at the end of a line", x.info(0, 3), 0);
        Check.due("counter", x.info(0, 2), 1);
        Check.due("place", x.info(0, 1), 1);
        Check.due("state", x.info(0, 0), 1);
        Check.due("migrate(0, 2)", x.migrate(0, 2), 1);
        Check.due("migrate(0, 0)", x.migrate(0, 0), 2);
        Check.line(x, 0, 2, 0);
        Check.line(x, 1, 3, 1);
        Check.line(x, 2);
        Check.due("count(5)", x.count(5), 4);
    }

    private static void movesABlockedAndAWaitingOne() {
        ClusterImage x = new ClusterImage();
        Check.load(x, new int[][] {
            {0, Op.SET, 0, 9}, {0, Op.LOAD, 1, 0}, {1, Op.SET, 1, 1}, {1, Op.WAIT, 0, 0}});
        x.spawn(0, 0);
        x.spawn(1, 1);
        Check.steps(x, 0, 0, 10);
        Check.steps(x, 1, 1, 21);
        Check.due("migrate(0, 1)", x.migrate(0, 1), 0);
        Check.due("migrate(1, 2)", x.migrate(1, 2), 1);
        for (int node = 0; node < 3; node++) {
            Check.line(x, node);
        }
        for (int p = 0; p < 2; p++) {
            Check.due("state of " + p, x.info(p, 0), 2 + p);
            Check.due("place of " + p, x.info(p, 1), 1 + p);
            Check.due("slice of " + p, x.info(p, 3), 1);
        }
        Check.due("page", x.info(0, 5), 2);
        Check.due("count(5)", x.count(5), 0);
        Check.due("find(0, 0)", x.find(0, 0), 1);
        Check.due("serve(2)", x.serve(2), 0);
        Check.steps(x, 1, 0, 30);
        Check.line(x, 2, 1);
    }

    private static void refuses() {
        ClusterImage x = new ClusterImage();
        x.spawn(0, 1);
        x.spawn(0, 1);
        int[] far = {Integer.MIN_VALUE, -1, 3, 8, Integer.MAX_VALUE};
        for (int number : far) {
            Check.due("migrate(" + number + ", 0)", x.migrate(number, 0), ClusterImage.REFUSED);
            Check.due("migrate(0, " + number + ")", x.migrate(0, number), ClusterImage.REFUSED);
        }
        Check.due("migrate(2, 0)", x.migrate(2, 0), ClusterImage.REFUSED);
        Check.due("its place already", x.migrate(0, 1), ClusterImage.REFUSED);
        Check.line(x, 1, 0, 1);
    }

    private static void refusesAnEndedOne() {
        ClusterImage x = new ClusterImage();
        x.spawn(0, 1);
        Check.steps(x, 1, 30);
        Check.due("migrate(0, 0)", x.migrate(0, 0), ClusterImage.REFUSED);
        Check.due("migrate(0, 1)", x.migrate(0, 1), ClusterImage.REFUSED);
        Check.due("place", x.info(0, 1), 1);
        Check.line(x, 0);
    }
}
