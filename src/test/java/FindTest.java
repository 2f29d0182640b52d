/** Promise 7: find. */
public final class FindTest {
    public static void main(String[] args) {
        findsAtItsFirstPlace();
        followsAndShortens();
        shortensAllNodesGoneThrough();
        forgetsOldWays();
        findsAnEndedOne();
        refuses();
        Check.end();
    }

    private static void findsAtItsFirstPlace() {
        ClusterImage x = new ClusterImage();
        x.spawn(0, 1);
        Check.due("find(0, 0)", x.find(0, 0), 1);
        Check.due("find(1, 0)", x.find(1, 0), 0);
        Check.due("find(2, 0)", x.find(2, 0), 1);
    }

    private static void followsAndShortens() {
        ClusterImage x = new ClusterImage();
        x.spawn(0, 0);
        x.spawn(0, 0);
        x.migrate(0, 1);
        Check.due("find(2, 0)", x.find(2, 0), 2);
        Check.due("find(2, 0) again", x.find(2, 0), 1);
        Check.due("find(0, 0)", x.find(0, 0), 1);
        Check.due("find(1, 0)", x.find(1, 0), 0);
        Check.due("the other process's hints stay", x.find(1, 1), 1);
        Check.due("the other process's hints stay", x.find(2, 1), 1);
    }

    private static void shortensAllNodesGoneThrough() {
        ClusterImage x = new ClusterImage();
        x.spawn(0, 0);
        x.migrate(0, 1);
        x.migrate(0, 2);
        Check.due("find(0, 0)", x.find(0, 0), 2);
        x.migrate(0, 1);
        // 0 points to 2 by the find, and 2 to 1 by the move.
        Check.due("find(0, 0)", x.find(0, 0), 2);
        Check.due("find(0, 0) again", x.find(0, 0), 1);
        Check.due("find(2, 0)", x.find(2, 0), 1);
    }

    private static void forgetsOldWays() {
        ClusterImage x = new ClusterImage();
        x.spawn(0, 0);
        x.migrate(0, 1);
        x.migrate(0, 0);
        Check.due("find(0, 0)", x.find(0, 0), 0);
        Check.due("find(1, 0)", x.find(1, 0), 1);
        Check.due("find(2, 0)", x.find(2, 0), 1);
        x.migrate(0, 2);
        Check.due("1 still points to 0", x.find(1, 0), 2);
        Check.due("2 is there", x.find(2, 0), 0);
    }

    private static void findsAnEndedOne() {
        ClusterImage x = new ClusterImage();
        x.spawn(0, 0);
        x.migrate(0, 1);
        x.migrate(0, 2);
        Check.steps(x, 2, 30);
        Check.due("find(0, 0)", x.find(0, 0), 2);
        Check.due("find(0, 0)", x.find(0, 0), 1);
        Check.due("find(2, 0)", x.find(2, 0), 0);
    }

    private static void refuses() {
        ClusterImage x = new ClusterImage();
        x.spawn(0, 0);
        int[] far = {Integer.MIN_VALUE, -1, 3, 8, Integer.MAX_VALUE};
        for (int number : far) {
            Check.due("find(" + number + ", 0)", x.find(number, 0), ClusterImage.REFUSED);
            Check.due("find(0, " + number + ")", x.find(0, number), ClusterImage.REFUSED);
        }
        Check.due("find(0, 1)", x.find(0, 1), ClusterImage.REFUSED);
    }
}
