/** Promise 3: spawn. */
public final class SpawnTest {
    public static void main(String[] args) {
        makesAReadyProcess();
        makesEight();
        refusesNumbersOutOfRange();
        Check.end();
    }

    private static void makesAReadyProcess() {
        ClusterImage x = new ClusterImage();
        for (int node = 0; node < 3; node++) {
            Check.due("spawn(0, " + node + ")", x.spawn(0, node), node);
            long[] due = {1, node, 0, 0, 0, 8};
            for (int what = 0; what < 6; what++) {
                Check.due("info(" + node + ", " + what + ")", x.info(node, what), due[what]);
            }
            for (int register = 0; register < 4; register++) {
                Check.due("reg(" + node + ", " + register + ")", x.reg(node, register), 0);
            }
            for (int from = 0; from < 3; from++) {
                Check.due("find(" + from + ", " + node + ")", x.find(from, node), from == node ? 0 : 1);
            }
        }
        Check.due("spawn(3, 1)", x.spawn(3, 1), 3);
        Check.line(x, 0, 0);
        Check.line(x, 1, 1, 3);
        Check.line(x, 2, 2);
        Check.due("count(0)", x.count(0), 4);
        Check.due("count(5)", x.count(5), 4);
    }

    private static void makesEight() {
        ClusterImage x = new ClusterImage();
        for (int i = 0; i < 8; i++) {
            Check.due("spawn number " + i, x.spawn(i % 4, 0), i);
        }
        Check.due("spawn number 8", x.spawn(0, 0), ClusterImage.FULL);
        Check.steps(x, 0, 30);
        Check.due("spawn when one has ended", x.spawn(0, 1), ClusterImage.FULL);
        Check.due("spawn(4, 0) when full", x.spawn(4, 0), ClusterImage.REFUSED);
        Check.due("spawn(0, 3) when full", x.spawn(0, 3), ClusterImage.REFUSED);
        Check.line(x, 0, 1, 2, 3, 4, 5, 6, 7);
    }

    private static void refusesNumbersOutOfRange() {
        ClusterImage x = new ClusterImage();
        int[] far = {Integer.MIN_VALUE, -1, 4, 8, Integer.MAX_VALUE};
        for (int number : far) {
            Check.due("spawn(" + number + ", 0)", x.spawn(number, 0), ClusterImage.REFUSED);
            Check.due("spawn(0, " + number + ")", x.spawn(0, number), ClusterImage.REFUSED);
        }
        Check.due("spawn(0, 3)", x.spawn(0, 3), ClusterImage.REFUSED);
        Check.due("count(0)", x.count(0), 0);
        Check.due("spawn(3, 2)", x.spawn(3, 2), 0);
    }
}
