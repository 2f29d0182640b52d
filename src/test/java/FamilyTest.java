/** Promise 4: FORK, WAIT, KILL, YIELD and slices, which work on more than one process. */
public final class FamilyTest {
    public static void main(String[] args) {
        takesTurnsByThree();
        yields();
        yieldsAlone();
        forks();
        forksBeforeItGoesToTheEnd();
        forksNoNinth();
        waitsForAnEnd();
        waitsForNobody();
        wakesByRisingNumbers();
        kills();
        killsNobody();
        killsAWaitingOneAndABlockedOne();
        Check.end();
    }

    private static void takesTurnsByThree() {
        ClusterImage x = new ClusterImage();
        for (int i = 0; i < 12; i++) {
            x.instr(0, Op.SET, 0, i);
        }
        x.spawn(0, 1);
        x.spawn(0, 1);
        Check.steps(x, 1, 0, 0);
        Check.due("slice", x.info(0, 3), 2);
        Check.steps(x, 1, 0);
        Check.due("slice", x.info(0, 3), 0);
        Check.line(x, 1, 1, 0);
        Check.steps(x, 1, 1, 1, 1, 0, 0, 0, 1);
    }

    private static void yields() {
        ClusterImage x = new ClusterImage();
        Check.load(x, new int[][] {{0, Op.SET, 0, 1}, {0, Op.YIELD, 0, 0}, {0, Op.SET, 0, 2}});
        x.spawn(0, 2);
        x.spawn(0, 2);
        Check.steps(x, 2, 0, 0);
        Check.due("slice", x.info(0, 3), 0);
        Check.due("counter", x.info(0, 2), 2);
        Check.line(x, 2, 1, 0);
        Check.steps(x, 2, 1, 1, 0, 30, 1, 31);
    }

    private static void yieldsAlone() {
        ClusterImage x = new ClusterImage();
        Check.load(x, new int[][] {{0, Op.SET, 0, 1}, {0, Op.YIELD, 0, 0}});
        x.spawn(0, 0);
        Check.steps(x, 0, 0);
        Check.due("slice", x.info(0, 3), 1);
        Check.steps(x, 0, 0);
        Check.due("slice", x.info(0, 3), 0);
        Check.line(x, 0, 0);
    }

    private static void forks() {
        ClusterImage x = new ClusterImage();
        Check.load(x, new int[][] {{0, Op.SET, 1, 8}, {0, Op.FORK, 2, 3}, {3, Op.EXIT, 1, 0}});
        x.spawn(0, 0);
        x.spawn(0, 1);
        x.migrate(1, 2);
        Check.steps(x, 2, 1, 1);
        Check.due("A", x.reg(1, 2), 2);
        Check.line(x, 2, 1, 2);
        Check.due("place", x.info(2, 1), 2);
        Check.due("its own registers", x.reg(2, 1), 0);
        Check.due("counter", x.info(2, 2), 0);
        Check.due("hint at its first place", x.find(2, 2), 0);
        Check.due("hint elsewhere", x.find(1, 2), 1);
        Check.steps(x, 2, 31, 32);
        Check.due("code of the program 3", x.info(2, 4), 0);
    }

    private static void forksBeforeItGoesToTheEnd() {
        ClusterImage x = new ClusterImage();
        Check.load(x, new int[][] {{0, Op.SELF, 1, 0}, {0, Op.SELF, 2, 0}, {0, Op.FORK, 0, 1}, {1, Op.YIELD, 0, 0}});
        x.spawn(0, 0);
        Check.steps(x, 0, 0, 0, 0);
        Check.line(x, 0, 1, 0);
    }

    private static void forksNoNinth() {
        ClusterImage x = new ClusterImage();
        Check.load(x, new int[][] {{0, Op.SET, 0, 5}, {0, Op.FORK, 0, 1}, {0, Op.SET, 1, 1}, {0, Op.JUMP, 1, 1}});
        x.spawn(0, 0);
        for (int i = 1; i < 7; i++) {
            x.spawn(1, 1);
        }
        Check.steps(x, 0, 0, 0);
        Check.due("the eighth", x.reg(0, 0), 7);
        Check.steps(x, 0, 0, 37, 0, 0);
        Check.due("the ninth", x.reg(0, 0), -1);
        Check.due("count(0)", x.count(0), 8);
        Check.due("counter", x.info(0, 2), 2);
    }

    private static void waitsForAnEnd() {
        ClusterImage x = new ClusterImage();
        Check.load(x, new int[][] {
            {0, Op.SET, 1, 1}, {0, Op.WAIT, 1, 0}, {0, Op.EXIT, 1, 0}, {1, Op.SET, 0, 42}, {1, Op.EXIT, 0, 0}});
        x.spawn(0, 0);
        x.spawn(1, 1);
        Check.steps(x, 0, 0, 20, ClusterImage.IDLE);
        Check.due("state", x.info(0, 0), 3);
        Check.due("counter stays", x.info(0, 2), 1);
        Check.due("slice stays", x.info(0, 3), 1);
        Check.due("register stays", x.reg(0, 1), 1);
        Check.due("page", x.info(0, 5), 8);
        Check.due("count(5)", x.count(5), 1);
        Check.due("migrate(0, 2)", x.migrate(0, 2), 0);
        Check.line(x, 2);
        Check.due("slice stays", x.info(0, 3), 1);
        Check.steps(x, 1, 1, 31);
        Check.line(x, 2, 0);
        Check.due("slice", x.info(0, 3), 0);
        Check.steps(x, 2, 0);
        Check.due("the code", x.reg(0, 1), 42);
        Check.due("counter", x.info(0, 2), 2);
        Check.steps(x, 2, 30);
        Check.due("code", x.info(0, 4), 42);
    }

    private static void waitsForNobody() {
        int[][] cases = {{0, -1}, {2, -1}, {8, -1}, {-1, -1}, {1000, -1}, {-1000, -1}, {1, 0}};
        for (int[] one : cases) {
            ClusterImage x = new ClusterImage();
            Check.load(x, new int[][] {{0, Op.SET, 3, one[0]}, {0, Op.WAIT, 3, 0}});
            x.spawn(0, 0);
            x.spawn(1, 1);
            Check.steps(x, 1, 31);
            Check.steps(x, 0, 0, 0);
            Check.due("WAIT for " + one[0], x.reg(0, 3), one[1]);
            Check.due("counter", x.info(0, 2), 2);
            Check.due("slice", x.info(0, 3), 2);
        }
    }

    private static void wakesByRisingNumbers() {
        ClusterImage x = new ClusterImage();
        Check.load(x, new int[][] {{0, Op.SET, 0, 1}, {0, Op.WAIT, 0, 0}, {2, Op.SET, 0, 5}, {2, Op.WAIT, 0, 0}});
        x.spawn(0, 0);
        x.spawn(1, 1);
        x.spawn(0, 0);
        x.spawn(0, 0);
        x.spawn(2, 0);
        x.spawn(1, 0);
        x.migrate(0, 2);
        x.migrate(0, 0);
        Check.line(x, 0, 2, 3, 4, 5, 0);
        Check.steps(x, 0, 2, 22, 3, 23, 4, 24);
        x.migrate(5, 2);
        Check.steps(x, 0, 0, 20, ClusterImage.IDLE);
        Check.steps(x, 1, 31);
        Check.line(x, 0, 0, 2, 3);
        Check.due("4 waits for another", x.info(4, 0), 3);
    }

    private static void kills() {
        ClusterImage x = new ClusterImage();
        Check.load(x, new int[][] {
            {0, Op.SET, 1, 1}, {0, Op.KILL, 1, 0}, {1, Op.YIELD, 0, 0}, {2, Op.SET, 0, 1}, {2, Op.WAIT, 0, 0}});
        x.spawn(0, 0);
        x.spawn(1, 0);
        x.spawn(2, 0);
        x.migrate(2, 1);
        Check.steps(x, 1, 2, 22);
        x.migrate(2, 0);
        Check.line(x, 0, 0, 1);
        Check.steps(x, 0, 0, 0);
        Check.due("A", x.reg(0, 1), 0);
        Check.due("state", x.info(1, 0), 4);
        Check.due("code", x.info(1, 4), -9);
        Check.due("counter of the killed one", x.info(1, 2), 0);
        Check.line(x, 0, 0, 2);
        Check.steps(x, 0, 30, 2);
        Check.due("the killed one's code", x.reg(2, 0), -9);
    }

    private static void killsNobody() {
        int[] cases = {0, 2, 8, -1, 1000, 1};
        for (int number : cases) {
            ClusterImage x = new ClusterImage();
            Check.load(x, new int[][] {{0, Op.SET, 2, number}, {0, Op.KILL, 2, 0}});
            x.spawn(0, 0);
            x.spawn(1, 1);
            Check.steps(x, 1, 31);
            Check.steps(x, 0, 0, 0);
            Check.due("KILL " + number, x.reg(0, 2), -1);
            Check.due("the ended one keeps its code", x.info(1, 4), 0);
            Check.due("state", x.info(0, 0), 1);
        }
    }

    private static void killsAWaitingOneAndABlockedOne() {
        ClusterImage x = new ClusterImage();
        Check.load(x, new int[][] {
            {0, Op.SET, 0, 1}, {0, Op.SET, 1, 2}, {0, Op.KILL, 0, 0}, {0, Op.KILL, 1, 0},
            {1, Op.WAIT, 0, 0}, {2, Op.STORE, 0, 0}});
        x.spawn(0, 0);
        x.spawn(1, 1);
        x.spawn(2, 2);
        Check.steps(x, 1, 21);
        Check.steps(x, 2, 12);
        Check.steps(x, 0, 0, 0, 0, 0);
        Check.due("the waiting one", x.info(1, 4), -9);
        Check.due("the blocked one", x.info(2, 4), -9);
        Check.due("its page", x.info(2, 5), 8);
        Check.due("its request stays", x.count(4), 1);
        Check.steps(x, 0, 30);
        Check.due("an ended one wakes no more", x.info(1, 0), 4);
        Check.line(x, 1);
        Check.due("serve(0)", x.serve(0), ClusterImage.IDLE);
        Check.due("count(4)", x.count(4), 0);
        Check.rights(x, 0, 0, 0, 0, 3);
        Check.due("messages", x.count(1), 0);
        Check.due("grants", x.count(6), 0);
    }
}
