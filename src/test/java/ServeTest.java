/** Promise 5: serve. */
public final class ServeTest {
    public static void main(String[] args) {
        refusesAndIdles();
        grantsInOrder();
        readDowngradesAWriter();
        writeTakesAllOthersRights();
        readOfANodeWithARight();
        writeOfANodeWithWrite();
        dropsRequestsOfEndedOnes();
        grantsAtThePlaceOfNow();
        givesUpTheOneUsedTheLongestAgo();
        aGrantIsAUse();
        passesOwnershipToTheLowest();
        ownerStaysWhenAnotherGivesUp();
        givesUpNothingForAHeldPage();
        lostRightsMakeRoom();
        Check.end();
    }

    private static void refusesAndIdles() {
        ClusterImage x = new ClusterImage();
        int[] far = {Integer.MIN_VALUE, -1, 8, Integer.MAX_VALUE};
        for (int page : far) {
            Check.due("serve(" + page + ")", x.serve(page), ClusterImage.REFUSED);
        }
        Check.due("serve(0)", x.serve(0), ClusterImage.IDLE);
        Check.due("serve(7)", x.serve(7), ClusterImage.IDLE);
    }

    /** Program 0 loads and program 1 stores at the address 0; program 2 loads from the pages 1, 2, 3, 4. */
    private static ClusterImage pages() {
        ClusterImage x = new ClusterImage();
        Check.load(x, new int[][] {
            {0, Op.LOAD, 1, 0}, {0, Op.YIELD, 0, 0}, {0, Op.SET, 2, 1}, {0, Op.JUMP, 2, 0},
            {1, Op.STORE, 1, 0}, {1, Op.YIELD, 0, 0}, {1, Op.SET, 2, 1}, {1, Op.JUMP, 2, 0},
            {2, Op.SET, 0, 4}, {2, Op.LOAD, 1, 0}, {2, Op.SET, 0, 8}, {2, Op.LOAD, 1, 0},
            {2, Op.SET, 0, 12}, {2, Op.LOAD, 1, 0}, {2, Op.SET, 0, 16}, {2, Op.LOAD, 1, 0}});
        return x;
    }

    private static void spawnAndFault(ClusterImage x, int program, int node) {
        int p = x.spawn(program, node);
        Check.due("fault of " + p, x.step(node), 10 + p);
    }

    private static void counts(ClusterImage x, int messages, int givenUp, int grants) {
        Check.due("messages", x.count(1), messages);
        Check.due("given up", x.count(3), givenUp);
        Check.due("grants", x.count(6), grants);
    }

    private static void grantsInOrder() {
        ClusterImage x = pages();
        spawnAndFault(x, 0, 2);
        spawnAndFault(x, 0, 0);
        spawnAndFault(x, 0, 1);
        Check.due("count(4)", x.count(4), 3);
        Check.due("serve(1)", x.serve(1), ClusterImage.IDLE);
        Check.due("serve(0)", x.serve(0), 0);
        Check.rights(x, 0, 0, 0, 1, 2);
        Check.due("count(4)", x.count(4), 2);
        Check.due("state", x.info(0, 0), 1);
        Check.due("page", x.info(0, 5), 8);
        Check.line(x, 2, 0);
        Check.due("serve(0)", x.serve(0), 1);
        Check.rights(x, 0, 1, 0, 1, 2);
        Check.due("serve(0)", x.serve(0), 2);
        Check.rights(x, 0, 1, 1, 1, 2);
        Check.due("serve(0)", x.serve(0), ClusterImage.IDLE);
        counts(x, 6, 0, 3);
    }

    private static void readDowngradesAWriter() {
        ClusterImage x = pages();
        spawnAndFault(x, 1, 1);
        x.serve(0);
        Check.rights(x, 0, 0, 2, 0, 1);
        counts(x, 2, 0, 1);
        spawnAndFault(x, 0, 0);
        x.serve(0);
        Check.rights(x, 0, 1, 1, 0, 1);
        counts(x, 4, 0, 2);
        Check.steps(x, 1, 10);
        for (int writer = 0; writer < 3; writer += 2) {
            x = pages();
            spawnAndFault(x, 1, writer);
            spawnAndFault(x, 0, 2 - writer);
            x.serve(0);
            x.serve(0);
            Check.rights(x, 0, 1, 0, 1, writer);
        }
    }

    private static void writeTakesAllOthersRights() {
        ClusterImage x = pages();
        spawnAndFault(x, 0, 0);
        spawnAndFault(x, 0, 1);
        x.serve(0);
        x.serve(0);
        counts(x, 4, 0, 2);
        spawnAndFault(x, 1, 2);
        x.serve(0);
        Check.rights(x, 0, 0, 0, 2, 2);
        counts(x, 8, 0, 3);
        Check.steps(x, 1, 11);
        spawnAndFault(x, 1, 1);
        Check.due("serve(0)", x.serve(0), 1);
        Check.rights(x, 0, 0, 1, 1, 2);
        counts(x, 10, 0, 4);
        Check.due("serve(0)", x.serve(0), 3);
        Check.rights(x, 0, 0, 2, 0, 1);
        counts(x, 12, 0, 5);
    }

    private static void readOfANodeWithARight() {
        ClusterImage x = pages();
        spawnAndFault(x, 1, 0);
        spawnAndFault(x, 0, 0);
        Check.due("serve(0)", x.serve(0), 0);
        Check.due("serve(0)", x.serve(0), 1);
        Check.rights(x, 0, 2, 0, 0, 0);
        counts(x, 3, 0, 2);
        Check.line(x, 0, 0, 1);
    }

    private static void writeOfANodeWithWrite() {
        ClusterImage x = pages();
        spawnAndFault(x, 1, 2);
        spawnAndFault(x, 1, 2);
        Check.due("serve(0)", x.serve(0), 0);
        Check.due("serve(0)", x.serve(0), 1);
        Check.rights(x, 0, 0, 0, 2, 2);
        counts(x, 3, 0, 2);
    }

    private static void dropsRequestsOfEndedOnes() {
        ClusterImage x = pages();
        Check.load(x, new int[][] {{3, Op.SET, 1, 1}, {3, Op.KILL, 1, 0}, {3, Op.KILL, 0, 0}});
        spawnAndFault(x, 0, 0);
        spawnAndFault(x, 0, 1);
        spawnAndFault(x, 0, 2);
        int killer = x.spawn(3, 2);
        Check.steps(x, 2, killer, killer, killer);
        Check.due("count(4)", x.count(4), 3);
        Check.due("serve(0)", x.serve(0), 2);
        Check.due("count(4)", x.count(4), 0);
        Check.rights(x, 0, 0, 0, 1, 2);
        counts(x, 2, 0, 1);
    }

    private static void grantsAtThePlaceOfNow() {
        ClusterImage x = pages();
        spawnAndFault(x, 1, 0);
        Check.due("migrate(0, 2)", x.migrate(0, 2), 0);
        Check.due("page", x.info(0, 5), 0);
        Check.due("serve(0)", x.serve(0), 0);
        Check.rights(x, 0, 0, 0, 2, 2);
        Check.line(x, 0);
        Check.line(x, 2, 0);
        Check.steps(x, 2, 0);
    }

    private static void givesUpTheOneUsedTheLongestAgo() {
        ClusterImage x = new ClusterImage();
        int[] addresses = {0, 4, 8, 0, 28, 5};
        for (int address : addresses) {
            Check.load(x, new int[][] {{0, Op.SET, 0, address}, {0, Op.LOAD, 1, 0}});
        }
        x.spawn(0, 1);
        Check.runNode(x, 1, 11);
        Check.due("counter", x.info(0, 2), 8);
        counts(x, 6, 0, 3);
        Check.steps(x, 1, 0, 10);
        Check.due("serve(7)", x.serve(7), 0);
        Check.rights(x, 0, 0, 1, 0, 1);
        Check.rights(x, 1, 0, 0, 0, 3);
        Check.rights(x, 2, 0, 1, 0, 1);
        Check.rights(x, 7, 0, 1, 0, 1);
        counts(x, 9, 1, 4);
        Check.steps(x, 1, 0, 0, 10);
        Check.due("serve(1)", x.serve(1), 0);
        Check.rights(x, 2, 0, 0, 0, 3);
        Check.rights(x, 0, 0, 1, 0, 1);
        counts(x, 12, 2, 5);
    }

    private static void aGrantIsAUse() {
        ClusterImage x = pages();
        Check.load(x, new int[][] {{3, Op.SET, 0, 4}, {3, Op.STORE, 1, 0}});
        x.spawn(2, 0);
        Check.runNode(x, 0, 9);
        Check.due("counter", x.info(0, 2), 6);
        x.spawn(3, 0);
        Check.steps(x, 0, 0, 10, 1, 11);
        Check.due("serve(1)", x.serve(1), 1);
        Check.due("serve(4)", x.serve(4), 0);
        Check.rights(x, 1, 2, 0, 0, 0);
        Check.rights(x, 2, 0, 0, 0, 3);
        Check.rights(x, 3, 1, 0, 0, 0);
        Check.rights(x, 4, 1, 0, 0, 0);
        counts(x, 10, 1, 5);
    }

    private static void passesOwnershipToTheLowest() {
        ClusterImage x = pages();
        spawnAndFault(x, 0, 1);
        spawnAndFault(x, 0, 2);
        spawnAndFault(x, 0, 0);
        x.serve(0);
        x.serve(0);
        x.serve(0);
        Check.rights(x, 0, 1, 1, 1, 1);
        x.migrate(0, 2);
        x.spawn(2, 1);
        Check.runNode(x, 1, 8);
        Check.rights(x, 0, 1, 0, 1, 0);
        counts(x, 12, 1, 6);
        x.migrate(2, 2);
        x.migrate(3, 0);
        Check.due("its counter", x.info(3, 2), 5);
        x.spawn(2, 0);
        Check.runNode(x, 0, 14);
        Check.rights(x, 0, 0, 0, 1, 2);
    }

    private static void ownerStaysWhenAnotherGivesUp() {
        ClusterImage x = pages();
        spawnAndFault(x, 0, 2);
        spawnAndFault(x, 0, 0);
        x.serve(0);
        x.serve(0);
        x.migrate(1, 1);
        x.spawn(2, 0);
        Check.runNode(x, 0, 8);
        Check.rights(x, 0, 0, 0, 1, 2);
        counts(x, 10, 1, 5);
    }

    private static void givesUpNothingForAHeldPage() {
        ClusterImage x = pages();
        spawnAndFault(x, 0, 0);
        x.serve(0);
        Check.due("migrate(0, 1)", x.migrate(0, 1), 0);
        x.spawn(2, 0);
        Check.runNode(x, 0, 5);
        Check.due("right(0, 2)", x.right(0, 2), 1);
        spawnAndFaultBehind(x);
        Check.rights(x, 0, 2, 0, 0, 0);
        Check.rights(x, 1, 1, 0, 0, 0);
        Check.rights(x, 2, 1, 0, 0, 0);
        counts(x, 7, 0, 4);
    }

    private static void spawnAndFaultBehind(ClusterImage x) {
        int p = x.spawn(1, 2);
        Check.steps(x, 2, 10 + p);
        x.migrate(p, 0);
        Check.due("serve(0)", x.serve(0), p);
    }

    private static void lostRightsMakeRoom() {
        ClusterImage x = pages();
        spawnAndFault(x, 0, 0);
        x.serve(0);
        x.migrate(0, 2);
        x.spawn(2, 0);
        Check.runNode(x, 0, 5);
        spawnAndFault(x, 1, 1);
        x.serve(0);
        Check.rights(x, 0, 0, 2, 0, 1);
        Check.runNode(x, 0, 3);
        Check.rights(x, 1, 1, 0, 0, 0);
        Check.rights(x, 2, 1, 0, 0, 0);
        Check.rights(x, 3, 1, 0, 0, 0);
        counts(x, 11, 0, 5);
    }
}
