/** Promise 4: step. Each instruction, slices, faults, waits and ends. */
public final class StepTest {
    public static void main(String[] args) {
        refusesAndIdles();
        endsBehindTheLastInstruction();
        setsAndAdds();
        addsWithWrap();
        loadsAndStores();
        wrapsAddresses();
        comparesAndSwaps();
        swapsRegisterThree();
        jumps();
        jumpsBehindTheEnd();
        knowsItselfAndItsPlace();
        exitsWithACode();
        Check.end();
    }

    private static ClusterImage with(int[][] instructions) {
        ClusterImage x = new ClusterImage();
        Check.load(x, instructions);
        x.spawn(0, 0);
        return x;
    }

    private static void refusesAndIdles() {
        ClusterImage x = with(new int[][] {{0, Op.YIELD, 0, 0}});
        int[] far = {Integer.MIN_VALUE, -1, 3, Integer.MAX_VALUE};
        for (int node : far) {
            Check.due("step(" + node + ")", x.step(node), ClusterImage.REFUSED);
        }
        Check.steps(x, 1, ClusterImage.IDLE);
        Check.steps(x, 2, ClusterImage.IDLE);
        Check.steps(x, 0, 0, 30, ClusterImage.IDLE);
    }

    private static void endsBehindTheLastInstruction() {
        ClusterImage x = with(new int[][] {{0, Op.SET, 0, 5}});
        Check.steps(x, 0, 0, 30);
        Check.due("state", x.info(0, 0), 4);
        Check.due("counter", x.info(0, 2), 1);
        Check.due("code", x.info(0, 4), 0);
        Check.line(x, 0);
    }

    private static void setsAndAdds() {
        ClusterImage x = with(new int[][] {
            {0, Op.SET, 0, -1000}, {0, Op.SET, 3, 1000}, {0, Op.ADD, 3, 0}, {0, Op.ADD, 0, 0}, {0, Op.ADD, 1, 0}});
        Check.steps(x, 0, 0, 0, 0, 0, 0);
        Check.due("reg(0, 0)", x.reg(0, 0), -2000);
        Check.due("reg(0, 1)", x.reg(0, 1), -2000);
        Check.due("reg(0, 2)", x.reg(0, 2), 0);
        Check.due("reg(0, 3)", x.reg(0, 3), 0);
        Check.due("counter", x.info(0, 2), 5);
    }

    private static void addsWithWrap() {
        ClusterImage x = with(new int[][] {{0, Op.SET, 0, 1}, {0, Op.ADD, 0, 0}, {0, Op.JUMP, 0, 1}});
        int value = 1;
        Check.steps(x, 0, 0);
        for (int i = 0; i < 31; i++) {
            Check.steps(x, 0, 0, 0);
            value += value;
            Check.due("reg(0, 0) doubled", x.reg(0, 0), value);
        }
        Check.steps(x, 0, 0);
        Check.due("reg(0, 0) wrapped to 0", x.reg(0, 0), 0);
        Check.steps(x, 0, 0, 30);
    }

    private static void loadsAndStores() {
        ClusterImage x = with(new int[][] {
            {0, Op.SET, 0, 77}, {0, Op.SET, 1, 13}, {0, Op.LOAD, 2, 1}, {0, Op.STORE, 0, 1}, {0, Op.LOAD, 1, 1}});
        Check.steps(x, 0, 0, 0, 10);
        Check.due("state", x.info(0, 0), 2);
        Check.due("page", x.info(0, 5), 3);
        Check.due("counter", x.info(0, 2), 2);
        Check.due("slice stays", x.info(0, 3), 2);
        Check.line(x, 0);
        Check.steps(x, 0, ClusterImage.IDLE);
        Check.due("serve(3)", x.serve(3), 0);
        Check.due("slice at the end of the line", x.info(0, 3), 0);
        Check.rights(x, 3, 1, 0, 0, 0);
        Check.steps(x, 0, 0, 10);
        Check.due("READ is not enough to store", x.word(13), 0);
        Check.due("serve(3)", x.serve(3), 0);
        Check.rights(x, 3, 2, 0, 0, 0);
        Check.steps(x, 0, 0, 0);
        Check.due("word(13)", x.word(13), 77);
        Check.due("reg(0, 1)", x.reg(0, 1), 77);
        Check.due("faults", x.count(2), 2);
        Check.steps(x, 0, 30);
    }

    private static void wrapsAddresses() {
        int[][] cases = {{-1, 31}, {-32, 0}, {-33, 31}, {32, 0}, {31, 31}, {1000, 8}, {-1000, 24}, {64, 0}, {-31, 1}};
        for (int[] one : cases) {
            ClusterImage x = with(new int[][] {{0, Op.SET, 0, 7}, {0, Op.SET, 1, one[0]}, {0, Op.STORE, 0, 1}});
            Check.steps(x, 0, 0, 0, 10);
            Check.due("page of " + one[0], x.info(0, 5), one[1] / 4);
            Check.due("serve", x.serve(one[1] / 4), 0);
            Check.steps(x, 0, 0);
            Check.due("word of " + one[0], x.word(one[1]), 7);
        }
    }

    private static void comparesAndSwaps() {
        ClusterImage x = with(new int[][] {
            {0, Op.SET, 0, 9}, {0, Op.CAS, 0, 1}, {0, Op.SET, 0, 4}, {0, Op.CAS, 0, 1}, {0, Op.SET, 3, 9},
            {0, Op.CAS, 0, 1}, {0, Op.LOAD, 2, 1}});
        Check.steps(x, 0, 0, 10);
        Check.due("serve(0)", x.serve(0), 0);
        Check.rights(x, 0, 2, 0, 0, 0);
        Check.steps(x, 0, 0);
        Check.due("word(0) swapped", x.word(0), 9);
        Check.due("reg(0, 3)", x.reg(0, 3), 1);
        Check.steps(x, 0, 0, 0);
        Check.due("word(0) kept", x.word(0), 9);
        Check.due("reg(0, 3)", x.reg(0, 3), 0);
        Check.steps(x, 0, 0, 0);
        Check.due("word(0) swapped again", x.word(0), 4);
        Check.due("reg(0, 3)", x.reg(0, 3), 1);
        Check.due("reg(0, 0) kept", x.reg(0, 0), 4);
    }

    private static void swapsRegisterThree() {
        ClusterImage x = with(new int[][] {
            {0, Op.LOAD, 0, 0}, {0, Op.CAS, 3, 0}, {0, Op.SET, 3, 5}, {0, Op.CAS, 3, 0}});
        Check.steps(x, 0, 10);
        x.serve(0);
        Check.steps(x, 0, 0, 10);
        x.serve(0);
        Check.steps(x, 0, 0);
        Check.due("the word becomes register 3 as it was", x.word(0), 0);
        Check.due("reg(0, 3)", x.reg(0, 3), 1);
        Check.steps(x, 0, 0, 0);
        Check.due("word(0)", x.word(0), 0);
        Check.due("reg(0, 3)", x.reg(0, 3), 0);
    }

    private static void jumps() {
        ClusterImage x = with(new int[][] {
            {0, Op.JUMP, 0, 3}, {0, Op.SET, 0, -1}, {0, Op.JUMP, 0, 1}, {0, Op.YIELD, 0, 0}});
        Check.steps(x, 0, 0);
        Check.due("not taken", x.info(0, 2), 1);
        Check.steps(x, 0, 0, 0);
        Check.due("taken", x.info(0, 2), 1);
    }

    private static void jumpsBehindTheEnd() {
        ClusterImage x = with(new int[][] {{0, Op.SET, 0, 3}, {0, Op.JUMP, 0, 11}});
        Check.steps(x, 0, 0, 0);
        Check.due("counter", x.info(0, 2), 11);
        Check.steps(x, 0, 30);
        Check.due("code", x.info(0, 4), 0);
        Check.due("counter", x.info(0, 2), 11);
    }

    private static void knowsItselfAndItsPlace() {
        ClusterImage x = new ClusterImage();
        Check.load(x, new int[][] {{0, Op.SELF, 1, 0}, {0, Op.WHERE, 2, 0}, {0, Op.WHERE, 3, 0}});
        x.spawn(1, 0);
        x.spawn(1, 0);
        x.spawn(0, 1);
        Check.steps(x, 1, 2, 2);
        Check.due("SELF", x.reg(2, 1), 2);
        Check.due("WHERE", x.reg(2, 2), 1);
        x.migrate(2, 0);
        Check.steps(x, 0, 30, 31, 2);
        Check.due("WHERE", x.reg(2, 3), 0);
    }

    private static void exitsWithACode() {
        ClusterImage x = with(new int[][] {{0, Op.SET, 2, -77}, {0, Op.EXIT, 2, 0}, {0, Op.SET, 2, 1}});
        Check.steps(x, 0, 0, 30, ClusterImage.IDLE);
        Check.due("code", x.info(0, 4), -77);
        Check.due("reg(0, 2)", x.reg(0, 2), -77);
        Check.due("slice stays", x.info(0, 3), 1);
        Check.due("EXIT is done, so the counter is one more", x.info(0, 2), 2);
        Check.due("count(5)", x.count(5), 0);
    }
}
