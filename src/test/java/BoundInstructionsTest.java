/** The boundary cases of the thirteen instructions and of a step, sentence by sentence. */
public final class BoundInstructionsTest {
    /** Brings register 0 to the lowest int by doubling; the instruction 6 is the first one behind it. */
    private static final int[][] LOWEST = {
        {0, Op.SET, 0, 1}, {0, Op.SET, 1, -31}, {0, Op.SET, 2, 1},
        {0, Op.ADD, 0, 0}, {0, Op.ADD, 1, 2}, {0, Op.JUMP, 1, 3}};
    private static final int LOWEST_STEPS = 3 + 31 * 3;

    public static void main(String[] args) {
        addressOfB();
        addressOfTheLowest();
        addressOfTheHighest();
        setTakesItsEdges();
        addOfOneRegister();
        loadIntoItsOwnAddress();
        storeOfItsOwnAddress();
        casWhenItIs();
        casWhenItIsNot();
        casOfRegisterThree();
        casAtTheAddressOfRegisterThree();
        jumpIfNotZero();
        jumpToTheEdges();
        forkUntilEightWereMade();
        forkWhenTheEighthHasEnded();
        waitForNoSuchProcess();
        waitForItself();
        waitForAnEndedOne();
        waitStays();
        waitForEachOther();
        killNoSuchProcess();
        killItself();
        killAnEndedOne();
        killAnyOther();
        exitWithAnyCode();
        selfAndWhereAtTheirEdges();
        yieldWithASliceOfTwo();
        counterIsOneMore();
        endsBehindTheProgram();
        wakesAllByRisingNumbers();
        wakesNobodyElse();
        sliceOfThree();
        theRunningOneGoesBehindThoseItWoke();
        stepOfAnEmptyLine();
        Check.end();
    }

    private static ClusterImage lowestAnd(int[]... more) {
        ClusterImage x = Check.with(LOWEST);
        Check.load(x, more);
        x.spawn(0, 0);
        Check.ready(x, 0, 0, LOWEST_STEPS);
        Check.due("the lowest int", x.reg(0, 0), Integer.MIN_VALUE);
        return x;
    }

    private static void addressOfB() {
        Check.sentence("the address of B is the remainder 0 .. 31 of B by 32");
        int[][] cases = {{0, 0}, {31, 31}, {32, 0}, {33, 1}, {63, 31}, {64, 0}, {1000, 8}, {999, 7},
            {-1, 31}, {-31, 1}, {-32, 0}, {-33, 31}, {-64, 0}, {-65, 31}, {-1000, 24}, {-999, 25}};
        for (int[] one : cases) {
            for (int op = Op.LOAD; op <= Op.CAS; op++) {
                ClusterImage x = Check.with(new int[][] {{0, Op.SET, 0, 5}, {0, Op.SET, 1, one[0]}, {0, op, 0, 1}});
                x.spawn(0, 0);
                Check.ready(x, 0, 0, 2);
                Check.steps(x, 0, 10);
                Check.due("page of " + one[0] + " for op " + op, x.info(0, 5), one[1] / 4);
                Check.due("serve", x.serve(one[1] / 4), 0);
                Check.ready(x, 0, 0, 1);
                for (int w = 0; w < 32; w++) {
                    Check.due("word(" + w + ") behind op " + op, x.word(w), op != Op.LOAD && w == one[1] ? 5 : 0);
                }
                Check.due("register", x.reg(0, 0), op == Op.LOAD ? 0 : 5);
                Check.due("B stays", x.reg(0, 1), one[0]);
            }
        }
    }

    private static void addressOfTheLowest() {
        Check.sentence("the remainder 0 .. 31 of B by 32: the lowest int");
        ClusterImage x = lowestAnd(new int[] {0, Op.STORE, 0, 0});
        Check.faultAndServe(x, 0, 0, 0);
        Check.ready(x, 0, 0, 1);
        Check.due("word(0)", x.word(0), Integer.MIN_VALUE);
        Check.due("copy(0, 0)", x.copy(0, 0), Integer.MIN_VALUE);
    }

    private static void addressOfTheHighest() {
        Check.sentence("the remainder 0 .. 31 of B by 32: the highest int");
        ClusterImage x = lowestAnd(
            new int[] {0, Op.SET, 1, -1}, new int[] {0, Op.ADD, 0, 1}, new int[] {0, Op.STORE, 0, 0},
            new int[] {0, Op.LOAD, 3, 1});
        Check.ready(x, 0, 0, 2);
        Check.faultAndServe(x, 0, 0, 7);
        Check.ready(x, 0, 0, 2);
        Check.due("word(31)", x.word(31), Integer.MAX_VALUE);
        Check.due("-1 has the same address", x.reg(0, 3), Integer.MAX_VALUE);
    }

    private static void setTakesItsEdges() {
        Check.sentence("SET: A becomes b");
        int[] values = {-1000, -1, 0, 1, 4, 12, 1000};
        for (int value : values) {
            for (int a = 0; a < 4; a++) {
                ClusterImage x = Check.with(new int[][] {{0, Op.SET, a, 9}, {0, Op.SET, a, value}});
                x.spawn(0, 0);
                Check.ready(x, 0, 0, 2);
                for (int register = 0; register < 4; register++) {
                    Check.due("reg(0, " + register + ")", x.reg(0, register), register == a ? value : 0);
                }
            }
        }
    }

    private static void addOfOneRegister() {
        Check.sentence("ADD: A becomes A + B: a and b the same");
        ClusterImage x = Check.with(new int[][] {{0, Op.SET, 3, -1000}, {0, Op.ADD, 3, 3}, {0, Op.ADD, 0, 0}});
        x.spawn(0, 1);
        Check.ready(x, 1, 0, 3);
        Check.regs(x, 0, 0, 0, 0, -2000);
    }

    private static void loadIntoItsOwnAddress() {
        Check.sentence("LOAD: A becomes the word at the address of B: a and b the same");
        ClusterImage x = Check.with(new int[][] {
            {0, Op.SET, 0, 21}, {0, Op.SET, 1, 10}, {0, Op.STORE, 0, 1}, {0, Op.LOAD, 1, 1}, {0, Op.LOAD, 1, 0}});
        x.spawn(0, 0);
        Check.ready(x, 0, 0, 2);
        Check.faultAndServe(x, 0, 0, 2);
        Check.ready(x, 0, 0, 2);
        Check.regs(x, 0, 21, 21, 0, 0);
        Check.faultAndServe(x, 0, 0, 5);
        Check.ready(x, 0, 0, 1);
        Check.regs(x, 0, 21, 0, 0, 0);
    }

    private static void storeOfItsOwnAddress() {
        Check.sentence("STORE: that word becomes A: a and b the same");
        ClusterImage x = Check.with(new int[][] {{0, Op.SET, 2, -3}, {0, Op.STORE, 2, 2}});
        x.spawn(0, 0);
        Check.ready(x, 0, 0, 1);
        Check.faultAndServe(x, 0, 0, 7);
        Check.ready(x, 0, 0, 1);
        Check.due("word(29)", x.word(29), -3);
        Check.regs(x, 0, 0, 0, -3, 0);
    }

    private static void casWhenItIs() {
        Check.sentence("CAS: if that word is register 3, the word becomes A and then register 3 becomes 1");
        ClusterImage x = Check.with(new int[][] {
            {0, Op.SET, 0, 8}, {0, Op.CAS, 0, 1}, {0, Op.SET, 3, 8}, {0, Op.SET, 0, -8}, {0, Op.CAS, 0, 1}});
        x.spawn(0, 0);
        Check.ready(x, 0, 0, 1);
        Check.faultAndServe(x, 0, 0, 0);
        Check.ready(x, 0, 0, 1);
        Check.due("word(0)", x.word(0), 8);
        Check.regs(x, 0, 8, 0, 0, 1);
        Check.ready(x, 0, 0, 3);
        Check.due("word(0)", x.word(0), -8);
        Check.regs(x, 0, -8, 0, 0, 1);
    }

    private static void casWhenItIsNot() {
        Check.sentence("CAS: else register 3 becomes 0");
        int[] others = {1, -1, 1000, -1000};
        for (int other : others) {
            ClusterImage x = Check.with(new int[][] {{0, Op.SET, 0, 8}, {0, Op.SET, 3, other}, {0, Op.CAS, 0, 1}});
            x.spawn(0, 0);
            Check.ready(x, 0, 0, 2);
            Check.faultAndServe(x, 0, 0, 0);
            Check.ready(x, 0, 0, 1);
            Check.due("word(0)", x.word(0), 0);
            Check.regs(x, 0, 8, 0, 0, 0);
            Check.due("it needed WRITE all the same", x.right(0, 0), 2);
            Check.due("counter", x.info(0, 2), 3);
        }
    }

    private static void casOfRegisterThree() {
        Check.sentence("the word becomes A and then register 3 becomes 1: A is register 3");
        ClusterImage x = Check.with(new int[][] {
            {0, Op.SET, 0, 6}, {0, Op.STORE, 0, 1}, {0, Op.SET, 3, 6}, {0, Op.CAS, 3, 1}, {0, Op.CAS, 3, 1}});
        x.spawn(0, 0);
        Check.ready(x, 0, 0, 1);
        Check.faultAndServe(x, 0, 0, 0);
        Check.ready(x, 0, 0, 3);
        Check.due("the word is what register 3 was before", x.word(0), 6);
        Check.due("reg(0, 3)", x.reg(0, 3), 1);
        Check.ready(x, 0, 0, 1);
        Check.due("word(0)", x.word(0), 6);
        Check.due("reg(0, 3)", x.reg(0, 3), 0);
    }

    private static void casAtTheAddressOfRegisterThree() {
        Check.sentence("CAS: B is register 3");
        ClusterImage x = Check.with(new int[][] {
            {0, Op.SET, 0, 5}, {0, Op.STORE, 0, 0}, {0, Op.SET, 3, 5}, {0, Op.SET, 1, 70}, {0, Op.CAS, 1, 3}});
        x.spawn(0, 0);
        Check.ready(x, 0, 0, 1);
        Check.faultAndServe(x, 0, 0, 1);
        Check.ready(x, 0, 0, 4);
        Check.due("word(5)", x.word(5), 70);
        Check.due("word(1)", x.word(1), 0);
        Check.due("reg(0, 3)", x.reg(0, 3), 1);
    }

    private static void jumpIfNotZero() {
        Check.sentence("JUMP: if A is not 0, the counter becomes b");
        int[] values = {-1000, -1, 0, 1, 1000};
        for (int value : values) {
            ClusterImage x = Check.with(new int[][] {{0, Op.SET, 1, value}, {0, Op.JUMP, 1, 7}});
            x.spawn(0, 0);
            Check.ready(x, 0, 0, 2);
            Check.due("counter when A is " + value, x.info(0, 2), value == 0 ? 2 : 7);
            Check.due("A stays", x.reg(0, 1), value);
        }
        ClusterImage x = lowestAnd(new int[] {0, Op.JUMP, 0, 11});
        Check.ready(x, 0, 0, 1);
        Check.due("counter when A is the lowest int", x.info(0, 2), 11);
    }

    private static void jumpToTheEdges() {
        Check.sentence("but for a JUMP that is taken: to 0, to 11, to itself");
        int[] targets = {0, 1, 2, 11};
        for (int target : targets) {
            ClusterImage x = Check.with(new int[][] {{0, Op.SET, 0, 1}, {0, Op.JUMP, 0, target}});
            x.spawn(0, 0);
            Check.ready(x, 0, 0, 2);
            Check.infos(x, 0, 1, 0, target, 2, 0, 8);
            if (target < 2) {
                Check.ready(x, 0, 0, 1);
                Check.infos(x, 0, 1, 0, 1, 0, 0, 8);
            } else {
                Check.steps(x, 0, 30);
                Check.infos(x, 0, 4, 0, target, 2, 0, 8);
            }
        }
    }

    private static void forkUntilEightWereMade() {
        Check.sentence("FORK: A becomes its number, or -1 if 8 were made");
        ClusterImage x = Check.with(new int[][] {{0, Op.FORK, 0, 1}, {0, Op.SET, 1, 1}, {0, Op.JUMP, 1, 0}});
        x.spawn(0, 0);
        x.migrate(0, 1);
        for (int i = 1; i < 8; i++) {
            Check.steps(x, 1, 0);
            Check.due("the forked one", x.reg(0, 0), i);
            Check.due("its place", x.info(i, 1), 1);
            Check.steps(x, 1, 0, 0);
            Check.steps(x, 1, 30 + i);
        }
        for (int i = 0; i < 2; i++) {
            Check.steps(x, 1, 0);
            Check.due("none was forked", x.reg(0, 0), -1);
            Check.infos(x, 0, 1, 1, 1, 1, 0, 8);
            Check.line(x, 1, 0);
            Check.counts(x, 8, 0, 0, 0, 0, 1, 0);
            Check.steps(x, 1, 0, 0);
        }
    }

    private static void forkWhenTheEighthHasEnded() {
        Check.sentence("-1 if 8 were made: an end gives no number back");
        ClusterImage x = Check.with(new int[][] {{0, Op.FORK, 2, 0}});
        for (int i = 0; i < 8; i++) {
            x.spawn(i == 0 ? 0 : 1, i == 0 ? 0 : 2);
        }
        Check.steps(x, 2, 31, 32, 33, 34, 35, 36, 37);
        Check.steps(x, 0, 0);
        Check.due("A", x.reg(0, 2), -1);
        Check.due("spawn", x.spawn(0, 0), ClusterImage.FULL);
        Check.counts(x, 8);
    }

    /** Process 0 does the instruction on a register that holds the number; 1 is ready, 2 has ended with the code 17. */
    private static ClusterImage named(int op, int number) {
        ClusterImage x = Check.with(new int[][] {
            {0, Op.SET, 2, number}, {0, op, 2, 0}, {0, Op.YIELD, 0, 0},
            {1, Op.YIELD, 0, 0}, {2, Op.SET, 1, 17}, {2, Op.EXIT, 1, 0}});
        x.spawn(0, 0);
        x.spawn(1, 1);
        x.spawn(2, 2);
        Check.steps(x, 2, 2, 32);
        Check.steps(x, 0, 0);
        return x;
    }

    private static void namesNobody(int op, int number) {
        ClusterImage x = named(op, number);
        Check.steps(x, 0, 0);
        Check.due("A for " + number, x.reg(0, 2), -1);
        Check.infos(x, 0, 1, 0, 2, 2, 0, 8);
        Check.infos(x, 1, 1, 1, 0, 0, 0, 8);
        Check.infos(x, 2, 4, 2, 2, 1, 17, 8);
        Check.counts(x, 3, 0, 0, 0, 0, 2, 0);
    }

    private static void waitForNoSuchProcess() {
        Check.sentence("WAIT for the process A: no such process is made: A becomes -1");
        int[] numbers = {3, 7, 8, 9, 1000, -1, -2, -1000};
        for (int number : numbers) {
            namesNobody(Op.WAIT, number);
        }
        ClusterImage x = lowestAnd(new int[] {0, Op.WAIT, 0, 0});
        Check.ready(x, 0, 0, 1);
        Check.due("A", x.reg(0, 0), -1);
    }

    private static void waitForItself() {
        Check.sentence("WAIT: or it is this one: A becomes -1");
        namesNobody(Op.WAIT, 0);
        ClusterImage x = Check.with(new int[][] {{0, Op.SELF, 3, 0}, {0, Op.WAIT, 3, 0}});
        for (int i = 0; i < 8; i++) {
            x.spawn(i == 7 ? 0 : 1, i == 7 ? 2 : 1);
        }
        Check.steps(x, 2, 7, 7);
        Check.due("A of the last one", x.reg(7, 3), -1);
    }

    private static void waitForAnEndedOne() {
        Check.sentence("WAIT: it has ENDED: A becomes its code");
        ClusterImage x = named(Op.WAIT, 2);
        Check.steps(x, 0, 0);
        Check.due("A", x.reg(0, 2), 17);
        Check.infos(x, 0, 1, 0, 2, 2, 0, 8);
        x = Check.with(new int[][] {{0, Op.SET, 0, 1}, {0, Op.KILL, 0, 0}, {0, Op.SET, 0, 1}, {0, Op.WAIT, 0, 0}});
        x.spawn(0, 0);
        x.spawn(1, 1);
        Check.ready(x, 0, 0, 4);
        Check.due("the code of a killed one", x.reg(0, 0), -9);
    }

    private static void waitStays() {
        Check.sentence("WAIT: else this one becomes WAITING and its counter stays");
        ClusterImage x = named(Op.WAIT, 1);
        Check.steps(x, 0, 20, ClusterImage.IDLE);
        Check.infos(x, 0, 3, 0, 1, 1, 0, 8);
        Check.due("A stays", x.reg(0, 2), 1);
        Check.line(x, 0);
        Check.counts(x, 3, 0, 0, 0, 0, 1, 0);
        Check.steps(x, 1, 1);
        Check.due("a step of the other one wakes nobody", x.info(0, 0), 3);
        Check.steps(x, 1, 31);
        Check.infos(x, 0, 1, 0, 1, 0, 0, 8);
        Check.steps(x, 0, 0);
        Check.due("A is the code then", x.reg(0, 2), 0);
        Check.infos(x, 0, 1, 0, 2, 1, 0, 8);
    }

    private static void waitForEachOther() {
        Check.sentence("WAITING 3 (for a process): two for each other");
        ClusterImage x = Check.with(new int[][] {
            {0, Op.SET, 0, 1}, {0, Op.WAIT, 0, 0}, {1, Op.WAIT, 0, 0}, {2, Op.KILL, 0, 0}});
        x.spawn(0, 0);
        x.spawn(1, 0);
        Check.steps(x, 0, 0, 20, 21, ClusterImage.IDLE);
        Check.counts(x, 2, 0, 0, 0, 0, 0, 0);
        x.spawn(2, 2);
        Check.steps(x, 2, 2);
        Check.infos(x, 0, 4, 0, 1, 1, -9, 8);
        Check.line(x, 0, 1);
        Check.steps(x, 0, 1);
        Check.due("A", x.reg(1, 0), -9);
    }

    private static void killNoSuchProcess() {
        Check.sentence("KILL the process A: no such one: A becomes -1");
        int[] numbers = {3, 7, 8, 9, 1000, -1, -2, -1000};
        for (int number : numbers) {
            namesNobody(Op.KILL, number);
        }
        ClusterImage x = lowestAnd(new int[] {0, Op.KILL, 0, 0});
        Check.ready(x, 0, 0, 1);
        Check.due("A", x.reg(0, 0), -1);
    }

    private static void killItself() {
        Check.sentence("KILL: this one: A becomes -1");
        namesNobody(Op.KILL, 0);
    }

    private static void killAnEndedOne() {
        Check.sentence("KILL: or an ENDED one: A becomes -1");
        namesNobody(Op.KILL, 2);
        ClusterImage x = Check.with(new int[][] {
            {0, Op.SET, 0, 1}, {0, Op.KILL, 0, 0}, {0, Op.SET, 0, 1}, {0, Op.KILL, 0, 0}});
        x.spawn(0, 0);
        x.spawn(1, 0);
        Check.steps(x, 0, 0, 0);
        Check.due("A the first time", x.reg(0, 0), 0);
        Check.steps(x, 0, 0, 0);
        Check.due("A the second time", x.reg(0, 0), -1);
    }

    private static void killAnyOther() {
        Check.sentence("KILL: else that one ENDS with the code -9, and A becomes 0");
        ClusterImage x = Check.with(new int[][] {
            {0, Op.SET, 0, 1}, {0, Op.KILL, 0, 0}, {0, Op.SET, 0, 2}, {0, Op.KILL, 0, 0}, {0, Op.SET, 0, 3},
            {0, Op.KILL, 0, 0}, {0, Op.SET, 0, 7}, {0, Op.KILL, 0, 0},
            {1, Op.LOAD, 0, 0}, {2, Op.WAIT, 0, 0}, {3, Op.SET, 2, 1}});
        x.spawn(0, 0);
        x.spawn(3, 0);
        x.spawn(1, 1);
        x.spawn(2, 1);
        for (int i = 4; i < 8; i++) {
            x.spawn(3, 2);
        }
        Check.steps(x, 1, 12, 23);
        Check.steps(x, 2, 4, 34, 5);
        Check.steps(x, 0, 0, 0);
        Check.infos(x, 1, 4, 0, 0, 0, -9, 8);
        Check.line(x, 0, 0);
        Check.steps(x, 0, 0, 0, 0, 0, 0, 0);
        Check.infos(x, 2, 4, 1, 0, 0, -9, 8);
        Check.infos(x, 3, 4, 1, 0, 0, -9, 8);
        Check.infos(x, 7, 4, 2, 0, 0, -9, 8);
        Check.due("A", x.reg(0, 0), 0);
        Check.line(x, 1);
        Check.line(x, 2, 5, 6);
        Check.counts(x, 8, 0, 1, 0, 1, 3, 0);
    }

    private static void exitWithAnyCode() {
        Check.sentence("EXIT: this one ENDS with the code A");
        int[] codes = {-1000, -9, -1, 0, 1, 1000};
        for (int code : codes) {
            ClusterImage x = Check.with(new int[][] {{0, Op.SET, 1, code}, {0, Op.EXIT, 1, 0}, {0, Op.SET, 1, 5}});
            x.spawn(0, 0);
            Check.steps(x, 0, 0, 30, ClusterImage.IDLE);
            Check.infos(x, 0, 4, 0, 2, 1, code, 8);
            Check.due("A stays", x.reg(0, 1), code);
        }
        ClusterImage x = lowestAnd(new int[] {0, Op.EXIT, 0, 0});
        Check.steps(x, 0, 30);
        Check.due("the lowest code", x.info(0, 4), Integer.MIN_VALUE);
    }

    private static void selfAndWhereAtTheirEdges() {
        Check.sentence("SELF: A becomes its number. WHERE: A becomes its place");
        ClusterImage x = Check.with(new int[][] {
            {0, Op.SET, 0, 9}, {0, Op.SET, 1, 9}, {0, Op.SELF, 0, 3}, {0, Op.WHERE, 1, 3}});
        for (int i = 0; i < 8; i++) {
            x.spawn(0, 0);
        }
        x.migrate(7, 2);
        Check.ready(x, 2, 7, 4);
        Check.regs(x, 7, 7, 2, 0, 0);
        Check.steps(x, 0, 0, 0, 0);
        Check.due("SELF of the first", x.reg(0, 0), 0);
        x.migrate(0, 1);
        x.migrate(0, 0);
        for (int i = 1; i < 7; i++) {
            x.migrate(i, 1);
        }
        Check.ready(x, 0, 0, 1);
        Check.regs(x, 0, 0, 0, 0, 0);
    }

    private static void yieldWithASliceOfTwo() {
        Check.sentence("if the instruction was YIELD or the slice is then 3, it goes to the end: both at once");
        ClusterImage x = Check.with(new int[][] {
            {0, Op.SET, 0, 1}, {0, Op.SET, 0, 2}, {0, Op.YIELD, 0, 0}, {0, Op.SET, 0, 3}});
        x.spawn(0, 0);
        x.spawn(0, 0);
        x.spawn(0, 0);
        Check.steps(x, 0, 0, 0, 0);
        Check.line(x, 0, 1, 2, 0);
        Check.infos(x, 0, 1, 0, 3, 0, 0, 8);
        Check.sentence("YIELD: as the first instruction of a slice");
        x = Check.with(new int[][] {{0, Op.YIELD, 3, 3}, {0, Op.YIELD, 0, 0}});
        x.spawn(0, 0);
        x.spawn(0, 0);
        Check.steps(x, 0, 0, 1, 0, 1);
        Check.line(x, 0, 0, 1);
        Check.infos(x, 0, 1, 0, 2, 0, 0, 8);
        Check.regs(x, 0, 0, 0, 0, 0);
    }

    private static void counterIsOneMore() {
        Check.sentence("When an instruction is done, the counter is one more");
        for (int op = 0; op <= 12; op++) {
            ClusterImage x = Check.with(new int[][] {{0, op, 0, 0}, {0, Op.YIELD, 0, 0}});
            x.spawn(0, 0);
            if (op >= Op.LOAD && op <= Op.CAS) {
                Check.faultAndServe(x, 0, 0, 0);
            }
            Check.steps(x, 0, op == Op.EXIT ? 30 : 0);
            Check.due("counter behind op " + op, x.info(0, 2), 1);
        }
    }

    private static void endsBehindTheProgram() {
        Check.sentence("if its counter is not less than the number of instructions, it ENDS with the code 0");
        ClusterImage x = Check.with(new int[][] {
            {0, Op.SET, 0, 55}, {0, Op.JUMP, 0, 2}, {1, Op.SET, 0, 55}, {1, Op.JUMP, 0, 11}});
        x.spawn(0, 0);
        x.spawn(1, 1);
        Check.steps(x, 0, 0, 0, 30);
        Check.infos(x, 0, 4, 0, 2, 2, 0, 8);
        Check.steps(x, 1, 1, 1, 31);
        Check.infos(x, 1, 4, 1, 11, 2, 0, 8);
        Check.regs(x, 1, 55, 0, 0, 0);
    }

    private static void wakesAllByRisingNumbers() {
        Check.sentence("each process that is WAITING for it becomes ready, by rising numbers: seven of them");
        ClusterImage x = Check.with(new int[][] {{0, Op.SET, 0, 3}, {0, Op.WAIT, 0, 0}});
        for (int i = 0; i < 8; i++) {
            x.spawn(i == 3 ? 1 : 0, i == 3 ? 1 : 0);
        }
        for (int i = 0; i < 8; i += 2) {
            x.migrate(i, 2);
            x.migrate(i, 0);
        }
        Check.line(x, 0, 1, 5, 7, 0, 2, 4, 6);
        int[] order = {1, 5, 7, 0, 2, 4, 6};
        for (int p : order) {
            Check.steps(x, 0, p, 20 + p);
        }
        x.migrate(5, 2);
        x.migrate(0, 2);
        Check.counts(x, 8, 0, 0, 0, 0, 1, 0);
        Check.steps(x, 1, 33);
        Check.line(x, 0, 1, 2, 4, 6, 7);
        Check.line(x, 2, 0, 5);
        Check.counts(x, 8, 0, 0, 0, 0, 7, 0);
    }

    private static void wakesNobodyElse() {
        Check.sentence("each process that is WAITING for it: none");
        ClusterImage x = Check.with(new int[][] {
            {0, Op.SET, 0, 1}, {0, Op.WAIT, 0, 0}, {1, Op.LOAD, 0, 0}, {2, Op.EXIT, 0, 0}});
        x.spawn(0, 0);
        x.spawn(1, 1);
        x.spawn(2, 2);
        Check.steps(x, 0, 0, 20);
        Check.steps(x, 1, 11);
        Check.steps(x, 2, 32);
        Check.infos(x, 0, 3, 0, 1, 1, 0, 8);
        Check.infos(x, 1, 2, 1, 0, 0, 0, 0);
        Check.counts(x, 3, 0, 1, 0, 1, 0, 0);
    }

    private static void sliceOfThree() {
        Check.sentence("if the slice is then 3, it goes from its place in the line to the end");
        ClusterImage x = new ClusterImage();
        for (int i = 0; i < 12; i++) {
            x.instr(0, Op.ADD, 0, 0);
        }
        for (int i = 0; i < 3; i++) {
            x.spawn(0, 0);
        }
        Check.steps(x, 0, 0, 0);
        Check.line(x, 0, 0, 1, 2);
        Check.due("slice", x.info(0, 3), 2);
        Check.steps(x, 0, 0);
        Check.line(x, 0, 1, 2, 0);
        Check.due("slice", x.info(0, 3), 0);
        Check.steps(x, 0, 1, 1, 1, 2, 2, 2, 0, 0, 0, 1);
        Check.line(x, 0, 1, 2, 0);
    }

    private static void theRunningOneGoesBehindThoseItWoke() {
        Check.sentence("Behind that, if the process is still ready: it goes to the end");
        ClusterImage x = Check.with(new int[][] {
            {0, Op.SET, 0, 2}, {0, Op.SET, 1, 1}, {0, Op.KILL, 0, 0}, {1, Op.SET, 0, 2}, {1, Op.WAIT, 0, 0}});
        x.spawn(1, 0);
        x.spawn(0, 0);
        x.spawn(2, 1);
        Check.steps(x, 0, 0, 20, 1, 1, 1);
        Check.line(x, 0, 0, 1);
        Check.infos(x, 1, 1, 0, 3, 0, 0, 8);
        Check.sentence("Behind that, if the process is still ready: a fork and a slice of 3");
        x = Check.with(new int[][] {{0, Op.SET, 0, 2}, {0, Op.SET, 1, 1}, {0, Op.FORK, 0, 1}});
        x.spawn(0, 2);
        Check.steps(x, 2, 0, 0, 0);
        Check.line(x, 2, 1, 0);
    }

    private static void stepOfAnEmptyLine() {
        Check.sentence("IDLE if its line is empty");
        ClusterImage x = Check.with(new int[][] {{0, Op.LOAD, 0, 0}, {1, Op.WAIT, 0, 0}});
        for (int node = 0; node < 3; node++) {
            Check.steps(x, node, ClusterImage.IDLE);
        }
        x.spawn(0, 1);
        x.spawn(1, 1);
        Check.steps(x, 0, ClusterImage.IDLE);
        Check.steps(x, 1, 10, 21, ClusterImage.IDLE, ClusterImage.IDLE);
        Check.counts(x, 2, 0, 1, 0, 1, 0, 0);
    }
}
