/** The ranges that the promises name for each call: the edges are taken, what lies beside them is not. */
public final class BoundCallsTest {
    /** A call with one number left open. */
    private interface Call {
        long answer(ClusterImage x, int number);
    }

    private static final int REFUSED = ClusterImage.REFUSED;
    private static final long NONE = ClusterImage.NONE;

    public static void main(String[] args) {
        instrRanges();
        instrRangeOfB();
        instrFull();
        spawnRanges();
        spawnFull();
        stepRange();
        stepOutcomes();
        serveRange();
        migrateRanges();
        migrateToItsPlace();
        migrateEnded();
        migrateReady();
        findRanges();
        findFollows();
        findEnded();
        regRanges();
        infoRanges();
        infoCodeAndPage();
        lineRanges();
        wordRange();
        copyRanges();
        rightRanges();
        ownerRange();
        countRange();
        Check.end();
    }

    private static void range(String call, int low, int high, long outside, Call f) {
        beside(call, low, high, outside, f);
        for (int number = low; number <= high; number++) {
            if (f.answer(busy(), number) == outside) {
                Check.due(call + " with " + number + " is not taken", 1, 0);
            }
        }
    }

    /** A new object for every number, so that no call is led by one before it. */
    private static void beside(String call, int low, int high, long outside, Call f) {
        int[] refused = {Integer.MIN_VALUE, Integer.MIN_VALUE + 1, low - 1001, low - 2, low - 1,
            high + 1, high + 2, high + 1001, 1 << 16, 1 << 30, Integer.MAX_VALUE - 1, Integer.MAX_VALUE};
        for (int number : refused) {
            ClusterImage x = busy();
            Check.due(call + " with " + number, f.answer(x, number), outside);
            Check.dueText("behind " + call + " with " + number, future(x), FUTURE);
        }
    }

    /**
     * All eight are made: 0 is blocked at node 0, 1 ready at node 1, 2 waits at node 2, 3 has ended at node 0, the
     * others are ready at node 2; the pages 0 and 7 have rights; programs 0 .. 2 have a few instructions, 3 is empty.
     */
    private static ClusterImage busy() {
        ClusterImage x = sevenMade();
        x.spawn(1, 2);
        return x;
    }

    private static ClusterImage sevenMade() {
        ClusterImage x = Check.with(new int[][] {
            {0, Op.SET, 1, 31}, {0, Op.STORE, 1, 1}, {0, Op.LOAD, 2, 0}, {0, Op.STORE, 2, 0},
            {1, Op.SET, 0, 5}, {1, Op.YIELD, 0, 0}, {1, Op.LOAD, 1, 0}, {2, Op.SET, 0, 1}, {2, Op.WAIT, 0, 0}});
        x.spawn(0, 0);
        x.spawn(1, 0);
        x.spawn(2, 2);
        x.spawn(3, 0);
        x.migrate(1, 1);
        Check.steps(x, 2, 2, 22);
        for (int i = 4; i < 7; i++) {
            x.spawn(1, 2);
        }
        Check.steps(x, 0, 0, 10, 33);
        Check.due("serve(7)", x.serve(7), 0);
        Check.steps(x, 0, 0, 10);
        Check.due("serve(0)", x.serve(0), 0);
        Check.steps(x, 0, 0, 10);
        return x;
    }

    private static final String FUTURE = future(busy());

    /** What the object answers from now on: its hints, its processes at work, and then all that can be read. */
    private static String future(ClusterImage x) {
        StringBuilder text = new StringBuilder();
        for (int node = 0; node < 3; node++) {
            for (int p = 0; p < 8; p++) {
                text.append(x.find(node, p)).append(',');
            }
        }
        for (int round = 0; round < 8; round++) {
            for (int node = 0; node < 3; node++) {
                text.append(x.step(node)).append(',');
            }
            text.append(x.serve(round == 0 ? 0 : 1)).append(';');
        }
        for (int program = 0; program < 4; program++) {
            text.append(x.instr(program, Op.YIELD, 0, 0)).append(',');
        }
        return text.append(Check.stateOf(x)).toString();
    }

    private static void instrRanges() {
        Check.sentence("program not 0 .. 3, op not 0 .. 12, a not 0 .. 3: REFUSED");
        range("instr's program", 0, 3, REFUSED, (x, n) -> x.instr(n, Op.YIELD, 0, 0));
        range("instr's op", 0, 12, REFUSED, (x, n) -> x.instr(3, n, 0, 0));
        for (int op = 0; op <= 12; op++) {
            int fixed = op;
            range("instr's a for op " + op, 0, 3, REFUSED, (x, n) -> x.instr(3, fixed, n, 0));
        }
    }

    private static void instrRangeOfB() {
        Check.sentence("b not -1000 .. 1000 for op 0, not 0 .. 11 for op 5, not 0 .. 3 for any other op: REFUSED");
        range("instr's b for op 0", -1000, 1000, REFUSED, (x, n) -> x.instr(3, Op.SET, 0, n));
        range("instr's b for op 5", 0, 11, REFUSED, (x, n) -> x.instr(3, Op.JUMP, 0, n));
        for (int op = 1; op <= 12; op++) {
            int fixed = op;
            if (op != Op.JUMP) {
                range("instr's b for op " + op, 0, 3, REFUSED, (x, n) -> x.instr(3, fixed, 3, n));
            }
        }
    }

    private static void instrFull() {
        Check.sentence("Adds an instruction; answers how many it has then. It has 12: FULL");
        ClusterImage x = busy();
        for (int i = 1; i <= 12; i++) {
            Check.due("instr number " + i, x.instr(3, Op.JUMP, 0, 11), i);
        }
        Check.due("the 13th", x.instr(3, Op.SET, 0, 0), ClusterImage.FULL);
        Check.due("the 14th", x.instr(3, Op.YIELD, 0, 0), ClusterImage.FULL);
        Check.due("program 2 had 2", x.instr(2, Op.YIELD, 0, 0), 3);
        Check.due("a number out of range is REFUSED, FULL or not", x.instr(3, Op.YIELD, 0, 4), REFUSED);
        Check.due("a number out of range is REFUSED, FULL or not", x.instr(3, 13, 0, 0), REFUSED);
        Check.due("a number out of range is REFUSED, FULL or not", x.instr(3, Op.YIELD, 4, 0), REFUSED);
    }

    private static void spawnRanges() {
        Check.sentence("Makes a ready process of the program at the node 0 .. 2; numbers out of range are REFUSED");
        range("spawn's program, FULL too", 0, 3, REFUSED, (x, n) -> x.spawn(n, 0));
        range("spawn's node, FULL too", 0, 2, REFUSED, (x, n) -> x.spawn(0, n));
        int[] far = {Integer.MIN_VALUE, -1, 3, 4, Integer.MAX_VALUE};
        for (int number : far) {
            ClusterImage x = sevenMade();
            Check.due("spawn(0, " + number + ")", x.spawn(0, number), REFUSED);
            Check.due("spawn(4, 0)", x.spawn(4, 0), REFUSED);
            Check.due("spawn(-1, 0)", x.spawn(-1, 0), REFUSED);
            Check.due("none was made", x.spawn(1, 2), 7);
            Check.dueText("behind refused calls of spawn", future(x), FUTURE);
        }
    }

    private static void spawnFull() {
        Check.sentence("8 were made: FULL");
        ClusterImage x = busy();
        for (int program = 0; program < 4; program++) {
            for (int node = 0; node < 3; node++) {
                Check.due("spawn(" + program + ", " + node + ")", x.spawn(program, node), ClusterImage.FULL);
            }
        }
        Check.dueText("behind a full call of spawn", future(x), FUTURE);
    }

    private static void stepRange() {
        Check.sentence("A STEP of the node: numbers out of range are REFUSED");
        range("step", 0, 2, REFUSED, (x, n) -> x.step(n));
    }

    private static void stepOutcomes() {
        Check.sentence("10 * outcome + the process's number: the number 7");
        ClusterImage x = Check.with(new int[][] {
            {0, Op.YIELD, 0, 0}, {0, Op.LOAD, 0, 0}, {0, Op.WAIT, 0, 0}, {1, Op.EXIT, 0, 0}});
        for (int i = 0; i < 8; i++) {
            x.spawn(i == 7 ? 0 : 1, i == 7 ? 2 : 1);
        }
        Check.steps(x, 2, 7, 17, ClusterImage.IDLE);
        Check.due("serve(0)", x.serve(0), 7);
        Check.steps(x, 2, 7, 27, ClusterImage.IDLE);
        Check.steps(x, 1, 30);
        Check.steps(x, 2, 7, 37, ClusterImage.IDLE);
    }

    private static void serveRange() {
        Check.sentence("SERVES the page 0 .. 7: numbers out of range are REFUSED");
        range("serve", 0, 7, REFUSED, (x, n) -> x.serve(n));
    }

    private static void migrateRanges() {
        Check.sentence("No such process, node not 0 .. 2: REFUSED");
        beside("migrate's node", 0, 2, REFUSED, (x, n) -> x.migrate(1, n));
        beside("migrate's process", 0, 7, REFUSED, (x, n) -> x.migrate(n, 1));
        int[] places = {0, 1, 2, 0, 2, 2, 2, 2};
        for (int p = 0; p < 8; p++) {
            for (int node = 0; node < 3; node++) {
                int due = p == 3 || node == places[p] ? REFUSED : places[p];
                Check.due("migrate(" + p + ", " + node + ")", busy().migrate(p, node), due);
            }
        }
        ClusterImage x = sevenMade();
        Check.due("the process that is not made yet", x.migrate(7, 1), REFUSED);
        x.spawn(1, 2);
        Check.dueText("behind it", future(x), FUTURE);
        Check.due("a process of a new object", new ClusterImage().migrate(0, 1), REFUSED);
    }

    private static void migrateToItsPlace() {
        Check.sentence("or its place already: REFUSED");
        ClusterImage x = busy();
        int[] places = {0, 1, 2, 0, 2, 2, 2, 2};
        for (int p = 0; p < 8; p++) {
            Check.due("place of " + p, x.info(p, 1), places[p]);
            Check.due("migrate(" + p + ", " + places[p] + ")", x.migrate(p, places[p]), REFUSED);
        }
        Check.dueText("behind it", future(x), FUTURE);
    }

    private static void migrateEnded() {
        Check.sentence("Moves a process that has not ENDED");
        ClusterImage x = busy();
        for (int node = 0; node < 3; node++) {
            Check.due("migrate(3, " + node + ")", x.migrate(3, node), REFUSED);
        }
        Check.dueText("behind it", future(x), FUTURE);
    }

    private static void migrateReady() {
        Check.sentence("a ready one goes from its line to the end of the other one: first, middle, last, alone");
        ClusterImage x = new ClusterImage();
        for (int i = 0; i < 5; i++) {
            x.spawn(0, 0);
        }
        Check.due("the first", x.migrate(0, 2), 0);
        Check.due("the last", x.migrate(4, 2), 0);
        Check.due("the middle", x.migrate(2, 2), 0);
        Check.line(x, 0, 1, 3);
        Check.line(x, 2, 0, 4, 2);
        Check.due("one of two", x.migrate(1, 1), 0);
        Check.due("the one alone", x.migrate(3, 1), 0);
        Check.line(x, 0);
        Check.line(x, 1, 1, 3);
        Check.steps(x, 0, ClusterImage.IDLE);
    }

    private static void findRanges() {
        Check.sentence("Goes from the node 0 .. 2 along the hints for a process made");
        range("find's node", 0, 2, REFUSED, (x, n) -> x.find(n, 1));
        range("find's process", 0, 7, REFUSED, (x, n) -> x.find(2, n));
        ClusterImage x = sevenMade();
        Check.due("the process that is not made yet", x.find(0, 7), REFUSED);
        Check.due("a process of a new object", new ClusterImage().find(0, 0), REFUSED);
    }

    private static void findFollows() {
        Check.sentence("Answers how many hints were followed: none, one, two");
        for (int first = 0; first < 3; first++) {
            ClusterImage x = new ClusterImage();
            int second = (first + 1) % 3;
            int third = (first + 2) % 3;
            x.spawn(0, first);
            Check.due("at its place", x.find(first, 0), 0);
            x.migrate(0, second);
            x.migrate(0, third);
            Check.due("at its place", x.find(third, 0), 0);
            Check.due("beside it", x.find(second, 0), 1);
            Check.due("behind two moves", x.find(first, 0), 2);
            Check.due("then the hints of all nodes gone through become that place", x.find(first, 0), 1);
            x.migrate(0, first);
            Check.due("a hint that no find has gone through stays", x.find(second, 0), 2);
            Check.due("find again", x.find(second, 0), 1);
        }
    }

    private static void findEnded() {
        Check.sentence("(that of an ENDED one is where it ended)");
        ClusterImage x = Check.with(new int[][] {{1, Op.KILL, 0, 0}, {0, Op.LOAD, 0, 0}});
        x.spawn(0, 0);
        x.spawn(1, 0);
        Check.steps(x, 0, 10);
        x.migrate(0, 1);
        Check.steps(x, 0, 1);
        Check.infos(x, 0, 4, 1, 0, 0, -9, 8);
        Check.due("find(2, 0)", x.find(2, 0), 2);
        Check.due("find(2, 0)", x.find(2, 0), 1);
        Check.due("find(1, 0)", x.find(1, 0), 0);
    }

    private static void regRanges() {
        Check.sentence("NONE for a process not made or a register not 0 .. 3");
        range("reg's process", 0, 7, NONE, (x, n) -> x.reg(n, 3));
        range("reg's register", 0, 3, NONE, (x, n) -> x.reg(3, n));
        Check.due("the process that is not made yet", sevenMade().reg(7, 0), NONE);
        Check.due("a process of a new object", new ClusterImage().reg(0, 0), NONE);
    }

    private static void infoRanges() {
        Check.sentence("Of a process made: (0) .. (5); else NONE");
        range("info's process", 0, 7, NONE, (x, n) -> x.info(n, 4));
        range("info's what", 0, 5, NONE, (x, n) -> x.info(0, n));
        Check.due("the process that is not made yet", sevenMade().info(7, 0), NONE);
        Check.due("a process of a new object", new ClusterImage().info(0, 5), NONE);
    }

    private static void infoCodeAndPage() {
        Check.sentence("the code with which it ENDED or 0 (4), the page that it is BLOCKED on or 8 (5)");
        ClusterImage x = busy();
        Check.infos(x, 0, 2, 0, 3, 1, 0, 0);
        Check.infos(x, 1, 1, 1, 0, 0, 0, 8);
        Check.infos(x, 2, 3, 2, 1, 1, 0, 8);
        Check.infos(x, 3, 4, 0, 0, 0, 0, 8);
        Check.due("serve(0)", x.serve(0), 0);
        Check.infos(x, 0, 1, 0, 3, 0, 0, 8);
    }

    private static void lineRanges() {
        Check.sentence("8 if there are not more than k. k below 0: REFUSED");
        range("line's node", 0, 2, REFUSED, (x, n) -> x.line(n, 0));
        ClusterImage x = busy();
        Check.line(x, 0);
        Check.line(x, 1, 1);
        Check.line(x, 2, 4, 5, 6, 7);
        int[] beyond = {4, 5, 7, 8, 9, 1 << 30, Integer.MAX_VALUE};
        for (int k : beyond) {
            Check.due("line(2, " + k + ")", x.line(2, k), 8);
        }
        int[] below = {-1, -2, -8, Integer.MIN_VALUE};
        for (int k : below) {
            Check.due("line(2, " + k + ")", x.line(2, k), REFUSED);
            Check.due("line(0, " + k + ")", x.line(0, k), REFUSED);
            Check.due("line(3, " + k + ")", x.line(3, k), REFUSED);
        }
        Check.due("line(3, 8)", x.line(3, 8), REFUSED);
        Check.due("line(-1, 0)", x.line(-1, 0), REFUSED);
    }

    private static void wordRange() {
        Check.sentence("The word 0 .. 31 of the memory; NONE for another number");
        range("word", 0, 31, NONE, (x, n) -> x.word(n));
    }

    private static void copyRanges() {
        Check.sentence("The word as the node 0 .. 2 has it: NONE if it has no right; numbers out of range are REFUSED");
        range("copy's node", 0, 2, REFUSED, (x, n) -> x.copy(n, 31));
        range("copy's address", 0, 31, REFUSED, (x, n) -> x.copy(0, n));
        ClusterImage x = busy();
        int[] addresses = {0, 3, 4, 27, 28, 30, 31};
        long[] due = {0, 0, NONE, NONE, 0, 0, 31};
        for (int i = 0; i < addresses.length; i++) {
            Check.due("copy(0, " + addresses[i] + ")", x.copy(0, addresses[i]), due[i]);
            Check.due("copy(1, " + addresses[i] + ")", x.copy(1, addresses[i]), NONE);
            Check.due("copy(2, " + addresses[i] + ")", x.copy(2, addresses[i]), NONE);
        }
    }

    private static void rightRanges() {
        Check.sentence("The node's right to the page 0 .. 7: numbers out of range are REFUSED");
        range("right's node", 0, 2, REFUSED, (x, n) -> x.right(n, 7));
        range("right's page", 0, 7, REFUSED, (x, n) -> x.right(0, n));
    }

    private static void ownerRange() {
        Check.sentence("The owner of the page 0 .. 7: numbers out of range are REFUSED");
        range("owner", 0, 7, REFUSED, (x, n) -> x.owner(n));
    }

    private static void countRange() {
        Check.sentence("(0) .. (6); else REFUSED");
        range("count", 0, 6, REFUSED, (x, n) -> x.count(n));
    }
}
