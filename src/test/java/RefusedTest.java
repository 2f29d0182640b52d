/** "A refused call answers REFUSED and changes nothing", and neither does a call that is only a question. */
public final class RefusedTest {
    private static final int[] FAR = {Integer.MIN_VALUE, -1001, -1, 32, 1001, Integer.MAX_VALUE};

    public static void main(String[] args) {
        // A twin that never hears the refused calls tells what is due.
        ClusterImage x = busy();
        for (int far : FAR) {
            refuse(x, far);
        }
        ask(x);
        Check.dueText("the state behind refused calls", Check.stateOf(x), Check.stateOf(busy()));
        hintsStay();
        Check.end();
    }

    /** One process is ready, one is blocked, one waits, one has ended. */
    private static ClusterImage busy() {
        ClusterImage x = new ClusterImage();
        Check.load(x, new int[][] {
            {0, Op.SET, 0, 5}, {0, Op.STORE, 0, 0}, {0, Op.YIELD, 0, 0}, {1, Op.WAIT, 0, 0}, {3, Op.SET, 0, 3}});
        x.spawn(0, 0);
        x.spawn(0, 1);
        x.spawn(1, 1);
        x.spawn(2, 2);
        Check.steps(x, 0, 0, 10);
        x.serve(1);
        Check.steps(x, 0, 0);
        Check.steps(x, 1, 1, 11, 22);
        Check.steps(x, 2, 33);
        return x;
    }

    private static void refuse(ClusterImage x, int far) {
        long[] answers = {
            x.instr(far, 0, 0, 0), x.instr(0, far, 0, 0), x.instr(0, 0, far, 0), x.instr(0, 1, 0, far),
            x.spawn(far, 0), x.spawn(0, far), x.step(far), x.serve(far), x.migrate(far, 0), x.migrate(0, far),
            x.find(far, 0), x.find(0, far), x.line(far, 0), x.copy(far, 0), x.copy(0, far),
            x.right(far, 0), x.right(0, far), x.owner(far), x.count(far),
            x.migrate(0, 0), x.migrate(3, 0), x.migrate(4, 0), x.find(0, 4)};
        for (int i = 0; i < answers.length; i++) {
            Check.due("refused call " + i + " with " + far, answers[i], ClusterImage.REFUSED);
        }
        Check.due("reg", x.reg(far, 0), ClusterImage.NONE);
        Check.due("info", x.info(far, 0), ClusterImage.NONE);
        Check.due("word", x.word(far), ClusterImage.NONE);
    }

    private static void ask(ClusterImage x) {
        Check.due("step of an empty line", x.step(2), ClusterImage.IDLE);
        Check.due("serve without a request", x.serve(7), ClusterImage.IDLE);
        Check.due("find", x.find(2, 0), 1);
    }

    private static void hintsStay() {
        ClusterImage x = new ClusterImage();
        x.spawn(0, 0);
        x.migrate(0, 1);
        Check.due("find(3, 0)", x.find(3, 0), ClusterImage.REFUSED);
        Check.due("migrate(0, 1)", x.migrate(0, 1), ClusterImage.REFUSED);
        Check.due("migrate(0, 3)", x.migrate(0, 3), ClusterImage.REFUSED);
        Check.due("find(2, 0)", x.find(2, 0), 2);
    }
}
