/** Promise 2: instr. */
public final class InstrTest {
    private static final int[] FAR = {Integer.MIN_VALUE, -1001, -1, 13, 1001, Integer.MAX_VALUE};

    public static void main(String[] args) {
        countsUpToTwelve();
        takesTheEdges();
        refusesNumbersOutOfRange();
        refusedBeforeFull();
        addsAtAnyTime();
        Check.end();
    }

    private static void countsUpToTwelve() {
        ClusterImage x = new ClusterImage();
        for (int program = 0; program < 4; program++) {
            for (int i = 1; i <= 12; i++) {
                Check.due("instr number " + i, x.instr(program, i, 0, 0), i);
            }
            Check.due("instr number 13", x.instr(program, 0, 0, 0), ClusterImage.FULL);
            Check.due("instr number 14", x.instr(program, 0, 0, 0), ClusterImage.FULL);
        }
    }

    private static void takesTheEdges() {
        for (int op = 0; op < 13; op++) {
            int low = op == Op.SET ? -1000 : 0;
            int high = op == Op.SET ? 1000 : op == Op.JUMP ? 11 : 3;
            ClusterImage x = new ClusterImage();
            Check.due("lowest b of op " + op, x.instr(0, op, 0, low), 1);
            Check.due("highest b of op " + op, x.instr(0, op, 3, high), 2);
            Check.due("b too low for op " + op, x.instr(0, op, 0, low - 1), ClusterImage.REFUSED);
            Check.due("b too high for op " + op, x.instr(0, op, 0, high + 1), ClusterImage.REFUSED);
            Check.due("a too low for op " + op, x.instr(0, op, -1, 0), ClusterImage.REFUSED);
            Check.due("a too high for op " + op, x.instr(0, op, 4, 0), ClusterImage.REFUSED);
            Check.due("refused ones are not added, op " + op, x.instr(0, op, 0, 0), 3);
        }
    }

    private static void refusesNumbersOutOfRange() {
        ClusterImage x = new ClusterImage();
        for (int far : FAR) {
            Check.due("program " + far, x.instr(far, 0, 0, 0), ClusterImage.REFUSED);
            Check.due("op " + far, x.instr(0, far, 0, 0), ClusterImage.REFUSED);
            Check.due("a " + far, x.instr(0, 0, far, 0), ClusterImage.REFUSED);
            Check.due("b " + far, x.instr(0, 1, 0, far), ClusterImage.REFUSED);
        }
        Check.due("program 4", x.instr(4, 0, 0, 0), ClusterImage.REFUSED);
        Check.due("program 3", x.instr(3, 0, 0, 0), 1);
        Check.due("program 0", x.instr(0, 0, 0, 0), 1);
    }

    private static void refusedBeforeFull() {
        ClusterImage x = new ClusterImage();
        for (int i = 0; i < 12; i++) {
            x.instr(2, Op.YIELD, 0, 0);
        }
        Check.due("op 13 of a full program", x.instr(2, 13, 0, 0), ClusterImage.REFUSED);
        Check.due("b 4 of a full program", x.instr(2, 12, 0, 4), ClusterImage.REFUSED);
        Check.due("a full program", x.instr(2, 12, 0, 3), ClusterImage.FULL);
    }

    private static void addsAtAnyTime() {
        ClusterImage x = new ClusterImage();
        x.instr(1, Op.SET, 0, 5);
        x.spawn(1, 0);
        Check.steps(x, 0, 0);
        Check.due("instr while it runs", x.instr(1, Op.EXIT, 0, 0), 2);
        Check.steps(x, 0, 30);
        Check.due("code", x.info(0, 4), 5);
    }
}
