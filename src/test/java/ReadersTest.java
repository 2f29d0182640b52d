/** Promises 8 to 15: reg, info, line, word, copy, right, owner and count. */
public final class ReadersTest {
    private static final int[] FAR = {Integer.MIN_VALUE, -1, 32, 33, Integer.MAX_VALUE};

    public static void main(String[] args) {
        reg();
        info();
        line();
        word();
        copy();
        right();
        owner();
        count();
        Check.end();
    }

    /** Process 0 has stored -1 at the address 30 from the node 1, and then asks for the page 0 at the address 1. */
    private static ClusterImage stored() {
        ClusterImage x = new ClusterImage();
        Check.load(x, new int[][] {
            {0, Op.SET, 0, -1}, {0, Op.SET, 3, 30}, {0, Op.STORE, 0, 3}, {0, Op.SET, 1, 1}, {0, Op.LOAD, 2, 1}});
        x.spawn(0, 1);
        Check.steps(x, 1, 0, 0, 10);
        Check.due("serve(7)", x.serve(7), 0);
        Check.steps(x, 1, 0, 0, 10);
        return x;
    }

    private static void reg() {
        ClusterImage x = stored();
        Check.due("reg(0, 0)", x.reg(0, 0), -1);
        Check.due("reg(0, 1)", x.reg(0, 1), 1);
        Check.due("reg(0, 2)", x.reg(0, 2), 0);
        Check.due("reg(0, 3)", x.reg(0, 3), 30);
        Check.due("reg(0, 4)", x.reg(0, 4), ClusterImage.NONE);
        Check.due("reg(1, 0)", x.reg(1, 0), ClusterImage.NONE);
        Check.due("reg(8, 0)", x.reg(8, 0), ClusterImage.NONE);
        for (int far : FAR) {
            Check.due("reg(" + far + ", 0)", x.reg(far, 0), ClusterImage.NONE);
            Check.due("reg(0, " + far + ")", x.reg(0, far), ClusterImage.NONE);
        }
    }

    private static void info() {
        ClusterImage x = stored();
        long[] due = {2, 1, 4, 2, 0, 0, ClusterImage.NONE};
        for (int what = 0; what < 7; what++) {
            Check.due("info(0, " + what + ")", x.info(0, what), due[what]);
            Check.due("info(1, " + what + ")", x.info(1, what), ClusterImage.NONE);
        }
        for (int far : FAR) {
            Check.due("info(" + far + ", 0)", x.info(far, 0), ClusterImage.NONE);
            Check.due("info(0, " + far + ")", x.info(0, far), ClusterImage.NONE);
        }
        x.serve(0);
        Check.due("info(0, 0)", x.info(0, 0), 1);
        Check.due("info(0, 3)", x.info(0, 3), 0);
        Check.due("info(0, 5)", x.info(0, 5), 8);
    }

    private static void line() {
        ClusterImage x = new ClusterImage();
        for (int i = 0; i < 8; i++) {
            x.spawn(0, i == 3 ? 1 : 0);
        }
        Check.line(x, 0, 0, 1, 2, 4, 5, 6, 7);
        Check.line(x, 1, 3);
        Check.line(x, 2);
        Check.due("line(0, 8)", x.line(0, 8), 8);
        Check.due("line(0, MAX)", x.line(0, Integer.MAX_VALUE), 8);
        Check.due("line(0, -1)", x.line(0, -1), ClusterImage.REFUSED);
        Check.due("line(0, MIN)", x.line(0, Integer.MIN_VALUE), ClusterImage.REFUSED);
        Check.due("line(3, 0)", x.line(3, 0), ClusterImage.REFUSED);
        for (int far : FAR) {
            Check.due("line(" + far + ", 0)", x.line(far, 0), ClusterImage.REFUSED);
        }
    }

    private static void word() {
        ClusterImage x = stored();
        for (int address = 0; address < 32; address++) {
            Check.due("word(" + address + ")", x.word(address), address == 30 ? -1 : 0);
        }
        for (int far : FAR) {
            Check.due("word(" + far + ")", x.word(far), ClusterImage.NONE);
        }
    }

    private static void copy() {
        ClusterImage x = stored();
        for (int address = 0; address < 32; address++) {
            long due = address < 28 ? ClusterImage.NONE : address == 30 ? -1 : 0;
            Check.due("copy(1, " + address + ")", x.copy(1, address), due);
            Check.due("copy(0, " + address + ")", x.copy(0, address), ClusterImage.NONE);
            Check.due("copy(2, " + address + ")", x.copy(2, address), ClusterImage.NONE);
        }
        Check.due("copy(3, 0)", x.copy(3, 0), ClusterImage.REFUSED);
        for (int far : FAR) {
            Check.due("copy(" + far + ", 0)", x.copy(far, 0), ClusterImage.REFUSED);
            Check.due("copy(0, " + far + ")", x.copy(0, far), ClusterImage.REFUSED);
        }
    }

    private static void right() {
        ClusterImage x = stored();
        Check.due("serve(0)", x.serve(0), 0);
        for (int page = 0; page < 8; page++) {
            Check.due("right(0, " + page + ")", x.right(0, page), 0);
            Check.due("right(1, " + page + ")", x.right(1, page), page == 7 ? 2 : page == 0 ? 1 : 0);
            Check.due("right(2, " + page + ")", x.right(2, page), 0);
        }
        Check.due("right(3, 0)", x.right(3, 0), ClusterImage.REFUSED);
        Check.due("right(0, 8)", x.right(0, 8), ClusterImage.REFUSED);
        for (int far : FAR) {
            Check.due("right(" + far + ", 0)", x.right(far, 0), ClusterImage.REFUSED);
            Check.due("right(0, " + far + ")", x.right(0, far), ClusterImage.REFUSED);
        }
    }

    private static void owner() {
        ClusterImage x = stored();
        for (int page = 0; page < 8; page++) {
            Check.due("owner(" + page + ")", x.owner(page), page == 7 ? 1 : 3);
        }
        Check.due("owner(8)", x.owner(8), ClusterImage.REFUSED);
        for (int far : FAR) {
            Check.due("owner(" + far + ")", x.owner(far), ClusterImage.REFUSED);
        }
    }

    private static void count() {
        ClusterImage x = stored();
        x.spawn(1, 2);
        x.spawn(1, 0);
        Check.steps(x, 0, 32);
        int[] due = {3, 2, 2, 0, 1, 1, 1, ClusterImage.REFUSED};
        for (int what = 0; what < 8; what++) {
            Check.due("count(" + what + ")", x.count(what), due[what]);
        }
        for (int far : FAR) {
            Check.due("count(" + far + ")", x.count(far), ClusterImage.REFUSED);
        }
    }
}
