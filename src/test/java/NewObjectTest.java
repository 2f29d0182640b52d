/** Promise 1: a new object. */
public final class NewObjectTest {
    public static void main(String[] args) {
        nothingIsMade();
        memoryIsEmpty();
        programsAreEmpty();
        objectsDoNotShare();
        Check.end();
    }

    private static void nothingIsMade() {
        ClusterImage x = new ClusterImage();
        for (int what = 0; what < 7; what++) {
            Check.due("count(" + what + ")", x.count(what), 0);
        }
        for (int p = 0; p < 8; p++) {
            Check.due("info(" + p + ", 0)", x.info(p, 0), ClusterImage.NONE);
            Check.due("reg(" + p + ", 0)", x.reg(p, 0), ClusterImage.NONE);
            Check.due("migrate(" + p + ", 0)", x.migrate(p, 0), ClusterImage.REFUSED);
            Check.due("find(0, " + p + ")", x.find(0, p), ClusterImage.REFUSED);
        }
        for (int node = 0; node < 3; node++) {
            Check.line(x, node);
            Check.due("step(" + node + ")", x.step(node), ClusterImage.IDLE);
        }
    }

    private static void memoryIsEmpty() {
        ClusterImage x = new ClusterImage();
        for (int page = 0; page < 8; page++) {
            Check.rights(x, page, 0, 0, 0, 3);
            Check.due("serve(" + page + ")", x.serve(page), ClusterImage.IDLE);
        }
        for (int address = 0; address < 32; address++) {
            Check.due("word(" + address + ")", x.word(address), 0);
            for (int node = 0; node < 3; node++) {
                Check.due("copy(" + node + ", " + address + ")", x.copy(node, address), ClusterImage.NONE);
            }
        }
    }

    private static void programsAreEmpty() {
        ClusterImage x = new ClusterImage();
        for (int program = 0; program < 4; program++) {
            Check.due("spawn(" + program + ", 0)", x.spawn(program, 0), program);
            Check.due("step(0)", x.step(0), 30 + program);
            Check.due("instr(" + program + ", 12, 0, 0)", x.instr(program, Op.YIELD, 0, 0), 1);
        }
    }

    private static void objectsDoNotShare() {
        ClusterImage first = new ClusterImage();
        ClusterImage second = new ClusterImage();
        first.instr(0, Op.STORE, 0, 0);
        first.spawn(0, 0);
        first.step(0);
        first.serve(0);
        Check.dueText("the state of another object", Check.stateOf(second), Check.stateOf(new ClusterImage()));
    }
}
