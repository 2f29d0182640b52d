/** Compares answers with those that are due, and ends a test with exit code 1 if one was wrong. */
public final class Check {
    private static int wrong = 0;
    private static String sentence = "";

    private Check() {
    }

    /** Names the sentence that the next answers belong to, so that a wrong one tells which is broken. */
    public static void sentence(String words) {
        sentence = "\"" + words + "\": ";
    }

    public static void due(String call, long got, long want) {
        if (got != want) {
            wrong++;
            System.out.println(sentence + call + " answered " + got + ", due is " + want);
        }
    }

    public static void dueText(String what, String got, String want) {
        if (!got.equals(want)) {
            wrong++;
            System.out.println(sentence + what + "\n  is     " + got + "\n  due is " + want);
        }
    }

    public static boolean isClean() {
        return wrong == 0;
    }

    public static void end() {
        System.out.println(wrong == 0 ? "all answers are as due" : wrong + " answers are not as due");
        if (wrong != 0) {
            System.exit(1);
        }
    }

    /** Adds instructions of four numbers each: program, op, a, b. */
    public static void load(ClusterImage x, int[][] instructions) {
        for (int[] i : instructions) {
            if (x.instr(i[0], i[1], i[2], i[3]) < 1) {
                wrong++;
                System.out.println("instr(" + i[0] + ", " + i[1] + ", " + i[2] + ", " + i[3] + ") was not taken");
            }
        }
    }

    /** Steps a node and serves the page of each fault until its line is empty or the steps are used up. */
    public static void runNode(ClusterImage x, int node, int steps) {
        for (int i = 0; i < steps; i++) {
            int answer = x.step(node);
            if (answer == ClusterImage.IDLE) {
                return;
            }
            if (answer / 10 == 1) {
                x.serve((int) x.info(answer % 10, 5));
            }
        }
    }

    public static void steps(ClusterImage x, int node, int... answers) {
        for (int i = 0; i < answers.length; i++) {
            due("step(" + node + ") number " + i, x.step(node), answers[i]);
        }
    }

    public static void line(ClusterImage x, int node, int... numbers) {
        for (int i = 0; i < numbers.length; i++) {
            due("line(" + node + ", " + i + ")", x.line(node, i), numbers[i]);
        }
        due("line(" + node + ", " + numbers.length + ")", x.line(node, numbers.length), 8);
    }

    public static void rights(ClusterImage x, int page, int r0, int r1, int r2, int owner) {
        due("right(0, " + page + ")", x.right(0, page), r0);
        due("right(1, " + page + ")", x.right(1, page), r1);
        due("right(2, " + page + ")", x.right(2, page), r2);
        due("owner(" + page + ")", x.owner(page), owner);
    }

    /** A new object with these instructions in it. */
    public static ClusterImage with(int[][] instructions) {
        ClusterImage x = new ClusterImage();
        load(x, instructions);
        return x;
    }

    /** Lets a single process at a node do so many instructions, each of which has to leave it ready. */
    public static void ready(ClusterImage x, int node, int process, int steps) {
        for (int i = 0; i < steps; i++) {
            due("step(" + node + ") number " + i, x.step(node), process);
        }
    }

    /** Lets the first process of a node fault on a page, and grants the request. */
    public static void faultAndServe(ClusterImage x, int node, int process, int page) {
        due("fault: step(" + node + ")", x.step(node), 10 + process);
        due("serve(" + page + ")", x.serve(page), process);
    }

    public static void regs(ClusterImage x, int process, long r0, long r1, long r2, long r3) {
        long[] want = {r0, r1, r2, r3};
        for (int i = 0; i < 4; i++) {
            due("reg(" + process + ", " + i + ")", x.reg(process, i), want[i]);
        }
    }

    /** State, place, counter, slice, code and page. */
    public static void infos(ClusterImage x, int process, long... want) {
        for (int i = 0; i < want.length; i++) {
            due("info(" + process + ", " + i + ")", x.info(process, i), want[i]);
        }
    }

    /** Made, messages, faults, given up, requests, ready, grants. */
    public static void counts(ClusterImage x, int... want) {
        for (int i = 0; i < want.length; i++) {
            due("count(" + i + ")", x.count(i), want[i]);
        }
    }

    /** All that can be read without changing the object. */
    public static String stateOf(ClusterImage x) {
        StringBuilder text = new StringBuilder();
        for (int p = 0; p < 8; p++) {
            for (int what = 0; what < 6; what++) {
                text.append(x.info(p, what)).append(',');
            }
            for (int register = 0; register < 4; register++) {
                text.append(x.reg(p, register)).append(',');
            }
            text.append(';');
        }
        for (int node = 0; node < 3; node++) {
            for (int i = 0; i < 8; i++) {
                text.append(x.line(node, i)).append('/').append(x.right(node, i)).append(',');
            }
            for (int address = 0; address < 32; address++) {
                text.append(x.copy(node, address)).append(',');
            }
        }
        for (int page = 0; page < 8; page++) {
            text.append(x.owner(page)).append(',');
        }
        for (int address = 0; address < 32; address++) {
            text.append(x.word(address)).append(',');
        }
        for (int what = 0; what < 7; what++) {
            text.append(x.count(what)).append(',');
        }
        return text.toString();
    }
}
