/** The boundary cases of programs, processes, registers, lines and slices, sentence by sentence. */
public final class BoundTermsTest {
    public static void main(String[] args) {
        emptyProgram();
        fullProgram();
        moreMayBeAddedAtAnyTime();
        addedBehindAnEndedOne();
        numbersInOrder();
        numbersAreKept();
        registersWrap();
        registersStartAtZero();
        readyGoesToTheEndOfItsPlace();
        lineHoldsAllEight();
        sliceIsZeroAtTheEndOfALine();
        sliceStaysOutsideALine();
        wordsOfPages();
        hintsAtFirst();
        hintsOfAForkedOne();
        hintsOfAMove();
        Check.end();
    }

    private static void emptyProgram() {
        Check.sentence("PROGRAMS 0 .. 3 hold 0 to 12 INSTRUCTIONS each: none");
        for (int program = 0; program < 4; program++) {
            ClusterImage x = new ClusterImage();
            Check.due("spawn", x.spawn(program, 2), 0);
            Check.steps(x, 2, 30, ClusterImage.IDLE);
            Check.infos(x, 0, 4, 2, 0, 0, 0, 8);
        }
    }

    private static void fullProgram() {
        Check.sentence("PROGRAMS 0 .. 3 hold 0 to 12 INSTRUCTIONS each: twelve");
        ClusterImage x = new ClusterImage();
        for (int i = 1; i <= 12; i++) {
            Check.due("instr number " + i, x.instr(3, Op.SET, 0, i), i);
        }
        Check.due("instr number 13", x.instr(3, Op.SET, 0, 13), ClusterImage.FULL);
        Check.due("another program", x.instr(2, Op.SET, 0, 13), 1);
        x.spawn(3, 0);
        for (int i = 1; i <= 12; i++) {
            Check.ready(x, 0, 0, 1);
            Check.due("reg(0, 0)", x.reg(0, 0), i);
            Check.due("counter", x.info(0, 2), i);
        }
        Check.steps(x, 0, 30);
        Check.due("the one too many did not happen", x.reg(0, 0), 12);
        Check.due("counter", x.info(0, 2), 12);
    }

    private static void moreMayBeAddedAtAnyTime() {
        Check.sentence("(more may be added at any time)");
        ClusterImage x = Check.with(new int[][] {{0, Op.SET, 3, 11}, {1, Op.SET, 0, 2}, {1, Op.JUMP, 0, 3}});
        x.spawn(0, 0);
        Check.ready(x, 0, 0, 1);
        Check.due("behind the last one", x.instr(0, Op.LOAD, 1, 3), 2);
        Check.steps(x, 0, 10);
        Check.due("while it is blocked", x.instr(0, Op.EXIT, 3, 0), 3);
        Check.due("serve(2)", x.serve(2), 0);
        Check.steps(x, 0, 0, 30);
        Check.due("code", x.info(0, 4), 11);
        x.spawn(1, 1);
        Check.ready(x, 1, 1, 2);
        Check.due("its counter is behind the end", x.info(1, 2), 3);
        Check.due("below the counter", x.instr(1, Op.YIELD, 0, 0), 3);
        Check.due("at the counter", x.instr(1, Op.EXIT, 0, 0), 4);
        Check.steps(x, 1, 31);
        Check.due("code", x.info(1, 4), 2);
    }

    private static void addedBehindAnEndedOne() {
        Check.sentence("if its counter is not less than the number of the program's instructions, it ENDS");
        ClusterImage x = new ClusterImage();
        x.spawn(0, 0);
        Check.steps(x, 0, 30);
        Check.due("instr", x.instr(0, Op.YIELD, 0, 0), 1);
        Check.steps(x, 0, ClusterImage.IDLE);
        Check.infos(x, 0, 4, 0, 0, 0, 0, 8);
        x.spawn(0, 0);
        Check.steps(x, 0, 1, 31);
    }

    private static void numbersInOrder() {
        Check.sentence("PROCESSES have numbers 0 .. 7 in the order in which they are made");
        ClusterImage x = Check.with(new int[][] {{0, Op.FORK, 1, 1}, {0, Op.FORK, 2, 1}, {0, Op.FORK, 3, 1}});
        Check.due("spawn", x.spawn(0, 2), 0);
        Check.due("spawn", x.spawn(0, 1), 1);
        Check.steps(x, 1, 1);
        Check.due("forked", x.reg(1, 1), 2);
        Check.due("spawn", x.spawn(1, 0), 3);
        Check.steps(x, 2, 0, 0);
        Check.regs(x, 0, 0, 4, 5, 0);
        Check.due("spawn", x.spawn(1, 0), 6);
        Check.steps(x, 1, 1);
        Check.due("the last one", x.reg(1, 2), 7);
        Check.steps(x, 2, 0);
        Check.due("none is left to be forked", x.reg(0, 3), -1);
        Check.due("none is left to be spawned", x.spawn(1, 0), ClusterImage.FULL);
        Check.line(x, 0, 3, 6);
        Check.line(x, 1, 1, 2, 7);
        Check.line(x, 2, 4, 5, 0);
    }

    private static void numbersAreKept() {
        Check.sentence("and keep them");
        ClusterImage x = new ClusterImage();
        x.spawn(0, 0);
        x.spawn(0, 0);
        Check.steps(x, 0, 30, 31);
        Check.due("the numbers of ended ones are not used again", x.spawn(0, 0), 2);
        x.migrate(2, 1);
        Check.line(x, 1, 2);
        Check.steps(x, 1, 32);
        Check.counts(x, 3);
        Check.due("the first is still there", x.info(0, 0), 4);
    }

    private static void registersWrap() {
        Check.sentence("ints that wrap");
        ClusterImage x = Check.with(new int[][] {
            {0, Op.SET, 0, 1}, {0, Op.SET, 1, -31}, {0, Op.SET, 2, 1},
            {0, Op.ADD, 0, 0}, {0, Op.ADD, 1, 2}, {0, Op.JUMP, 1, 3},
            {0, Op.SET, 1, -1}, {0, Op.ADD, 0, 1}, {0, Op.ADD, 0, 2}, {0, Op.ADD, 0, 0}});
        x.spawn(0, 0);
        Check.ready(x, 0, 0, 3 + 30 * 3);
        Check.due("the highest power", x.reg(0, 0), 1 << 30);
        Check.ready(x, 0, 0, 3);
        Check.due("twice that", x.reg(0, 0), Integer.MIN_VALUE);
        Check.ready(x, 0, 0, 2);
        Check.due("the lowest and -1", x.reg(0, 0), Integer.MAX_VALUE);
        Check.ready(x, 0, 0, 1);
        Check.due("the highest and 1", x.reg(0, 0), Integer.MIN_VALUE);
        Check.ready(x, 0, 0, 1);
        Check.due("twice the lowest", x.reg(0, 0), 0);
    }

    private static void registersStartAtZero() {
        Check.sentence("four registers 0 .. 3 (0 at first), a COUNTER (0 at first)");
        ClusterImage x = Check.with(new int[][] {
            {0, Op.SET, 0, 7}, {0, Op.SET, 1, 7}, {0, Op.SET, 3, 7}, {0, Op.FORK, 2, 0}});
        x.spawn(0, 0);
        Check.ready(x, 0, 0, 4);
        Check.regs(x, 0, 7, 7, 1, 7);
        Check.regs(x, 1, 0, 0, 0, 0);
        Check.infos(x, 1, 1, 0, 0, 0, 0, 8);
        x.spawn(0, 1);
        Check.regs(x, 2, 0, 0, 0, 0);
        Check.infos(x, 2, 1, 1, 0, 0, 0, 8);
    }

    private static void readyGoesToTheEndOfItsPlace() {
        Check.sentence("a process that becomes ready goes to the end of the line of its place");
        ClusterImage x = Check.with(new int[][] {
            {0, Op.LOAD, 0, 0}, {1, Op.SET, 0, 2}, {1, Op.WAIT, 0, 0}, {2, Op.EXIT, 0, 0}, {3, Op.YIELD, 0, 0}});
        x.spawn(0, 0);
        x.spawn(1, 1);
        x.spawn(2, 0);
        x.spawn(3, 2);
        Check.steps(x, 0, 10);
        Check.steps(x, 1, 1, 21);
        Check.due("migrate(0, 2)", x.migrate(0, 2), 0);
        Check.due("migrate(1, 2)", x.migrate(1, 2), 1);
        Check.line(x, 2, 3);
        Check.steps(x, 0, 32);
        Check.line(x, 2, 3, 1);
        Check.due("serve(0)", x.serve(0), 0);
        Check.line(x, 2, 3, 1, 0);
        Check.line(x, 0);
        Check.line(x, 1);
    }

    private static void lineHoldsAllEight() {
        Check.sentence("Each node has a LINE of the ready processes placed there: all of them, and none");
        ClusterImage x = Check.with(new int[][] {{0, Op.YIELD, 0, 0}});
        for (int i = 0; i < 8; i++) {
            x.spawn(0, i % 3);
        }
        for (int i = 0; i < 8; i++) {
            Check.due("migrate(" + i + ", 1)", x.migrate(i, 1), i % 3 == 1 ? ClusterImage.REFUSED : i % 3);
        }
        Check.line(x, 1, 1, 4, 7, 0, 2, 3, 5, 6);
        Check.line(x, 0);
        Check.line(x, 2);
        Check.steps(x, 0, ClusterImage.IDLE);
        Check.steps(x, 1, 1, 4, 7, 0, 2, 3, 5, 6);
        Check.line(x, 1, 1, 4, 7, 0, 2, 3, 5, 6);
        Check.steps(x, 1, 31, 34, 37, 30, 32, 33, 35, 36, ClusterImage.IDLE);
        Check.line(x, 1);
    }

    private static void sliceIsZeroAtTheEndOfALine() {
        Check.sentence("A process has a SLICE, 0 whenever it goes to the end of a line");
        ClusterImage x = Check.with(new int[][] {
            {0, Op.SET, 1, 1}, {0, Op.SET, 1, 2}, {0, Op.SET, 1, 3}, {0, Op.SET, 1, 1},
            {0, Op.YIELD, 0, 0}, {0, Op.SET, 1, 1}, {0, Op.LOAD, 2, 0}, {0, Op.WAIT, 1, 0}});
        x.spawn(0, 0);
        slice(x, 0);
        Check.ready(x, 0, 0, 2);
        slice(x, 2);
        Check.ready(x, 0, 0, 1);
        slice(x, 0);
        Check.ready(x, 0, 0, 1);
        slice(x, 1);
        Check.ready(x, 0, 0, 1);
        slice(x, 0);
        Check.ready(x, 0, 0, 1);
        slice(x, 1);
        Check.due("migrate(0, 1)", x.migrate(0, 1), 0);
        slice(x, 0);
        Check.steps(x, 1, 10);
        Check.due("serve(0)", x.serve(0), 0);
        slice(x, 0);
        x.spawn(1, 2);
        Check.steps(x, 1, 0, 20);
        slice(x, 1);
        Check.steps(x, 2, 31);
        slice(x, 0);
    }

    private static void slice(ClusterImage x, int want) {
        Check.due("slice", x.info(0, 3), want);
    }

    private static void sliceStaysOutsideALine() {
        Check.sentence("a blocked or waiting one only changes its place");
        ClusterImage x = Check.with(new int[][] {
            {0, Op.SET, 0, 1}, {0, Op.SET, 1, 1}, {0, Op.LOAD, 2, 0}, {1, Op.SET, 0, 0}, {1, Op.WAIT, 0, 0}});
        x.spawn(0, 0);
        x.spawn(1, 2);
        Check.steps(x, 0, 0, 0, 10);
        Check.steps(x, 2, 1, 21);
        Check.due("migrate(0, 1)", x.migrate(0, 1), 0);
        Check.due("migrate(1, 0)", x.migrate(1, 0), 2);
        Check.infos(x, 0, 2, 1, 2, 2, 0, 0);
        Check.infos(x, 1, 3, 0, 1, 1, 0, 8);
        Check.counts(x, 2, 0, 1, 0, 1, 0, 0);
    }

    private static void wordsOfPages() {
        Check.sentence("THE MEMORY has 32 words: 8 PAGES, the word w in page w / 4");
        for (int w = 0; w < 32; w++) {
            ClusterImage x = Check.with(new int[][] {{0, Op.SET, 0, w}, {0, Op.SET, 1, 100 + w}, {0, Op.STORE, 1, 0}});
            x.spawn(0, w % 3);
            Check.ready(x, w % 3, 0, 2);
            Check.steps(x, w % 3, 10);
            Check.due("page of " + w, x.info(0, 5), w / 4);
            Check.due("serve", x.serve(w / 4), 0);
            Check.ready(x, w % 3, 0, 1);
            for (int other = 0; other < 32; other++) {
                Check.due("word(" + other + ")", x.word(other), other == w ? 100 + w : 0);
                long copy = other / 4 != w / 4 ? ClusterImage.NONE : other == w ? 100 + w : 0;
                Check.due("copy of " + other, x.copy(w % 3, other), copy);
            }
        }
    }

    private static void hintsAtFirst() {
        Check.sentence("HINTS: for every process each node has a hint, a node: its first place, at first");
        for (int place = 0; place < 3; place++) {
            for (int asked = 0; asked < 3; asked++) {
                ClusterImage x = new ClusterImage();
                x.spawn(0, (place + 1) % 3);
                x.spawn(0, place);
                Check.due("find(" + asked + ", 1) at " + place, x.find(asked, 1), asked == place ? 0 : 1);
            }
        }
    }

    private static void hintsOfAForkedOne() {
        Check.sentence("its first place, at first: a forked one's is where it was forked");
        ClusterImage x = Check.with(new int[][] {{0, Op.FORK, 0, 1}});
        x.spawn(0, 0);
        x.migrate(0, 2);
        Check.steps(x, 2, 0);
        Check.due("find(0, 1)", x.find(0, 1), 1);
        Check.due("find(1, 1)", x.find(1, 1), 1);
        Check.due("find(2, 1)", x.find(2, 1), 0);
        Check.due("the hint for the other one is its own", x.find(1, 0), 2);
    }

    private static void hintsOfAMove() {
        Check.sentence("When a process is moved from p to q, p's and q's hints for it become q");
        for (int p = 0; p < 3; p++) {
            for (int q = 0; q < 3; q++) {
                if (p == q) {
                    continue;
                }
                int third = 3 - p - q;
                ClusterImage x = new ClusterImage();
                x.spawn(0, p);
                x.migrate(0, q);
                Check.due("from p", x.find(p, 0), 1);
                Check.due("from q", x.find(q, 0), 0);
                Check.due("the third hint is still p", x.find(third, 0), 2);
                x.migrate(0, p);
                Check.due("back: from p", x.find(p, 0), 0);
                Check.due("back: from q", x.find(q, 0), 1);
                Check.due("back: the third hint is q by the find", x.find(third, 0), 2);
            }
        }
    }
}
