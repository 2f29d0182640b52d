/** The boundary cases of faults, requests, grants, owners and messages, sentence by sentence. */
public final class BoundMemoryTest {
    public static void main(String[] args) {
        faultsByRight();
        faultDoesNothingElse();
        faultIsNoUse();
        rightsBelongToTheNode();
        requestsGoToTheEnd();
        eightRequestsForOnePage();
        serveWithoutRequests();
        dropsTheFrontOnes();
        dropsAllOfThem();
        keepsEndedOnesBehindTheGranted();
        servesOnePageAlone();
        placeIsThatOfNow();
        givesUpOnlyAtThree();
        givesUpNothingForItsOwnPage();
        givesUpTheLongestUnused();
        everyKindOfUseCounts();
        ownerBehindGivingUp();
        homeBehindGivingUp();
        notTheOwnerGivesUp();
        writeTakesAll();
        writeKeepsItsOwn();
        readOfAWriter();
        readWithARight();
        readOfHome();
        messagesOfAGrant();
        wordsOutliveTheirPages();
        Check.end();
    }

    /** Program 0 loads, 1 stores, 2 swaps at the address 0. */
    private static ClusterImage atZero() {
        return Check.with(new int[][] {
            {0, Op.LOAD, 1, 0}, {0, Op.SET, 2, 1}, {0, Op.JUMP, 2, 0},
            {1, Op.STORE, 1, 0}, {1, Op.SET, 2, 1}, {1, Op.JUMP, 2, 0},
            {2, Op.CAS, 1, 0}, {2, Op.SET, 2, 1}, {2, Op.JUMP, 2, 0}});
    }

    /** Makes a process that asks for the page 0, and answers its number. */
    private static int ask(ClusterImage x, int program, int node) {
        int p = x.spawn(program, node);
        Check.due("fault of " + p, x.step(node), 10 + p);
        return p;
    }

    private static void askAndServe(ClusterImage x, int program, int node) {
        int p = ask(x, program, node);
        Check.due("serve(0)", x.serve(0), p);
    }

    /** Program 3 of this object touches these addresses in turn, with the same instruction each. */
    private static void touch(ClusterImage x, int op, int... addresses) {
        for (int address : addresses) {
            Check.load(x, new int[][] {{3, Op.SET, 0, address}, {3, op, 1, 0}});
        }
    }

    private static void faultsByRight() {
        Check.sentence("LOAD and its place has no right, or STORE or CAS and it has not WRITE, that is a FAULT");
        for (int program = 0; program < 3; program++) {
            for (int right = 0; right < 3; right++) {
                ClusterImage x = atZero();
                if (right > 0) {
                    askAndServe(x, right - 1, 1);
                    x.migrate(0, 0);
                }
                Check.due("right(1, 0)", x.right(1, 0), right);
                int p = x.spawn(program, 1);
                boolean fault = right < (program == 0 ? 1 : 2);
                Check.due("step of program " + program + " with right " + right, x.step(1), fault ? 10 + p : p);
                Check.due("faults", x.count(2), (right > 0 ? 1 : 0) + (fault ? 1 : 0));
                Check.due("requests", x.count(4), fault ? 1 : 0);
                if (fault) {
                    Check.due("serve(0)", x.serve(0), p);
                    Check.due("the right that was asked for", x.right(1, 0), program == 0 ? 1 : 2);
                }
            }
        }
    }

    private static void faultDoesNothingElse() {
        Check.sentence("nothing of the instruction happens, the process leaves the line, is BLOCKED");
        for (int op = Op.LOAD; op <= Op.CAS; op++) {
            ClusterImage x = Check.with(new int[][] {{0, Op.SET, 1, 7}, {0, Op.SET, 2, 31}, {0, op, 1, 2}});
            x.spawn(0, 2);
            x.spawn(0, 2);
            Check.steps(x, 2, 0, 0, 10);
            Check.regs(x, 0, 0, 7, 31, 0);
            Check.infos(x, 0, 2, 2, 2, 2, 0, 7);
            Check.line(x, 2, 1);
            Check.due("word(31)", x.word(31), 0);
            Check.rights(x, 7, 0, 0, 0, 3);
            Check.counts(x, 2, 0, 1, 0, 1, 1, 0);
        }
    }

    private static void faultIsNoUse() {
        Check.sentence("LOAD, STORE and CAS USE the page at that node: a fault does not");
        ClusterImage x = atZero();
        touch(x, Op.LOAD, 4, 8, 12);
        askAndServe(x, 0, 0);
        x.migrate(0, 1);
        x.spawn(3, 0);
        Check.runNode(x, 0, 5);
        Check.due("right(0, 2)", x.right(0, 2), 1);
        Check.due("migrate(1, 1)", x.migrate(1, 1), 0);
        ask(x, 1, 0);
        Check.due("migrate(1, 0)", x.migrate(1, 0), 1);
        Check.runNode(x, 0, 4);
        Check.due("right(0, 3)", x.right(0, 3), 1);
        Check.rights(x, 0, 0, 0, 0, 3);
        Check.due("right(0, 1)", x.right(0, 1), 1);
        Check.due("right(0, 2)", x.right(0, 2), 1);
    }

    private static void rightsBelongToTheNode() {
        Check.sentence("A node has a RIGHT to a page");
        ClusterImage x = atZero();
        askAndServe(x, 1, 0);
        Check.due("another process of the same node needs no grant", x.spawn(2, 0), 1);
        Check.steps(x, 0, 0, 0, 0, 1);
        Check.due("migrate(1, 1)", x.migrate(1, 1), 0);
        Check.steps(x, 1, 1, 1, 11);
        Check.rights(x, 0, 2, 0, 0, 0);
    }

    private static void requestsGoToTheEnd() {
        Check.sentence("a request (WRITE but for LOAD) goes to the end of the page's line");
        ClusterImage x = atZero();
        ask(x, 2, 2);
        ask(x, 0, 0);
        ask(x, 1, 1);
        Check.due("serve(0)", x.serve(0), 0);
        Check.rights(x, 0, 0, 0, 2, 2);
        Check.due("serve(0)", x.serve(0), 1);
        Check.rights(x, 0, 1, 0, 1, 2);
        Check.steps(x, 2, 10);
        Check.due("serve(0)", x.serve(0), 2);
        Check.rights(x, 0, 0, 2, 0, 1);
        Check.due("the one that asked again is last", x.serve(0), 0);
        Check.rights(x, 0, 0, 0, 2, 2);
        Check.due("serve(0)", x.serve(0), ClusterImage.IDLE);
    }

    private static void eightRequestsForOnePage() {
        Check.sentence("Each page has a line of REQUESTS, each of a process: all eight");
        ClusterImage x = atZero();
        for (int i = 0; i < 8; i++) {
            ask(x, i % 2, i % 3);
        }
        Check.counts(x, 8, 0, 8, 0, 8, 0, 0);
        for (int i = 0; i < 8; i++) {
            Check.due("serve(0)", x.serve(0), i);
            Check.due("requests", x.count(4), 7 - i);
            Check.due("ready", x.count(5), i + 1);
        }
        Check.due("serve(0)", x.serve(0), ClusterImage.IDLE);
        Check.rights(x, 0, 0, 2, 0, 1);
    }

    private static void serveWithoutRequests() {
        Check.sentence("or IDLE if there was none");
        ClusterImage x = atZero();
        for (int page = 0; page < 8; page++) {
            Check.due("serve(" + page + ")", x.serve(page), ClusterImage.IDLE);
        }
        Check.counts(x, 0, 0, 0, 0, 0, 0, 0);
        Check.rights(x, 0, 0, 0, 0, 3);
    }

    /** Eight processes: the first seven ask for the page 0, and the last one ends those that are named. */
    private static ClusterImage withEnded(int... ended) {
        ClusterImage x = atZero();
        for (int number : ended) {
            Check.load(x, new int[][] {{3, Op.SET, 0, number}, {3, Op.KILL, 0, 0}});
        }
        for (int i = 0; i < 7; i++) {
            ask(x, 0, 0);
        }
        x.spawn(3, 1);
        Check.ready(x, 1, 7, 2 * ended.length);
        Check.due("their requests stay in their lines", x.count(4), 7);
        return x;
    }

    private static void dropsTheFrontOnes() {
        Check.sentence("SERVING takes requests from the front of its line: those of ENDED processes are dropped");
        ClusterImage x = withEnded(0, 1, 2);
        Check.due("serve(0)", x.serve(0), 3);
        Check.due("requests", x.count(4), 3);
        Check.due("messages", x.count(1), 2);
        Check.due("grants", x.count(6), 1);
        Check.due("serve(0)", x.serve(0), 4);
    }

    private static void dropsAllOfThem() {
        Check.sentence("(dropped ones are gone all the same)");
        ClusterImage x = withEnded(5, 4, 2, 1, 0, 3);
        Check.due("serve(0)", x.serve(0), 6);
        Check.due("requests", x.count(4), 0);
        x = atZero();
        Check.load(x, new int[][] {{3, Op.KILL, 0, 0}, {3, Op.SET, 0, 1}, {3, Op.KILL, 0, 0}});
        ask(x, 0, 0);
        ask(x, 1, 2);
        x.spawn(3, 1);
        Check.ready(x, 1, 2, 3);
        Check.counts(x, 3, 0, 2, 0, 2, 1, 0);
        Check.due("serve(0)", x.serve(0), ClusterImage.IDLE);
        Check.counts(x, 3, 0, 2, 0, 0, 1, 0);
        Check.rights(x, 0, 0, 0, 0, 3);
        Check.due("state", x.info(0, 0), 4);
        Check.due("serve(0)", x.serve(0), ClusterImage.IDLE);
    }

    private static void keepsEndedOnesBehindTheGranted() {
        Check.sentence("(Its requests stay in their lines.)");
        ClusterImage x = withEnded(1, 2, 4, 6);
        Check.due("serve(0)", x.serve(0), 0);
        Check.due("requests", x.count(4), 6);
        Check.due("serve(0)", x.serve(0), 3);
        Check.due("requests", x.count(4), 3);
        Check.due("serve(0)", x.serve(0), 5);
        Check.due("requests", x.count(4), 1);
        Check.due("serve(0)", x.serve(0), ClusterImage.IDLE);
        Check.due("requests", x.count(4), 0);
    }

    private static void servesOnePageAlone() {
        Check.sentence("SERVES the page 0 .. 7");
        ClusterImage x = new ClusterImage();
        touch(x, Op.STORE, 3, 31);
        x.spawn(3, 0);
        Check.steps(x, 0, 0, 10);
        for (int page = 1; page < 8; page++) {
            Check.due("serve(" + page + ")", x.serve(page), ClusterImage.IDLE);
        }
        Check.due("requests", x.count(4), 1);
        Check.due("serve(0)", x.serve(0), 0);
        Check.steps(x, 0, 0, 0, 10);
        for (int page = 0; page < 7; page++) {
            Check.due("serve(" + page + ")", x.serve(page), ClusterImage.IDLE);
        }
        Check.due("serve(7)", x.serve(7), 0);
    }

    private static void placeIsThatOfNow() {
        Check.sentence("The first other one, of a process at place n, is GRANTED: it was moved since");
        ClusterImage x = atZero();
        ask(x, 1, 0);
        x.migrate(0, 1);
        x.migrate(0, 2);
        Check.due("serve(0)", x.serve(0), 0);
        Check.rights(x, 0, 0, 0, 2, 2);
        Check.line(x, 2, 0);
        x = atZero();
        askAndServe(x, 1, 2);
        x.migrate(0, 0);
        ask(x, 0, 1);
        x.migrate(1, 2);
        Check.due("serve(0)", x.serve(0), 1);
        Check.rights(x, 0, 0, 0, 2, 2);
        Check.due("one message, for it has the right already", x.count(1), 3);
    }

    private static void givesUpOnlyAtThree() {
        Check.sentence("A node has rights to at most 3 pages");
        ClusterImage x = new ClusterImage();
        touch(x, Op.STORE, 0, 4, 8, 12, 16, 20);
        x.spawn(3, 0);
        int[] held = {1, 2, 3, 3, 3, 3};
        for (int i = 0; i < 6; i++) {
            Check.ready(x, 0, 0, 1);
            Check.faultAndServe(x, 0, 0, i);
            Check.ready(x, 0, 0, 1);
            int sum = 0;
            for (int page = 0; page < 8; page++) {
                sum += x.right(0, page) == 2 ? 1 : 0;
            }
            Check.due("pages held", sum, held[i]);
            Check.due("given up", x.count(3), Math.max(0, i - 2));
            Check.due("messages", x.count(1), 2 * (i + 1) + Math.max(0, i - 2));
        }
        Check.rights(x, 2, 0, 0, 0, 3);
        Check.rights(x, 3, 2, 0, 0, 0);
        Check.rights(x, 5, 2, 0, 0, 0);
        x.spawn(3, 1);
        Check.ready(x, 1, 1, 1);
        Check.faultAndServe(x, 1, 1, 0);
        Check.due("another node's limit is its own", x.count(3), 3);
    }

    private static void givesUpNothingForItsOwnPage() {
        Check.sentence("(1) if n has no right to the page but to 3 others: it has a right to it and to 2 others");
        ClusterImage x = atZero();
        touch(x, Op.LOAD, 0, 4, 8, 3);
        x.spawn(3, 0);
        Check.runNode(x, 0, 9);
        Check.rights(x, 2, 1, 0, 0, 0);
        x.migrate(0, 1);
        askAndServe(x, 1, 0);
        Check.rights(x, 0, 2, 0, 0, 0);
        Check.rights(x, 1, 1, 0, 0, 0);
        Check.rights(x, 2, 1, 0, 0, 0);
        Check.counts(x, 2, 7, 4, 0, 0, 2, 4);
    }

    private static void givesUpTheLongestUnused() {
        Check.sentence("it gives up the one that it used the longest ago");
        int[][] orders = {{0, 1, 2}, {0, 2, 1}, {1, 0, 2}, {1, 2, 0}, {2, 0, 1}, {2, 1, 0}};
        for (int[] order : orders) {
            ClusterImage x = new ClusterImage();
            touch(x, Op.LOAD, 28, 16, 4);
            int[] pages = {7, 4, 1};
            touch(x, Op.LOAD, 4 * pages[order[0]] + 1, 4 * pages[order[1]] + 2);
            touch(x, Op.LOAD, 8);
            x.spawn(3, 2);
            Check.runNode(x, 2, 15);
            Check.due("right to the new page", x.right(2, 2), 1);
            for (int i = 0; i < 3; i++) {
                int page = pages[order[i]];
                Check.due("right to the page " + page + " used as number " + i, x.right(2, page), i == 2 ? 0 : 1);
            }
            Check.due("given up", x.count(3), 1);
        }
    }

    private static void everyKindOfUseCounts() {
        for (int op = Op.LOAD; op <= Op.CAS; op++) {
            Check.sentence("LOAD, STORE and CAS USE the page: op " + op);
            ClusterImage x = new ClusterImage();
            touch(x, Op.STORE, 0, 4, 8);
            touch(x, op, 0);
            touch(x, Op.LOAD, 12);
            x.spawn(3, 0);
            Check.runNode(x, 0, 13);
            Check.rights(x, 0, 2, 0, 0, 0);
            Check.rights(x, 1, 0, 0, 0, 3);
            Check.rights(x, 2, 2, 0, 0, 0);
            Check.rights(x, 3, 1, 0, 0, 0);
        }
        Check.sentence("USE the page at that node: another node's uses do not count");
        ClusterImage x = atZero();
        touch(x, Op.LOAD, 4, 8, 12);
        askAndServe(x, 0, 0);
        askAndServe(x, 0, 1);
        x.migrate(0, 1);
        x.spawn(3, 0);
        Check.runNode(x, 0, 5);
        Check.steps(x, 1, 1, 1, 1, 0);
        Check.runNode(x, 0, 3);
        Check.rights(x, 0, 0, 1, 0, 1);
    }

    /** The first node gets the page 0, then the others that are named, and the first one then asks for three more. */
    private static ClusterImage crowded(int... nodes) {
        ClusterImage x = atZero();
        touch(x, Op.LOAD, 4, 8, 12);
        for (int node : nodes) {
            askAndServe(x, 0, node);
        }
        int elsewhere = nodes[0] == 2 ? 1 : 2;
        x.migrate(0, elsewhere);
        x.spawn(3, nodes[0]);
        Check.due("owner before", x.owner(0), nodes[0]);
        Check.runNode(x, nodes[0], 8);
        Check.due("given up", x.count(3), 1);
        return x;
    }

    private static void ownerBehindGivingUp() {
        Check.sentence("if it owned that page, the lowest node that still has a right to it becomes its owner");
        Check.rights(crowded(0, 1, 2), 0, 0, 1, 1, 1);
        Check.rights(crowded(0, 2, 1), 0, 0, 1, 1, 1);
        Check.rights(crowded(1, 2, 0), 0, 1, 0, 1, 0);
        Check.rights(crowded(2, 1, 0), 0, 1, 1, 0, 0);
        Check.rights(crowded(0, 2), 0, 0, 0, 1, 2);
        Check.rights(crowded(1, 2), 0, 0, 0, 1, 2);
        Check.rights(crowded(2, 1), 0, 0, 1, 0, 1);
        Check.due("no message, for it is not HOME", crowded(0, 1).count(1), 2 * 2 + 3 * 2);
    }

    private static void homeBehindGivingUp() {
        Check.sentence("or HOME if there is none; MESSAGES: 1 if a page given up gets HOME as owner");
        for (int node = 0; node < 3; node++) {
            ClusterImage x = crowded(node);
            Check.rights(x, 0, 0, 0, 0, 3);
            Check.due("messages", x.count(1), 2 + 3 * 2 + 1);
        }
    }

    private static void notTheOwnerGivesUp() {
        Check.sentence("its right is gone, and if it owned that page: it did not");
        ClusterImage x = atZero();
        touch(x, Op.LOAD, 4, 8, 12);
        askAndServe(x, 0, 2);
        askAndServe(x, 0, 0);
        x.migrate(1, 2);
        x.spawn(3, 0);
        Check.runNode(x, 0, 8);
        Check.rights(x, 0, 0, 0, 1, 2);
        Check.counts(x, 3, 10, 5, 1, 0, 3, 5);
    }

    private static void writeTakesAll() {
        Check.sentence("(2) For WRITE all other nodes lose their rights to the page, n gets WRITE and is the owner");
        for (int n = 0; n < 3; n++) {
            ClusterImage x = atZero();
            for (int node = 0; node < 3; node++) {
                askAndServe(x, 0, node);
            }
            Check.rights(x, 0, 1, 1, 1, 0);
            x.migrate(n, (n + 1) % 3);
            askAndServe(x, 1, n);
            Check.rights(x, 0, n == 0 ? 2 : 0, n == 1 ? 2 : 0, n == 2 ? 2 : 0, n);
            Check.due("messages: the grant and two that lose", x.count(1), 6 + 3);
        }
    }

    private static void writeKeepsItsOwn() {
        Check.sentence("(2) For WRITE: n has WRITE already, and no other one has a right");
        ClusterImage x = atZero();
        ask(x, 1, 1);
        ask(x, 2, 1);
        Check.due("serve(0)", x.serve(0), 0);
        Check.due("serve(0)", x.serve(0), 1);
        Check.rights(x, 0, 0, 2, 0, 1);
        Check.counts(x, 2, 3, 2, 0, 0, 2, 2);
        Check.line(x, 1, 0, 1);
    }

    private static void readOfAWriter() {
        Check.sentence("For READ: a node that has WRITE (other than n) has READ then; n gets READ if it has no right");
        for (int writer = 0; writer < 3; writer++) {
            for (int reader = 0; reader < 3; reader++) {
                if (reader == writer) {
                    continue;
                }
                ClusterImage x = atZero();
                askAndServe(x, 1, writer);
                askAndServe(x, 0, reader);
                int third = 3 - writer - reader;
                Check.rights(x, 0, third == 0 ? 0 : 1, third == 1 ? 0 : 1, third == 2 ? 0 : 1, writer);
                Check.due("messages: nobody lost a right", x.count(1), 4);
                Check.steps(x, writer, 10);
            }
        }
    }

    private static void readWithARight() {
        Check.sentence("n gets READ if it has no right: it has READ, or WRITE");
        ClusterImage x = atZero();
        ask(x, 0, 1);
        ask(x, 0, 1);
        Check.due("serve(0)", x.serve(0), 0);
        Check.due("serve(0)", x.serve(0), 1);
        Check.rights(x, 0, 0, 1, 0, 1);
        Check.due("messages", x.count(1), 3);
        x = atZero();
        ask(x, 1, 1);
        ask(x, 0, 1);
        Check.due("serve(0)", x.serve(0), 0);
        Check.due("serve(0)", x.serve(0), 1);
        Check.rights(x, 0, 0, 2, 0, 1);
        Check.due("messages", x.count(1), 3);
    }

    private static void readOfHome() {
        Check.sentence("and it becomes the owner if that was HOME");
        for (int node = 0; node < 3; node++) {
            ClusterImage x = atZero();
            Check.due("owner(0)", x.owner(0), 3);
            askAndServe(x, 0, node);
            Check.due("owner(0)", x.owner(0), node);
            askAndServe(x, 0, (node + 1) % 3);
            Check.due("the owner stays", x.owner(0), node);
        }
        ClusterImage x = crowded(1);
        Check.due("HOME again", x.owner(0), 3);
        askAndServe(x, 0, 0);
        Check.rights(x, 0, 1, 0, 0, 0);
    }

    /** What the grant of the next request for the page 0 costs. */
    private static void cost(ClusterImage x, int process, int want) {
        int before = x.count(1);
        Check.due("serve(0)", x.serve(0), process);
        Check.due("messages of this grant", x.count(1) - before, want);
    }

    private static void messagesOfAGrant() {
        Check.sentence("MESSAGES: 1 for a grant; 1 if n had no right; 1 for each other node that loses its right");
        ClusterImage x = atZero();
        ask(x, 0, 0);
        ask(x, 1, 0);
        ask(x, 0, 0);
        ask(x, 0, 1);
        ask(x, 1, 0);
        ask(x, 1, 2);
        Check.due("faults cost none", x.count(1), 0);
        cost(x, 0, 2);
        cost(x, 1, 1);
        cost(x, 2, 1);
        cost(x, 3, 2);
        cost(x, 4, 2);
        cost(x, 5, 3);
        Check.rights(x, 0, 0, 0, 2, 2);
        x = atZero();
        ask(x, 0, 0);
        ask(x, 0, 1);
        ask(x, 1, 1);
        ask(x, 0, 2);
        ask(x, 0, 0);
        ask(x, 1, 2);
        cost(x, 0, 2);
        cost(x, 1, 2);
        cost(x, 2, 2);
        cost(x, 3, 2);
        cost(x, 4, 2);
        cost(x, 5, 3);
        mostMessages();
    }

    /** Node 2 has the pages 1, 2, 3 alone, and writes where two others read. */
    private static void mostMessages() {
        Check.sentence("MESSAGES: all of them at once");
        ClusterImage x = atZero();
        touch(x, Op.STORE, 4, 8, 12);
        x.spawn(3, 2);
        Check.runNode(x, 2, 9);
        x.migrate(0, 1);
        askAndServe(x, 0, 0);
        int p = x.spawn(0, 0);
        x.migrate(p, 1);
        Check.steps(x, 1, 30, 10 + p);
        Check.due("serve(0)", x.serve(0), p);
        Check.rights(x, 0, 1, 1, 0, 0);
        cost(x, ask(x, 1, 2), 1 + 1 + 2 + 1);
        Check.rights(x, 0, 0, 0, 2, 2);
        Check.rights(x, 1, 0, 0, 0, 3);
        Check.due("given up", x.count(3), 1);
    }

    private static void wordsOutliveTheirPages() {
        Check.sentence("The word 0 .. 31 of the memory, as the last store left it: no node has a right to it");
        ClusterImage x = Check.with(new int[][] {{0, Op.SET, 1, -77}, {0, Op.STORE, 1, 0}});
        touch(x, Op.LOAD, 4, 8, 12, 0);
        x.spawn(0, 0);
        Check.ready(x, 0, 0, 1);
        Check.faultAndServe(x, 0, 0, 0);
        Check.steps(x, 0, 0, 30);
        Check.due("copy(0, 0)", x.copy(0, 0), -77);
        x.spawn(3, 0);
        Check.runNode(x, 0, 9);
        Check.rights(x, 0, 0, 0, 0, 3);
        Check.due("word(0)", x.word(0), -77);
        Check.due("copy(0, 0)", x.copy(0, 0), ClusterImage.NONE);
        Check.ready(x, 0, 1, 1);
        Check.faultAndServe(x, 0, 1, 0);
        Check.ready(x, 0, 1, 1);
        Check.due("the next reader finds it", x.reg(1, 1), -77);
    }
}
