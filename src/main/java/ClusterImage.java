/** Three nodes that act as one machine. The document's promises say what each call does. */
public final class ClusterImage {
    public static final int REFUSED = -1;
    public static final int FULL = -2;
    public static final int IDLE = -3;
    public static final long NONE = 10000000000L;

    private static final int PROGRAMS = 4;
    private static final int PROGRAM_LIMIT = 12;
    private static final int PROCESS_LIMIT = 8;
    private static final int REGISTERS = 4;
    private static final int NODES = 3;
    private static final int HOME = 3;
    private static final int PAGES = 8;
    private static final int PAGE_WORDS = 4;
    private static final int WORDS = PAGES * PAGE_WORDS;
    private static final int HELD_LIMIT = 3;
    private static final int SLICE_LIMIT = 3;
    private static final int SET_LIMIT = 1000;

    private static final int NO_PROCESS = 8;
    private static final int NO_PAGE = 8;
    private static final int FAILED = -1;
    private static final int KILLED = -9;

    private static final int READY = 1;
    private static final int BLOCKED = 2;
    private static final int WAITING = 3;
    private static final int ENDED = 4;

    private static final int NO_RIGHT = 0;
    private static final int READ = 1;
    private static final int WRITE = 2;

    private static final int SET = 0;
    private static final int ADD = 1;
    private static final int LOAD = 2;
    private static final int STORE = 3;
    private static final int CAS = 4;
    private static final int JUMP = 5;
    private static final int FORK = 6;
    private static final int WAIT = 7;
    private static final int KILL = 8;
    private static final int EXIT = 9;
    private static final int SELF = 10;
    private static final int WHERE = 11;
    private static final int YIELD = 12;

    private static final int CAS_REGISTER = 3;

    private final Program[] programs = new Program[PROGRAMS];
    private final Proc[] processes = new Proc[PROCESS_LIMIT];
    private final Line[] lines = new Line[NODES];
    private final Page[] pages = new Page[PAGES];
    private final int[] memory = new int[WORDS];
    private int made;
    private int uses;
    private int messages;
    private int faults;
    private int givenUp;
    private int grants;

    public ClusterImage() {
        for (int i = 0; i < PROGRAMS; i++) {
            programs[i] = new Program();
        }
        for (int i = 0; i < NODES; i++) {
            lines[i] = new Line();
        }
        for (int i = 0; i < PAGES; i++) {
            pages[i] = new Page();
        }
    }

    public int instr(int program, int op, int a, int b) {
        if (!isIn(program, PROGRAMS) || !isIn(op, YIELD + 1) || !isIn(a, REGISTERS) || !fitsOp(op, b)) {
            return REFUSED;
        }
        Program target = programs[program];
        if (target.size == PROGRAM_LIMIT) {
            return FULL;
        }
        target.add(op, a, b);
        return target.size;
    }

    public int spawn(int program, int node) {
        if (!isIn(program, PROGRAMS) || !isIn(node, NODES)) {
            return REFUSED;
        }
        return made == PROCESS_LIMIT ? FULL : makeProcess(program, node);
    }

    public int step(int node) {
        if (!isIn(node, NODES)) {
            return REFUSED;
        }
        if (lines[node].size == 0) {
            return IDLE;
        }
        Proc p = processes[lines[node].items[0]];
        runFirst(p);
        // The outcomes 0 .. 3 stand in the order of the states 1 .. 4.
        return 10 * (p.state - READY) + p.number;
    }

    public int serve(int page) {
        if (!isIn(page, PAGES)) {
            return REFUSED;
        }
        Line requests = pages[page].requests;
        int standing = requests.size;
        for (int i = 0; i < standing; i++) {
            Proc p = processes[requests.items[0]];
            requests.remove(p.number);
            if (p.state != ENDED) {
                grantRequest(pages[page], p);
                return p.number;
            }
        }
        return IDLE;
    }

    public int migrate(int process, int node) {
        if (!isIn(process, made) || !isIn(node, NODES)) {
            return REFUSED;
        }
        Proc p = processes[process];
        if (p.state == ENDED || p.place == node) {
            return REFUSED;
        }
        int before = p.place;
        lines[before].remove(process);
        p.place = node;
        p.hints[before] = node;
        p.hints[node] = node;
        if (p.state == READY) {
            joinLine(p);
        }
        return before;
    }

    public int find(int node, int process) {
        if (!isIn(node, NODES) || !isIn(process, made)) {
            return REFUSED;
        }
        Proc p = processes[process];
        int at = node;
        int followed = 0;
        while (at != p.place && followed < NODES) {
            int next = p.hints[at];
            p.hints[at] = p.place;
            at = next;
            followed++;
        }
        return followed;
    }

    public long reg(int process, int register) {
        if (!isIn(process, made) || !isIn(register, REGISTERS)) {
            return NONE;
        }
        return processes[process].registers[register];
    }

    public long info(int process, int what) {
        if (!isIn(process, made)) {
            return NONE;
        }
        Proc p = processes[process];
        switch (what) {
            case 0:
                return p.state;
            case 1:
                return p.place;
            case 2:
                return p.counter;
            case 3:
                return p.slice;
            case 4:
                return p.code;
            case 5:
                return p.state == BLOCKED ? p.wantedPage : NO_PAGE;
            default:
                return NONE;
        }
    }

    public int line(int node, int k) {
        if (!isIn(node, NODES) || k < 0) {
            return REFUSED;
        }
        return k < lines[node].size ? lines[node].items[k] : NO_PROCESS;
    }

    public long word(int address) {
        return isIn(address, WORDS) ? memory[address] : NONE;
    }

    public long copy(int node, int address) {
        if (!isIn(node, NODES) || !isIn(address, WORDS)) {
            return REFUSED;
        }
        return pages[address / PAGE_WORDS].rights[node] == NO_RIGHT ? NONE : memory[address];
    }

    public int right(int node, int page) {
        return isIn(node, NODES) && isIn(page, PAGES) ? pages[page].rights[node] : REFUSED;
    }

    public int owner(int page) {
        return isIn(page, PAGES) ? pages[page].holder : REFUSED;
    }

    public int count(int what) {
        switch (what) {
            case 0:
                return made;
            case 1:
                return messages;
            case 2:
                return faults;
            case 3:
                return givenUp;
            case 4:
                return requestsStanding();
            case 5:
                return processesReady();
            case 6:
                return grants;
            default:
                return REFUSED;
        }
    }

    private static boolean isIn(int number, int limit) {
        return number >= 0 && number < limit;
    }

    private static boolean fitsOp(int op, int b) {
        if (op == SET) {
            return b >= -SET_LIMIT && b <= SET_LIMIT;
        }
        return isIn(b, op == JUMP ? PROGRAM_LIMIT : REGISTERS);
    }

    private static boolean touchesMemory(int op) {
        return op == LOAD || op == STORE || op == CAS;
    }

    private static int addressOf(int value) {
        return Math.floorMod(value, WORDS);
    }

    private int requestsStanding() {
        int sum = 0;
        for (int i = 0; i < PAGES; i++) {
            sum += pages[i].requests.size;
        }
        return sum;
    }

    // Every ready process stands in exactly one line, and no other process does.
    private int processesReady() {
        int sum = 0;
        for (int i = 0; i < NODES; i++) {
            sum += lines[i].size;
        }
        return sum;
    }

    private int makeProcess(int program, int node) {
        Proc p = new Proc(made, program, node);
        processes[made] = p;
        made++;
        joinLine(p);
        return p.number;
    }

    private void joinLine(Proc p) {
        p.state = READY;
        p.slice = 0;
        lines[p.place].append(p.number);
    }

    private void leaveLine(Proc p, int state) {
        lines[p.place].remove(p.number);
        p.state = state;
    }

    private void endProcess(Proc p, int code) {
        leaveLine(p, ENDED);
        p.code = code;
        for (int i = 0; i < made; i++) {
            Proc other = processes[i];
            if (other.state == WAITING && other.awaited == p.number) {
                joinLine(other);
            }
        }
    }

    private void runFirst(Proc p) {
        Program program = programs[p.program];
        if (p.counter >= program.size) {
            endProcess(p, 0);
            return;
        }
        int op = program.ops[p.counter];
        int a = program.as[p.counter];
        int b = program.bs[p.counter];
        if (touchesMemory(op)) {
            int page = addressOf(p.registers[b]) / PAGE_WORDS;
            int needed = op == LOAD ? READ : WRITE;
            if (pages[page].rights[p.place] < needed) {
                blockOn(p, page, needed);
                return;
            }
        }
        perform(p, op, a, b);
        if (p.state == READY) {
            spendSlice(p, op == YIELD);
        }
    }

    private void blockOn(Proc p, int page, int needed) {
        leaveLine(p, BLOCKED);
        p.wantedPage = page;
        p.wantedRight = needed;
        pages[page].requests.append(p.number);
        faults++;
    }

    private void spendSlice(Proc p, boolean yields) {
        p.slice++;
        if (yields || p.slice == SLICE_LIMIT) {
            lines[p.place].remove(p.number);
            joinLine(p);
        }
    }

    private void perform(Proc p, int op, int a, int b) {
        int[] r = p.registers;
        int next = p.counter + 1;
        switch (op) {
            case SET:
                r[a] = b;
                break;
            case ADD:
                r[a] += r[b];
                break;
            case LOAD:
            case STORE:
            case CAS:
                accessMemory(p, op, a, b);
                break;
            case JUMP:
                next = r[a] != 0 ? b : next;
                break;
            case FORK:
                r[a] = made == PROCESS_LIMIT ? FAILED : makeProcess(b, p.place);
                break;
            case WAIT:
                waitFor(p, a);
                next = p.state == WAITING ? p.counter : next;
                break;
            case KILL:
                killOther(p, a);
                break;
            case EXIT:
                endProcess(p, r[a]);
                break;
            case SELF:
                r[a] = p.number;
                break;
            case WHERE:
                r[a] = p.place;
                break;
            default:
                break;
        }
        p.counter = next;
    }

    private void accessMemory(Proc p, int op, int a, int b) {
        int[] r = p.registers;
        int address = addressOf(r[b]);
        usePage(pages[address / PAGE_WORDS], p.place);
        if (op == LOAD) {
            r[a] = memory[address];
        } else if (op == STORE) {
            memory[address] = r[a];
        } else if (memory[address] == r[CAS_REGISTER]) {
            memory[address] = r[a];
            r[CAS_REGISTER] = 1;
        } else {
            r[CAS_REGISTER] = 0;
        }
    }

    private boolean isOther(Proc p, int number) {
        return isIn(number, made) && number != p.number;
    }

    private void waitFor(Proc p, int a) {
        int number = p.registers[a];
        if (!isOther(p, number)) {
            p.registers[a] = FAILED;
        } else if (processes[number].state == ENDED) {
            p.registers[a] = processes[number].code;
        } else {
            leaveLine(p, WAITING);
            p.awaited = number;
        }
    }

    private void killOther(Proc p, int a) {
        int number = p.registers[a];
        if (!isOther(p, number) || processes[number].state == ENDED) {
            p.registers[a] = FAILED;
        } else {
            endProcess(processes[number], KILLED);
            p.registers[a] = 0;
        }
    }

    // A count of all uses tells which of two came first: no clock is needed.
    private void usePage(Page page, int node) {
        uses++;
        page.lastUse[node] = uses;
    }

    private void grantRequest(Page page, Proc p) {
        int node = p.place;
        grants++;
        messages++;
        if (page.rights[node] == NO_RIGHT) {
            messages++;
            makeRoom(node);
        }
        if (p.wantedRight == WRITE) {
            messages += page.giveWrite(node);
        } else {
            page.giveRead(node);
        }
        usePage(page, node);
        joinLine(p);
    }

    private void makeRoom(int node) {
        int held = 0;
        Page oldest = null;
        for (int i = 0; i < PAGES; i++) {
            Page page = pages[i];
            if (page.rights[node] != NO_RIGHT) {
                held++;
                if (oldest == null || page.lastUse[node] < oldest.lastUse[node]) {
                    oldest = page;
                }
            }
        }
        if (oldest != null && held == HELD_LIMIT) {
            giveUp(oldest, node);
        }
    }

    private void giveUp(Page page, int node) {
        givenUp++;
        page.rights[node] = NO_RIGHT;
        if (page.holder == node) {
            page.holder = page.lowestWithRight();
            messages += page.holder == HOME ? 1 : 0;
        }
    }

    /** The instructions of a program, one in each index below size. */
    private static final class Program {
        final int[] ops = new int[PROGRAM_LIMIT];
        final int[] as = new int[PROGRAM_LIMIT];
        final int[] bs = new int[PROGRAM_LIMIT];
        int size;

        void add(int op, int a, int b) {
            ops[size] = op;
            as[size] = a;
            bs[size] = b;
            size++;
        }
    }

    /**
     * A process. It has at most one request, since only a grant makes a blocked one ready again; so what it
     * asked for stands here, and a page's line needs its number alone.
     */
    private static final class Proc {
        final int number;
        final int program;
        final int[] registers = new int[REGISTERS];
        final int[] hints = new int[NODES];
        int place;
        int state;
        int counter;
        int slice;
        int code;
        int wantedPage;
        int wantedRight;
        int awaited;

        Proc(int number, int program, int place) {
            this.number = number;
            this.program = program;
            this.place = place;
            for (int i = 0; i < NODES; i++) {
                hints[i] = place;
            }
        }
    }

    /** Process numbers in order. None stands in a line twice, so there is room for all that can come. */
    private static final class Line {
        final int[] items = new int[PROCESS_LIMIT];
        int size;

        void append(int number) {
            if (size < PROCESS_LIMIT) {
                items[size] = number;
                size++;
            }
        }

        /** Takes the number out; a line without it stays as it is. */
        void remove(int number) {
            int kept = 0;
            for (int i = 0; i < size; i++) {
                if (items[i] != number) {
                    items[kept] = items[i];
                    kept++;
                }
            }
            size = kept;
        }
    }

    /** Who may read or write a page, who owns it, and who asks for it. */
    private static final class Page {
        final int[] rights = new int[NODES];
        final int[] lastUse = new int[NODES];
        final Line requests = new Line();
        int holder = HOME;

        /** Answers how many other nodes lost their rights. */
        int giveWrite(int node) {
            int lost = 0;
            for (int i = 0; i < NODES; i++) {
                if (i != node && rights[i] != NO_RIGHT) {
                    rights[i] = NO_RIGHT;
                    lost++;
                }
            }
            rights[node] = WRITE;
            holder = node;
            return lost;
        }

        void giveRead(int node) {
            for (int i = 0; i < NODES; i++) {
                if (i != node && rights[i] == WRITE) {
                    rights[i] = READ;
                }
            }
            if (rights[node] == NO_RIGHT) {
                rights[node] = READ;
            }
            if (holder == HOME) {
                holder = node;
            }
        }

        int lowestWithRight() {
            for (int i = 0; i < NODES; i++) {
                if (rights[i] != NO_RIGHT) {
                    return i;
                }
            }
            return HOME;
        }
    }
}
