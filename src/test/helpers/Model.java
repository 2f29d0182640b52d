import java.util.ArrayDeque;
import java.util.ArrayList;
import java.util.Arrays;
import java.util.Deque;
import java.util.List;

/**
 * The document told a second time, as plainly as lists allow and without any of the program's own ways: the pages of a
 * node stand in the order of their use, and requests are records.
 */
public final class Model {
    private record Instruction(int op, int a, int b) { }

    private record Request(Task task, boolean write) { }

    private static final class Task {
        int number;
        List<Instruction> program;
        int[] r = new int[4];
        int counter;
        int place;
        String state = "";
        int slice;
        int code;
        int page = 8;
        Task awaited;
        int[] hints;
    }

    private final List<List<Instruction>> programs = new ArrayList<>();
    private final List<Task> tasks = new ArrayList<>();
    private final List<List<Task>> lines = new ArrayList<>();
    private final List<Deque<Request>> requests = new ArrayList<>();
    /** The pages that a node has a right to, the one used the longest ago first. */
    private final List<List<Integer>> held = new ArrayList<>();
    private final boolean[][] mayWrite = new boolean[3][8];
    private final int[] owners = new int[8];
    private final int[] words = new int[32];
    private int messages;
    private int faults;
    private int givenUp;
    private int grants;

    public Model() {
        for (int i = 0; i < 4; i++) {
            programs.add(new ArrayList<>());
        }
        for (int i = 0; i < 3; i++) {
            lines.add(new ArrayList<>());
            held.add(new ArrayList<>());
        }
        for (int i = 0; i < 8; i++) {
            requests.add(new ArrayDeque<>());
        }
        Arrays.fill(owners, 3);
    }

    private static boolean outside(int number, int low, int high) {
        return number < low || number > high;
    }

    public int instr(int program, int op, int a, int b) {
        if (outside(program, 0, 3) || outside(op, 0, 12) || outside(a, 0, 3)) {
            return -1;
        }
        if (op == 0 ? outside(b, -1000, 1000) : op == 5 ? outside(b, 0, 11) : outside(b, 0, 3)) {
            return -1;
        }
        if (programs.get(program).size() >= 12) {
            return -2;
        }
        programs.get(program).add(new Instruction(op, a, b));
        return programs.get(program).size();
    }

    public int spawn(int program, int node) {
        if (outside(program, 0, 3) || outside(node, 0, 2)) {
            return -1;
        }
        return tasks.size() >= 8 ? -2 : create(program, node);
    }

    private int create(int program, int node) {
        Task t = new Task();
        t.number = tasks.size();
        t.program = programs.get(program);
        t.place = node;
        t.hints = new int[] {node, node, node};
        tasks.add(t);
        enqueue(t);
        return t.number;
    }

    private void enqueue(Task t) {
        t.state = "READY";
        t.page = 8;
        t.slice = 0;
        lines.get(t.place).add(t);
    }

    private void end(Task t, int code) {
        lines.get(t.place).remove(t);
        t.state = "ENDED";
        t.page = 8;
        t.code = code;
        for (Task other : tasks) {
            if (other.state.equals("WAITING") && other.awaited == t) {
                enqueue(other);
            }
        }
    }

    private void use(int node, int page) {
        held.get(node).remove(Integer.valueOf(page));
        held.get(node).add(page);
    }

    public int step(int node) {
        if (outside(node, 0, 2)) {
            return -1;
        }
        if (lines.get(node).isEmpty()) {
            return -3;
        }
        Task t = lines.get(node).get(0);
        if (t.counter >= t.program.size()) {
            end(t, 0);
            return 30 + t.number;
        }
        Instruction i = t.program.get(t.counter);
        if (i.op >= 2 && i.op <= 4) {
            int page = address(t.r[i.b]) / 4;
            boolean allowed = i.op == 2 ? held.get(node).contains(page) : mayWrite[node][page];
            if (!allowed) {
                faults++;
                lines.get(node).remove(t);
                t.state = "BLOCKED";
                t.page = page;
                requests.get(page).addLast(new Request(t, i.op != 2));
                return 10 + t.number;
            }
            use(node, page);
        }
        execute(t, i);
        if (t.state.equals("ENDED")) {
            return 30 + t.number;
        }
        if (t.state.equals("WAITING")) {
            return 20 + t.number;
        }
        t.slice++;
        if (i.op == 12 || t.slice == 3) {
            lines.get(node).remove(t);
            enqueue(t);
        }
        return t.number;
    }

    private static int address(int value) {
        int rest = value % 32;
        return rest < 0 ? rest + 32 : rest;
    }

    private void execute(Task t, Instruction i) {
        int old = t.r[i.a];
        int b = i.b < 0 || i.b > 3 ? 0 : t.r[i.b];
        Task named = old >= 0 && old < tasks.size() && old != t.number ? tasks.get(old) : null;
        boolean ended = named != null && named.state.equals("ENDED");
        if (i.op == 5 && old != 0) {
            t.counter = i.b;
            return;
        }
        if (i.op == 7 && named != null && !ended) {
            lines.get(t.place).remove(t);
            t.state = "WAITING";
            t.awaited = named;
            return;
        }
        t.counter++;
        if (i.op == 0) {
            t.r[i.a] = i.b;
        } else if (i.op == 1) {
            t.r[i.a] = old + b;
        } else if (i.op == 2) {
            t.r[i.a] = words[address(b)];
        } else if (i.op == 3) {
            words[address(b)] = old;
        } else if (i.op == 4) {
            boolean same = words[address(b)] == t.r[3];
            words[address(b)] = same ? old : words[address(b)];
            t.r[3] = same ? 1 : 0;
        } else if (i.op == 6) {
            t.r[i.a] = tasks.size() == 8 ? -1 : create(i.b, t.place);
        } else if (i.op == 7) {
            t.r[i.a] = named == null ? -1 : named.code;
        } else if (i.op == 8) {
            t.r[i.a] = named == null || ended ? -1 : 0;
            if (named != null && !ended) {
                end(named, -9);
            }
        } else if (i.op == 9) {
            end(t, old);
        } else if (i.op == 10) {
            t.r[i.a] = t.number;
        } else if (i.op == 11) {
            t.r[i.a] = t.place;
        }
    }

    public int serve(int page) {
        if (outside(page, 0, 7)) {
            return -1;
        }
        while (!requests.get(page).isEmpty()) {
            Request q = requests.get(page).removeFirst();
            if (!q.task.state.equals("ENDED")) {
                grant(q, page);
                return q.task.number;
            }
        }
        return -3;
    }

    private void grant(Request q, int page) {
        int n = q.task.place;
        grants++;
        messages++;
        if (!held.get(n).contains(page)) {
            messages++;
            if (held.get(n).size() == 3) {
                release(n, held.get(n).get(0));
            }
        }
        for (int other = 0; other < 3; other++) {
            if (other != n) {
                mayWrite[other][page] = false;
                if (q.write && held.get(other).remove(Integer.valueOf(page))) {
                    messages++;
                }
            }
        }
        if (q.write) {
            mayWrite[n][page] = true;
            owners[page] = n;
        } else if (owners[page] == 3) {
            owners[page] = n;
        }
        use(n, page);
        enqueue(q.task);
    }

    private void release(int node, int page) {
        givenUp++;
        held.get(node).remove(Integer.valueOf(page));
        mayWrite[node][page] = false;
        if (owners[page] != node) {
            return;
        }
        owners[page] = 3;
        for (int other = 2; other >= 0; other--) {
            if (held.get(other).contains(page)) {
                owners[page] = other;
            }
        }
        if (owners[page] == 3) {
            messages++;
        }
    }

    public int migrate(int process, int node) {
        if (outside(process, 0, tasks.size() - 1) || outside(node, 0, 2)) {
            return -1;
        }
        Task t = tasks.get(process);
        if (t.state.equals("ENDED") || t.place == node) {
            return -1;
        }
        int before = t.place;
        t.hints[before] = node;
        t.hints[node] = node;
        boolean ready = lines.get(before).remove(t);
        t.place = node;
        if (ready) {
            enqueue(t);
        }
        return before;
    }

    public int find(int node, int process) {
        if (outside(node, 0, 2) || outside(process, 0, tasks.size() - 1)) {
            return -1;
        }
        Task t = tasks.get(process);
        List<Integer> way = new ArrayList<>();
        for (int at = node; at != t.place; at = t.hints[at]) {
            way.add(at);
        }
        for (int passed : way) {
            t.hints[passed] = t.place;
        }
        return way.size();
    }

    public long reg(int process, int register) {
        if (outside(process, 0, tasks.size() - 1) || outside(register, 0, 3)) {
            return 10000000000L;
        }
        return tasks.get(process).r[register];
    }

    public long info(int process, int what) {
        if (outside(process, 0, tasks.size() - 1) || outside(what, 0, 5)) {
            return 10000000000L;
        }
        Task t = tasks.get(process);
        int state = 1 + List.of("READY", "BLOCKED", "WAITING", "ENDED").indexOf(t.state);
        return new int[] {state, t.place, t.counter, t.slice, t.code, t.page}[what];
    }

    public int line(int node, int k) {
        if (outside(node, 0, 2) || k < 0) {
            return -1;
        }
        return k >= lines.get(node).size() ? 8 : lines.get(node).get(k).number;
    }

    public long word(int address) {
        return outside(address, 0, 31) ? 10000000000L : words[address];
    }

    public long copy(int node, int address) {
        if (outside(node, 0, 2) || outside(address, 0, 31)) {
            return -1;
        }
        return held.get(node).contains(address / 4) ? words[address] : 10000000000L;
    }

    public int right(int node, int page) {
        if (outside(node, 0, 2) || outside(page, 0, 7)) {
            return -1;
        }
        return mayWrite[node][page] ? 2 : held.get(node).contains(page) ? 1 : 0;
    }

    public int owner(int page) {
        return outside(page, 0, 7) ? -1 : owners[page];
    }

    public int count(int what) {
        if (outside(what, 0, 6)) {
            return -1;
        }
        int standing = requests.stream().mapToInt(Deque::size).sum();
        int ready = (int) tasks.stream().filter(t -> t.state.equals("READY")).count();
        return new int[] {tasks.size(), messages, faults, givenUp, standing, ready, grants}[what];
    }
}
