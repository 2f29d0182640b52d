/** The document's instruction numbers by name. */
public final class Op {
    public static final int SET = 0;
    public static final int ADD = 1;
    public static final int LOAD = 2;
    public static final int STORE = 3;
    public static final int CAS = 4;
    public static final int JUMP = 5;
    public static final int FORK = 6;
    public static final int WAIT = 7;
    public static final int KILL = 8;
    public static final int EXIT = 9;
    public static final int SELF = 10;
    public static final int WHERE = 11;
    public static final int YIELD = 12;

    private Op() {
    }
}
