/** A machine with page tables, two modes and code that may change itself. */
public final class CodeCacheMachine {
    public static final int BAD = -1;
    public static final int GOING = 0;
    public static final int HALTED = 1;
    public static final int DEAD = 2;

    private static final int WORDS = 128;
    private static final int REGISTERS = 8;
    private static final int OPS = 16384;
    private static final int LEVELS = 3;
    private static final int LONGEST_RUN = 400;
    private static final int OUTPUT_SHOWN = 20;

    private static final int CAUSE_UNKNOWN = 1;
    private static final int CAUSE_FORBIDDEN = 2;
    private static final int CAUSE_UNTRANSLATED = 3;
    private static final int CAUSE_ASKED = 4;

    private final int[] memory = new int[WORDS];
    private final int[] registers = new int[REGISTERS];
    // Only the first ints of the output can ever be asked for; the rest is only counted.
    private final int[] outputShown = new int[OUTPUT_SHOWN];

    private int outputCount;
    private int executedCount;
    private int state;
    private int currentPlace;
    private boolean inner;
    private boolean paging;
    private boolean kept;
    private int table;
    private int vector;
    private int returnPlace;
    private int cause;
    private int spot;

    public CodeCacheMachine() {
        startAt(0);
    }

    public boolean poke(int p, int word) {
        if (!isPlace(p)) {
            return false;
        }
        memory[p] = word;
        return true;
    }

    public boolean code(int p, int op, int n) {
        if (!isPlace(p) || op < 0 || op >= OPS) {
            return false;
        }
        memory[p] = op | (n << 14);
        return true;
    }

    public int run(int n) {
        int steps = n > LONGEST_RUN ? LONGEST_RUN : n;
        for (int i = 0; i < steps && state == GOING; i++) {
            step();
        }
        return state;
    }

    public int executed() {
        return executedCount;
    }

    public int peek(int p) {
        return isPlace(p) ? memory[p] : 0;
    }

    public int register(int r) {
        return isRegister(r) ? registers[r] : 0;
    }

    public boolean setRegister(int r, int value) {
        if (!isRegister(r)) {
            return false;
        }
        registers[r] = value;
        return true;
    }

    public int place() {
        return currentPlace;
    }

    public int look(int k) {
        switch (k) {
            case 0: return table;
            case 1: return vector;
            case 2: return returnPlace;
            case 3: return cause;
            case 4: return spot;
            case 5: return inner ? 1 : 0;
            case 6: return paging ? 1 : 0;
            case 7: return kept ? 1 : 0;
            default: return BAD;
        }
    }

    public int translated(int p) {
        return translate(p, false);
    }

    public int printed() {
        return outputCount;
    }

    public int output(int k) {
        if (k < 0 || k >= OUTPUT_SHOWN || k >= outputCount) {
            return 0;
        }
        return outputShown[k];
    }

    public void reset(int place) {
        startAt(place);
    }

    // No answer may depend on the level, so every level works in the same, plainest way.
    public boolean level(int k) {
        return k >= 0 && k < LEVELS;
    }

    private static boolean isPlace(int p) {
        return p >= 0 && p < WORDS;
    }

    private static boolean isRegister(int r) {
        return r >= 0 && r < REGISTERS;
    }

    private void startAt(int firstPlace) {
        for (int r = 0; r < REGISTERS; r++) {
            registers[r] = 0;
        }
        outputCount = 0;
        executedCount = 0;
        state = GOING;
        currentPlace = firstPlace;
        inner = true;
        paging = false;
        kept = false;
        table = 0;
        vector = -1;
        returnPlace = 0;
        cause = 0;
        spot = 0;
    }

    /** BAD if the place can't be translated. */
    private int translate(int p, boolean writing) {
        if (!isPlace(p)) {
            return BAD;
        }
        if (!paging) {
            return p;
        }
        // TABLE may be any int, and this sum must not wrap.
        long e = (long) table + (p >> 4);
        if (e < 0 || e >= WORDS) {
            return BAD;
        }
        int entry = memory[(int) e];
        boolean readable = (entry & 1) != 0;
        boolean writable = (entry & 2) != 0;
        if (!readable || (writing && !writable)) {
            return BAD;
        }
        return (entry & 0x70) | (p & 15);
    }

    private void step() {
        executedCount++;
        int at = translate(currentPlace, false);
        if (at == BAD) {
            trapAtSpot(currentPlace);
            return;
        }
        int w = memory[at];
        int o = w & 31;
        if (o == 0) {
            state = HALTED;
        } else if (o <= 11) {
            calculate(w);
        } else if (o == 12) {
            load(w);
        } else if (o == 13) {
            store(w);
        } else if (o <= 19) {
            jump(w);
        } else if (o == 20) {
            trap(CAUSE_ASKED);
        } else if (o <= 25) {
            control(w);
        } else if (o == 26) {
            print(w);
        } else {
            trap(CAUSE_UNKNOWN);
        }
    }

    private static int partA(int w) {
        return (w >> 5) & 7;
    }

    private static int partB(int w) {
        return (w >> 8) & 7;
    }

    private static int partC(int w) {
        return (w >> 11) & 7;
    }

    private static int partN(int w) {
        return w >> 14;
    }

    private void calculate(int w) {
        int rb = registers[partB(w)];
        int rc = registers[partC(w)];
        int n = partN(w);
        int result;
        switch (w & 31) {
            case 1: result = n; break;
            case 2: result = rb; break;
            case 3: result = rb + rc; break;
            case 4: result = rb - rc; break;
            case 5: result = rb * rc; break;
            case 6: result = rb & rc; break;
            case 7: result = rb | rc; break;
            case 8: result = rb ^ rc; break;
            case 9: result = rb << (rc & 31); break;
            case 10: result = rb >>> (rc & 31); break;
            default: result = rb + n; break;
        }
        registers[partA(w)] = result;
        currentPlace++;
    }

    private void load(int w) {
        int wanted = registers[partB(w)] + partN(w);
        int at = translate(wanted, false);
        if (at == BAD) {
            trapAtSpot(wanted);
            return;
        }
        registers[partA(w)] = memory[at];
        currentPlace++;
    }

    private void store(int w) {
        int wanted = registers[partB(w)] + partN(w);
        int at = translate(wanted, true);
        if (at == BAD) {
            trapAtSpot(wanted);
            return;
        }
        memory[at] = registers[partA(w)];
        currentPlace++;
    }

    private void jump(int w) {
        int a = partA(w);
        int ra = registers[a];
        int near = currentPlace + partN(w);
        int next = currentPlace + 1;
        switch (w & 31) {
            case 14: currentPlace = ra == 0 ? near : next; break;
            case 15: currentPlace = ra != 0 ? near : next; break;
            case 16: currentPlace = ra < registers[partB(w)] ? near : next; break;
            case 17: currentPlace = near; break;
            case 18: registers[a] = next; currentPlace = near; break;
            default: currentPlace = ra; break;
        }
    }

    private void control(int w) {
        if (!inner) {
            trap(CAUSE_FORBIDDEN);
            return;
        }
        int ra = registers[partA(w)];
        switch (w & 31) {
            case 21: table = ra; currentPlace++; break;
            case 22: paging = ra != 0; currentPlace++; break;
            case 23: vector = ra; currentPlace++; break;
            case 24: leaveInner(); break;
            default: readTrap(w); break;
        }
    }

    private void leaveInner() {
        currentPlace = returnPlace;
        inner = false;
        paging = kept;
    }

    private void readTrap(int w) {
        int a = partA(w);
        switch (partN(w)) {
            case 0: registers[a] = returnPlace; currentPlace++; break;
            case 1: registers[a] = cause; currentPlace++; break;
            case 2: registers[a] = spot; currentPlace++; break;
            default: trap(CAUSE_UNKNOWN); break;
        }
    }

    private void print(int w) {
        // The count is looked at from below, too: far beyond the promised calls it wraps, and nothing may throw.
        if (outputCount >= 0 && outputCount < OUTPUT_SHOWN) {
            outputShown[outputCount] = registers[partA(w)];
        }
        outputCount++;
        currentPlace++;
    }

    private void trapAtSpot(int untranslated) {
        // SPOT is kept even if the trap kills the machine.
        spot = untranslated;
        trap(CAUSE_UNTRANSLATED);
    }

    private void trap(int why) {
        if (inner || vector < 0) {
            state = DEAD;
            return;
        }
        returnPlace = currentPlace;
        cause = why;
        kept = paging;
        paging = false;
        inner = true;
        currentPlace = vector;
    }
}
