/** Promise 4: what each instruction does when it does not trap. */
public final class InstructionTest {
    private static final int[] VALUES = {
        Integer.MIN_VALUE, -70000, -33, -32, -31, -2, -1, 0, 1, 2, 5, 31, 32, 33, 63, 65535, Integer.MAX_VALUE
    };
    private static final int[] NUMBERS = {-131072, -131071, -5, -1, 0, 1, 2, 100, 131071};

    public static void main(String[] args) {
        calculations();
        everyRegister();
        sameRegister();
        numbers();
        loadAndStore();
        storeChangesTheNextInstruction();
        conditionalJumps();
        plainJumps();
        placesWrap();
        inner21To23();
        instruction24();
        instruction25();
        instruction26();
        unusedPartsDoNotMatter();
        Due.finish();
    }

    private static CodeCacheMachine after(int op, int n, int rb, int rc) {
        CodeCacheMachine x = new CodeCacheMachine();
        x.code(10, op, n);
        x.reset(10);
        x.setRegister(1, 12345);
        x.setRegister(2, rb);
        x.setRegister(3, rc);
        Due.due("run(1) of op " + op, x.run(1), CodeCacheMachine.GOING);
        return x;
    }

    private static void calculations() {
        for (int rb : VALUES) {
            for (int rc : VALUES) {
                int shift = ((rc % 32) + 32) % 32;
                calculates(2, rb, rc, rb);
                calculates(3, rb, rc, (int) ((long) rb + rc));
                calculates(4, rb, rc, (int) ((long) rb - rc));
                calculates(5, rb, rc, (int) ((long) rb * rc));
                calculates(6, rb, rc, ~(~rb | ~rc));
                calculates(7, rb, rc, ~(~rb & ~rc));
                calculates(8, rb, rc, (rb | rc) - (rb & rc));
                calculates(9, rb, rc, (int) ((long) rb << shift));
                calculates(10, rb, rc, (int) ((rb & 0xffffffffL) >> shift));
            }
        }
    }

    private static void calculates(int o, int rb, int rc, int want) {
        String what = "instruction " + o + " with " + rb + ", " + rc + ": ";
        CodeCacheMachine x = after(Op.of(o, 1, 2, 3), 55, rb, rc);
        Due.due(what + "ra", x.register(1), want);
        Due.due(what + "rb", x.register(2), rb);
        Due.due(what + "rc", x.register(3), rc);
        Due.due(what + "place", x.place(), 11);
    }

    private static void everyRegister() {
        for (int a = 0; a < 8; a++) {
            for (int b = 0; b < 8; b++) {
                for (int c = 0; c < 8; c++) {
                    CodeCacheMachine x = new CodeCacheMachine();
                    x.code(0, Op.of(4, a, b, c), 0);
                    for (int r = 0; r < 8; r++) {
                        x.setRegister(r, 1 << (3 * r));
                    }
                    x.run(1);
                    for (int r = 0; r < 8; r++) {
                        int want = r == a ? (1 << (3 * b)) - (1 << (3 * c)) : 1 << (3 * r);
                        Due.due("r" + a + " = r" + b + " - r" + c + ": r" + r, x.register(r), want);
                    }
                }
            }
        }
    }

    private static void sameRegister() {
        CodeCacheMachine x = new CodeCacheMachine();
        x.code(0, Op.of(3, 6, 6, 6), 0);
        x.code(1, Op.of(11, 6, 6, 0), -1);
        x.code(2, Op.load(6, 6), 1);
        x.poke(42, 999);
        x.setRegister(6, 21);
        x.run(1);
        Due.due("r6 = r6 + r6", x.register(6), 42);
        x.run(1);
        Due.due("r6 = r6 - 1", x.register(6), 41);
        x.run(1);
        Due.due("r6 = the word at r6 + 1", x.register(6), 999);
    }

    private static void numbers() {
        for (int n : NUMBERS) {
            CodeCacheMachine x = after(Op.of(1, 1, 2, 3), n, 9, 9);
            Due.due("ra = " + n, x.register(1), n);
            Due.due("ra = " + n + ": place", x.place(), 11);
            for (int rb : VALUES) {
                x = after(Op.of(11, 1, 2, 3), n, rb, 9);
                Due.due("ra = " + rb + " + " + n, x.register(1), (int) ((long) rb + n));
                Due.due("ra = " + rb + " + " + n + ": place", x.place(), 11);
            }
        }
    }

    private static void loadAndStore() {
        int[] bases = {0, 127, 128, 60, -5, 131072 + 3, 300};
        int[] offsets = {127, 0, -128, 7, 5, -131072, -250};
        int[] places = {127, 127, 0, 67, 0, 3, 50};
        for (int i = 0; i < places.length; i++) {
            CodeCacheMachine x = new CodeCacheMachine();
            x.poke(places[i], 777);
            x.code(10, Op.load(1, 2), offsets[i]);
            x.code(11, Op.store(3, 2), offsets[i]);
            x.reset(10);
            x.setRegister(2, bases[i]);
            x.setRegister(3, -888);
            Due.due("run(1) of a load", x.run(1), CodeCacheMachine.GOING);
            Due.due("loaded from " + places[i], x.register(1), 777);
            Due.due("loading leaves " + places[i], x.peek(places[i]), 777);
            Due.due("run(1) of a store", x.run(1), CodeCacheMachine.GOING);
            Due.due("stored at " + places[i], x.peek(places[i]), -888);
            Due.due("storing leaves ra", x.register(3), -888);
            Due.due("place after load and store", x.place(), 12);
        }
    }

    private static void storeChangesTheNextInstruction() {
        CodeCacheMachine x = new CodeCacheMachine();
        x.code(0, Op.load(1, 0), 50);
        x.code(1, Op.store(1, 0), 2);
        x.code(2, Op.HALT, 0);
        x.code(50, Op.set(7), 70);
        Due.due("run(3) over a changed halt", x.run(3), CodeCacheMachine.GOING);
        Due.due("the new instruction was executed", x.register(7), 70);
    }

    private static void conditionalJumps() {
        for (int ra : VALUES) {
            jumps(14, ra, 0, ra == 0);
            jumps(15, ra, 0, ra != 0);
            for (int rb : VALUES) {
                jumps(16, ra, rb, (long) ra - rb < 0);
            }
        }
    }

    private static void jumps(int o, int ra, int rb, boolean far) {
        for (int n : NUMBERS) {
            CodeCacheMachine x = new CodeCacheMachine();
            x.code(10, Op.of(o, 4, 5, 0), n);
            x.reset(10);
            x.setRegister(4, ra);
            x.setRegister(5, rb);
            String what = "instruction " + o + " with " + ra + ", " + rb + ", " + n;
            Due.due(what + ": run(1)", x.run(1), CodeCacheMachine.GOING);
            Due.due(what + ": place", x.place(), far ? 10 + n : 11);
            Due.due(what + ": ra", x.register(4), ra);
            Due.due(what + ": rb", x.register(5), rb);
        }
    }

    private static void plainJumps() {
        for (int n : NUMBERS) {
            CodeCacheMachine x = after(Op.of(17, 1), n, 0, 0);
            Due.due("jump by " + n, x.place(), 10 + n);
            Due.due("jump by " + n + ": r1", x.register(1), 12345);
            x = after(Op.of(18, 1), n, 0, 0);
            Due.due("call by " + n, x.place(), 10 + n);
            Due.due("call by " + n + ": r1", x.register(1), 11);
        }
        for (int to : Machines.EDGES) {
            CodeCacheMachine x = after(Op.of(19, 2), 3, to, 0);
            Due.due("jump to " + to, x.place(), to);
            Due.due("jump to " + to + ": r2", x.register(2), to);
        }
    }

    /** Only a trap can bring a place to the int's end, and such a place can't be translated: nothing wraps there. */
    private static void placesWrap() {
        CodeCacheMachine x = new CodeCacheMachine();
        x.code(0, Op.load(1, 2), 131071);
        x.setRegister(2, Integer.MAX_VALUE);
        Due.due("load from a wrapped place", x.run(1), CodeCacheMachine.DEAD);
        Due.due("SPOT is the wrapped place", x.look(4), Integer.MIN_VALUE + 131070);
        x.reset(0);
        x.code(0, Op.store(1, 2), -1);
        x.setRegister(2, Integer.MIN_VALUE);
        Due.due("store to a wrapped place", x.run(1), CodeCacheMachine.DEAD);
        Due.due("SPOT is the wrapped place", x.look(4), Integer.MAX_VALUE);
    }

    private static void inner21To23() {
        for (int value : Machines.EDGES) {
            CodeCacheMachine x = after(Op.table(2), 9, value, 0);
            Due.due("TABLE = " + value, x.look(0), value);
            Due.due("TABLE = " + value + ": place", x.place(), 11);
            Due.due("TABLE = " + value + ": paging", x.look(6), 0);
            x = after(Op.vector(2), 9, value, 0);
            Due.due("VECTOR = " + value, x.look(1), value);
            Due.due("VECTOR = " + value + ": place", x.place(), 11);
            x = after(Op.paging(2), 9, value, 0);
            Due.due("paging by " + value, x.look(6), value != 0 ? 1 : 0);
            Due.due("paging by " + value + ": place", x.place(), 11);
            Due.due("paging by " + value + ": KEPT", x.look(7), 0);
        }
        CodeCacheMachine x = Machines.paged(64);
        x.poke(64, 1);
        x.code(2, Op.paging(0), 0);
        x.run(1);
        Due.due("paging off again", x.look(6), 0);
    }

    private static void instruction24() {
        CodeCacheMachine x = after(Op.of(Op.LEAVE, 2), 9, 77, 0);
        Due.due("left at first: place is RETURN", x.place(), 0);
        Due.due("left at first: mode", x.look(5), 0);
        Due.due("left at first: paging", x.look(6), 0);
        x = Machines.paged(64);
        x.poke(64, 1);
        x.code(2, Op.LEAVE, 0);
        Due.due("run(1) of 24 under paging", x.run(1), CodeCacheMachine.GOING);
        Due.due("24 under paging: paging as KEPT", x.look(6), 0);
        Due.due("24 under paging: mode", x.look(5), 0);
        Due.due("24 under paging: KEPT", x.look(7), 0);
    }

    /** The three numbers that a trap of cause 3 leaves, each read into another register. */
    private static void instruction25() {
        CodeCacheMachine x = Machines.outer(50);
        x.code(0, Op.jump(), 9);
        x.code(9, Op.load(1, 0), -7);
        x.code(50, Op.read(5), 0);
        x.code(51, Op.read(6), 1);
        x.code(52, Op.read(7), 2);
        Due.due("run(5)", x.run(5), CodeCacheMachine.GOING);
        Due.due("25 with 0: RETURN", x.register(5), 9);
        Due.due("25 with 1: CAUSE", x.register(6), 3);
        Due.due("25 with 2: SPOT", x.register(7), -7);
        Due.due("place after three of 25", x.place(), 53);
    }

    private static void instruction26() {
        CodeCacheMachine x = after(Op.print(2), 9, -44, 0);
        Due.due("26: printed()", x.printed(), 1);
        Due.due("26: output(0)", x.output(0), -44);
        Due.due("26: place", x.place(), 11);
        Due.due("26: ra", x.register(2), -44);
    }

    private static void unusedPartsDoNotMatter() {
        CodeCacheMachine x = new CodeCacheMachine();
        x.code(0, Op.of(17, 7, 6, 5), 3);
        x.code(3, Op.of(26, 1, 6, 5), -9);
        x.code(4, Op.of(19, 2, 7, 7), -9);
        x.code(8, Op.of(0, 7, 7, 7), -9);
        x.setRegister(2, 8);
        Due.due("run(4)", x.run(4), CodeCacheMachine.HALTED);
        Due.due("place()", x.place(), 8);
        for (int r = 0; r < 8; r++) {
            Due.due("register(" + r + ")", x.register(r), r == 2 ? 8 : 0);
        }
    }
}
