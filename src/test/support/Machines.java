import java.util.List;
import java.util.function.Supplier;

/** Machines brought into the states that several tests start from. */
final class Machines {
    static final int[] EDGES = {
        Integer.MIN_VALUE, Integer.MIN_VALUE + 1, -129, -128, -2, -1, 0, 1, 2, 7, 8, 19, 20, 127, 128, 129,
        Integer.MAX_VALUE - 1, Integer.MAX_VALUE
    };

    private Machines() {
    }

    /** The outer mode, paging off, place 0, VECTOR as given, registers 0, 3 instructions executed. */
    static CodeCacheMachine outer(int vector) {
        CodeCacheMachine x = new CodeCacheMachine();
        x.code(100, Op.vector(0), 0);
        x.code(101, Op.set(0), 0);
        x.code(102, Op.LEAVE, 0);
        x.reset(100);
        x.setRegister(0, vector);
        x.run(3);
        return x;
    }

    /** The inner mode, paging on, TABLE as given, place 2, registers 0; the table's words are the caller's to set. */
    static CodeCacheMachine paged(int table) {
        return paged(table, 0);
    }

    /** As paged(table), but at place 2 of the given page. */
    static CodeCacheMachine paged(int table, int page) {
        CodeCacheMachine x = new CodeCacheMachine();
        int start = 16 * page;
        x.code(start, Op.table(0), 0);
        x.code(start + 1, Op.paging(1), 0);
        x.reset(start);
        x.setRegister(0, table);
        x.setRegister(1, 1);
        x.run(2);
        x.setRegister(0, 0);
        x.setRegister(1, 0);
        return x;
    }

    /**
     * The inner mode, place 50, in a handler after a trap of cause 3 and, if it is asked for, a second one of cause 4.
     * No word, register or number is as at first, and a table at 64 translates every place to itself.
     */
    static CodeCacheMachine handling(boolean askedLast) {
        CodeCacheMachine x = new CodeCacheMachine();
        for (int p = 0; p < 128; p++) {
            x.poke(p, p >= 64 && p < 72 ? 3 + 16 * (p - 64) : 7000 + p);
        }
        int[] start = {Op.vector(2), Op.table(3), Op.print(4), Op.LEAVE};
        for (int i = 0; i < start.length; i++) {
            x.code(100 + i, start[i], 0);
        }
        x.code(0, Op.jump(), 5);
        x.code(5, Op.load(1, 0), 900);
        x.reset(100);
        int[] registers = {11, -12, 50, 64, -44, 15, 16, 17};
        for (int r = 0; r < registers.length; r++) {
            x.setRegister(r, registers[r]);
        }
        x.run(6);
        if (askedLast) {
            x.code(50, Op.LEAVE, 0);
            x.code(5, Op.TRAP, 0);
            x.run(2);
        }
        return x;
    }

    /** From handling: the inner mode, place 52, VECTOR as given, paging on if the given value is not 0. */
    static CodeCacheMachine busyInner(int vector, int paging) {
        CodeCacheMachine x = handling(true);
        x.code(50, Op.vector(6), 0);
        x.code(51, Op.paging(7), 0);
        x.setRegister(6, vector);
        x.setRegister(7, paging);
        x.run(2);
        return x;
    }

    /** From handling: the outer mode, place 9, RETURN 5, SPOT 911, VECTOR as given. */
    static CodeCacheMachine busyOuter(int vector, boolean askedLast) {
        CodeCacheMachine x = handling(askedLast);
        x.code(50, Op.vector(6), 0);
        x.code(51, Op.LEAVE, 0);
        x.code(5, Op.jump(), 4);
        x.setRegister(6, vector);
        x.run(3);
        return x;
    }

    /** A machine that has executed one more instruction, op, after busyInner under paging. */
    static CodeCacheMachine ended(int op) {
        CodeCacheMachine x = busyInner(50, 1);
        x.code(52, op, 0);
        x.run(1);
        return x;
    }

    /** Going in inner mode under paging, going in outer mode, halted, dead. */
    static List<Supplier<CodeCacheMachine>> busyStates() {
        return List.of(() -> busyInner(50, 1), () -> busyOuter(50, true), () -> ended(Op.HALT), () -> ended(Op.TRAP));
    }
}
