/** Machines brought into the states that several tests start from. */
final class Machines {
    static final int[] EDGES = {
        Integer.MIN_VALUE, Integer.MIN_VALUE + 1, -129, -128, -2, -1, 0, 1, 2, 7, 8, 19, 20, 127, 128, 129,
        Integer.MAX_VALUE - 1, Integer.MAX_VALUE
    };

    private Machines() {
    }

    /** The outer mode, paging off, place 0, VECTOR as given, registers 0, 3 instructions executed. */
    static CodeCacheMachine outer(int vector) {
        CodeCacheMachine x = new CodeCacheMachine();
        x.code(100, Op.vector(0), 0);
        x.code(101, Op.set(0), 0);
        x.code(102, Op.LEAVE, 0);
        x.reset(100);
        x.setRegister(0, vector);
        x.run(3);
        return x;
    }

    /** The inner mode, paging on, TABLE as given, place 2, registers 0; the table's words are the caller's to set. */
    static CodeCacheMachine paged(int table) {
        CodeCacheMachine x = new CodeCacheMachine();
        x.code(0, Op.table(0), 0);
        x.code(1, Op.paging(1), 0);
        x.setRegister(0, table);
        x.setRegister(1, 1);
        x.run(2);
        x.setRegister(0, 0);
        x.setRegister(1, 0);
        return x;
    }
}
