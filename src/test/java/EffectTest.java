import java.util.LinkedHashMap;
import java.util.Map;
import java.util.function.Supplier;

/**
 * The document's list of instructions, line by line: "It does this, and then the place grows by 1, except where it says
 * otherwise". After each instruction all that the object answers is looked at, so that it does this and nothing else.
 */
public final class EffectTest {
    private static final int VECTOR = 50;

    public static void main(String[] args) {
        for (int paging = 0; paging <= 1; paging++) {
            int on = paging;
            everyMode("inner, paging " + on, () -> ready(Machines.busyInner(VECTOR, on)));
            innerAlone("inner, paging " + on, () -> ready(Machines.busyInner(VECTOR, on)));
        }
        everyMode("outer", () -> ready(Machines.busyOuter(VECTOR, true)));
        Due.finish();
    }

    /** Registers that tell the instructions apart; 7 is the one that is 0. */
    private static CodeCacheMachine ready(CodeCacheMachine x) {
        int[] values = {11, -12, 50, 64, -44, 15, 16, 0};
        for (int r = 0; r < values.length; r++) {
            x.setRegister(r, values[r]);
        }
        return x;
    }

    private static void everyMode(String mode, Supplier<CodeCacheMachine> maker) {
        halts(mode, maker);
        calculates(mode, maker);
        moves(mode, maker);
        jumps(mode, maker);
        prints(mode, maker);
    }

    /** The instruction is put where the machine stands; want holds the answers that it changes, but executed(). */
    private static void does(String what, Supplier<CodeCacheMachine> maker, int op, int n, Map<String, Integer> want) {
        CodeCacheMachine x = maker.get();
        CodeCacheMachine twin = maker.get();
        x.code(x.place(), op, n);
        twin.code(twin.place(), op, n);
        Map<String, Integer> all = Shot.of(twin);
        all.put("executed()", all.get("executed()") + 1);
        all.put("place()", all.get("place()") + 1);
        all.putAll(want);
        Due.due(what + ": run(1)", x.run(1), all.get("run(0)"));
        Shot.due(what, x, all);
    }

    /** "0 HALT: the machine has halted, the place stays" */
    private static void halts(String mode, Supplier<CodeCacheMachine> maker) {
        int place = maker.get().place();
        Map<String, Integer> want = Map.of("run(0)", CodeCacheMachine.HALTED, "place()", place);
        does(mode + ", 0", maker, Op.of(0, 1, 2, 5), 9, want);
    }

    private static void ra(String mode, Supplier<CodeCacheMachine> maker, int op, int n, int want) {
        does(mode + ", " + (op & 31), maker, op, n, Map.of("register(1)", want));
    }

    /** "1 ra = n ..." to "11 ra = rb + n", with the registers 50 and 15, and -44 where a sign matters. */
    private static void calculates(String mode, Supplier<CodeCacheMachine> maker) {
        ra(mode, maker, Op.of(1, 1, 2, 5), -9, -9);
        ra(mode, maker, Op.of(2, 1, 2, 5), -9, 50);
        ra(mode, maker, Op.of(3, 1, 2, 5), -9, 65);
        ra(mode, maker, Op.of(4, 1, 2, 5), -9, 35);
        ra(mode, maker, Op.of(5, 1, 2, 5), -9, 750);
        ra(mode, maker, Op.of(6, 1, 2, 5), -9, 2);
        ra(mode, maker, Op.of(7, 1, 2, 5), -9, 63);
        ra(mode, maker, Op.of(8, 1, 2, 5), -9, 61);
        ra(mode, maker, Op.of(9, 1, 2, 5), -9, 1638400);
        ra(mode, maker, Op.of(10, 1, 4, 5), -9, 131071);
        ra(mode, maker, Op.of(11, 1, 2, 5), -9, 41);
    }

    /** "12 ra = the word at the translated place rb + n      13 the word at the place rb + n ... becomes ra" */
    private static void moves(String mode, Supplier<CodeCacheMachine> maker) {
        ra(mode, maker, Op.of(12, 1, 2, 5), 30, 7080);
        does(mode + ", 13", maker, Op.of(13, 4, 2, 5), 30, Map.of("peek(80)", -44));
    }

    /** "14 if ra = 0 the place grows by n instead ..." to "19 the place becomes ra" */
    private static void jumps(String mode, Supplier<CodeCacheMachine> maker) {
        int place = maker.get().place();
        Map<String, Integer> far = Map.of("place()", place - 7);
        Map<String, Integer> near = Map.of("place()", place + 1);
        does(mode + ", 14 with 0", maker, Op.of(14, 7, 1, 1), -7, far);
        does(mode + ", 14 with -12", maker, Op.of(14, 1, 7, 7), -7, near);
        does(mode + ", 15 with -12", maker, Op.of(15, 1, 7, 7), -7, far);
        does(mode + ", 15 with 0", maker, Op.of(15, 7, 1, 1), -7, near);
        does(mode + ", 16 with -12 and 50", maker, Op.of(16, 1, 2, 1), -7, far);
        does(mode + ", 16 with 50 and -12", maker, Op.of(16, 2, 1, 2), -7, near);
        does(mode + ", 17", maker, Op.of(17, 1, 2, 5), -7, far);
        does(mode + ", 18", maker, Op.of(18, 1, 2, 5), -7, Map.of("place()", place - 7, "register(1)", place + 1));
        does(mode + ", 19", maker, Op.of(19, 3, 2, 5), -7, Map.of("place()", 64));
    }

    /** "26 ra is added to the output", in which one int stands already. */
    private static void prints(String mode, Supplier<CodeCacheMachine> maker) {
        Due.due(mode + ": printed() before", maker.get().printed(), 1);
        does(mode + ", 26", maker, Op.of(26, 2, 1, 5), -7, Map.of("printed()", 2, "output(1)", 50));
    }

    /** "21 TABLE = ra      22 paging is on if ra is not 0, else off      23 VECTOR = ra      24 ...      25 ..." */
    private static void innerAlone(String mode, Supplier<CodeCacheMachine> maker) {
        boolean paged = maker.get().look(6) == 1;
        does(mode + ", 21", maker, Op.of(21, 1, 2, 5), -9, tableMinus12(paged));
        does(mode + ", 22 with -12", maker, Op.of(22, 1, 7, 7), -9, Map.of("look(6)", 1));
        does(mode + ", 22 with 0", maker, Op.of(22, 7, 1, 1), -9, Map.of("look(6)", 0));
        does(mode + ", 23", maker, Op.of(23, 4, 2, 5), -9, Map.of("look(1)", -44));
        does(mode + ", 24", maker, Op.of(24, 1, 2, 5), -9, Map.of("place()", 5, "look(5)", 0, "look(6)", 0));
        int[] numbers = {5, 4, 911};
        for (int n = 0; n <= 2; n++) {
            ra(mode, maker, Op.of(25, 1, 2, 5), n, numbers[n]);
        }
    }

    /** With this TABLE no entry is a place, which shows at once if paging is on. */
    private static Map<String, Integer> tableMinus12(boolean paged) {
        Map<String, Integer> want = new LinkedHashMap<>();
        want.put("look(0)", -12);
        for (int p = 0; paged && p < 128; p++) {
            want.put("translated(" + p + ")", CodeCacheMachine.BAD);
        }
        return want;
    }
}
