import java.util.Map;
import java.util.function.Supplier;

/** The boundary cases of promises 1 to 3, 6 to 8, 10, 12, 13 and 15, each in a test of its own. */
public final class CallEdgesTest {
    private static final int LEAST = Integer.MIN_VALUE;
    private static final int GREATEST = Integer.MAX_VALUE;
    private static final int[] INSIDE_MEMORY = {0, 127};
    private static final int[] OUTSIDE_MEMORY = {LEAST, -1, 128, GREATEST};
    private static final int[] OUTSIDE_REGISTERS = {LEAST, -1, 8, GREATEST};

    public static void main(String[] args) {
        promise1NewObject();
        promise2PokeInside();
        promise2PokeRefused();
        promise3CodeInside();
        promise3CodeRefusedForPlace();
        promise3CodeRefusedForOp();
        promise3NumberIsCut();
        promise6PeekOutside();
        promise7RegisterOutside();
        promise8SetRegisterInside();
        promise8SetRegisterRefused();
        promise10LookOutside();
        promise12EmptyOutput();
        promise13EmptyOutput();
        promise12CountsBeyondWhatIsShown();
        promise13OutputUpTo19();
        promise15LevelInside();
        promise15LevelRefused();
        Due.finish();
    }

    /** "As said above; the output is empty.": "all numbers are 0, but VECTOR is -1; the mode is inner, paging and KEPT are off" */
    private static void promise1NewObject() {
        Map<String, Integer> shot = Shot.of(new CodeCacheMachine());
        for (String call : shot.keySet()) {
            int want = call.equals("look(1)") ? -1 : call.equals("look(5)") ? 1 : 0;
            if (call.startsWith("translated")) {
                want = Integer.parseInt(call.substring(11, call.length() - 1));
            }
            Due.due("new: " + call, shot.get(call), want);
        }
    }

    /** An accepted call changes one word, register or nothing, and nothing else. */
    private static void changesOnly(String what, Map<String, Integer> before, CodeCacheMachine x, String call, int value) {
        before.put(call, value);
        Shot.due(what, x, before);
    }

    /** "Sets a memory word. ... Else true." */
    private static void promise2PokeInside() {
        for (Supplier<CodeCacheMachine> maker : Machines.busyStates()) {
            for (int p : INSIDE_MEMORY) {
                for (int word : new int[] {LEAST, 0, GREATEST}) {
                    CodeCacheMachine x = maker.get();
                    String what = "poke(" + p + ", " + word + ")";
                    Due.due(what, x.poke(p, word), true);
                    changesOnly(what, Shot.of(maker.get()), x, "peek(" + p + ")", word);
                }
            }
        }
    }

    /** "p outside 0..127: refused, answers false." */
    private static void promise2PokeRefused() {
        for (Supplier<CodeCacheMachine> maker : Machines.busyStates()) {
            for (int p : OUTSIDE_MEMORY) {
                String what = "poke(" + p + ", 9)";
                Shot.changesNothing(what, maker, x -> Due.due(what, x.poke(p, 9), false));
            }
        }
    }

    /** "op = o + 32 * a + 256 * b + 2048 * c (0 to 16383)" and "Else true." */
    private static void promise3CodeInside() {
        for (Supplier<CodeCacheMachine> maker : Machines.busyStates()) {
            for (int p : INSIDE_MEMORY) {
                for (int op : new int[] {0, 16383}) {
                    CodeCacheMachine x = maker.get();
                    String what = "code(" + p + ", " + op + ", 1)";
                    Due.due(what, x.code(p, op, 1), true);
                    changesOnly(what, Shot.of(maker.get()), x, "peek(" + p + ")", op + 16384);
                }
            }
        }
    }

    /** "p outside 0..127 ...: refused, answers false." */
    private static void promise3CodeRefusedForPlace() {
        for (Supplier<CodeCacheMachine> maker : Machines.busyStates()) {
            for (int p : OUTSIDE_MEMORY) {
                for (int op : new int[] {-1, 0, 16383, 16384}) {
                    codeRefused(maker, p, op);
                }
            }
        }
    }

    /** "... or op outside 0..16383: refused, answers false." */
    private static void promise3CodeRefusedForOp() {
        for (Supplier<CodeCacheMachine> maker : Machines.busyStates()) {
            for (int op : new int[] {LEAST, -1, 16384, GREATEST}) {
                for (int p : INSIDE_MEMORY) {
                    codeRefused(maker, p, op);
                }
            }
        }
    }

    private static void codeRefused(Supplier<CodeCacheMachine> maker, int p, int op) {
        String what = "code(" + p + ", " + op + ", 3)";
        Shot.changesNothing(what, maker, x -> Due.due(what, x.code(p, op, 3), false));
    }

    /** "n cut to 18 bits": rows: n and the n that the word holds. */
    private static void promise3NumberIsCut() {
        int[][] rows = {
            {0, 0}, {-1, -1}, {131071, 131071}, {131072, -131072}, {131073, -131071}, {-131072, -131072},
            {-131073, 131071}, {262143, -1}, {262144, 0}, {262145, 1}, {-262143, 1}, {-262144, 0}, {-262145, -1},
            {LEAST, 0}, {LEAST + 1, 1}, {GREATEST, -1}, {GREATEST - 1, -2}
        };
        CodeCacheMachine x = new CodeCacheMachine();
        for (int[] row : rows) {
            for (int op : new int[] {0, Op.set(1), 16383}) {
                String what = "code(9, " + op + ", " + row[0] + ")";
                Due.due(what, x.code(9, op, row[0]), true);
                Due.due(what + ": peek(9)", x.peek(9), op + row[1] * 16384);
            }
        }
    }

    /** "0 for p outside 0..127", where no word of the memory is 0. */
    private static void promise6PeekOutside() {
        CodeCacheMachine x = new CodeCacheMachine();
        for (int p = 0; p < 128; p++) {
            x.poke(p, 500 + p);
        }
        Due.due("peek(0)", x.peek(0), 500);
        Due.due("peek(127)", x.peek(127), 627);
        for (int p : OUTSIDE_MEMORY) {
            Due.due("peek(" + p + ")", x.peek(p), 0);
        }
    }

    /** "0 for r outside 0..7", where no register is 0. */
    private static void promise7RegisterOutside() {
        CodeCacheMachine x = new CodeCacheMachine();
        for (int r = 0; r < 8; r++) {
            x.setRegister(r, 500 + r);
        }
        Due.due("register(0)", x.register(0), 500);
        Due.due("register(7)", x.register(7), 507);
        for (int r : OUTSIDE_REGISTERS) {
            Due.due("register(" + r + ")", x.register(r), 0);
        }
    }

    /** "Sets a register. ... Else true." */
    private static void promise8SetRegisterInside() {
        for (Supplier<CodeCacheMachine> maker : Machines.busyStates()) {
            for (int r : new int[] {0, 7}) {
                for (int value : new int[] {LEAST, 0, GREATEST}) {
                    CodeCacheMachine x = maker.get();
                    String what = "setRegister(" + r + ", " + value + ")";
                    Due.due(what, x.setRegister(r, value), true);
                    changesOnly(what, Shot.of(maker.get()), x, "register(" + r + ")", value);
                }
            }
        }
    }

    /** "r outside 0..7: refused, answers false." */
    private static void promise8SetRegisterRefused() {
        for (Supplier<CodeCacheMachine> maker : Machines.busyStates()) {
            for (int r : OUTSIDE_REGISTERS) {
                String what = "setRegister(" + r + ", 9)";
                Shot.changesNothing(what, maker, x -> Due.due(what, x.setRegister(r, 9), false));
            }
        }
    }

    /** "TABLE ... for k from 0 to 4; 5 ... 7: 1 if KEPT is on, else 0; BAD for another k." */
    private static void promise10LookOutside() {
        int[][] seen = {{64, 50, 5, 4, 911, 1, 1, 0}, {64, 50, 5, 4, 911, 0, 0, 0}};
        for (int i = 0; i < seen.length; i++) {
            CodeCacheMachine x = Machines.busyStates().get(i).get();
            for (int k = 0; k < 8; k++) {
                Due.due("look(" + k + ")", x.look(k), seen[i][k]);
            }
            for (int k : new int[] {LEAST, -1, 8, GREATEST}) {
                Due.due("look(" + k + ")", x.look(k), CodeCacheMachine.BAD);
            }
        }
    }

    /** A machine that has printed 1001, 1002, ... */
    private static CodeCacheMachine printedSoFar(int count) {
        CodeCacheMachine x = new CodeCacheMachine();
        x.code(0, Op.of(11, 1, 1, 0), 1);
        x.code(1, Op.print(1), 0);
        x.code(2, Op.jump(), -2);
        x.setRegister(1, 1000);
        for (int left = count; left > 0; left -= 100) {
            x.run(3 * Math.min(left, 100));
        }
        return x;
    }

    /** Empty from the beginning, and emptied by a reset after one int and after more than are shown. */
    private static CodeCacheMachine[] empty() {
        CodeCacheMachine[] machines = {new CodeCacheMachine(), printedSoFar(1), printedSoFar(21)};
        machines[1].reset(0);
        machines[2].reset(0);
        return machines;
    }

    /** "The number of ints in the output.", of one that is empty. */
    private static void promise12EmptyOutput() {
        for (CodeCacheMachine x : empty()) {
            Due.due("empty: printed()", x.printed(), 0);
        }
    }

    /** "0 if there is none", of an output that is empty. */
    private static void promise13EmptyOutput() {
        for (CodeCacheMachine x : empty()) {
            for (int k : new int[] {LEAST, -1, 0, 1, 19, 20, GREATEST}) {
                Due.due("empty: output(" + k + ")", x.output(k), 0);
            }
        }
    }

    /** "The number of ints in the output.", also of those that output() doesn't tell. */
    private static void promise12CountsBeyondWhatIsShown() {
        for (int count : new int[] {1, 19, 20, 21, 22, 400, 10000}) {
            Due.due("printed()", printedSoFar(count).printed(), count);
        }
    }

    /** "0 if there is none, or k is above 19", and the first 20 stay when the output grows. */
    private static void promise13OutputUpTo19() {
        for (int count : new int[] {1, 2, 19, 20, 21, 22, 40, 10000}) {
            CodeCacheMachine x = printedSoFar(count);
            int shown = Math.min(count, 20);
            for (int k = 0; k < shown; k++) {
                Due.due(count + " printed: output(" + k + ")", x.output(k), 1001 + k);
            }
            for (int k : new int[] {LEAST, -1, shown, 20, 21, count, GREATEST}) {
                int want = k > 0 && k < shown ? 1001 + k : 0;
                Due.due(count + " printed: output(" + k + ")", x.output(k), want);
            }
        }
    }

    /** "Else true. It shows in no answer." */
    private static void promise15LevelInside() {
        for (Supplier<CodeCacheMachine> maker : Machines.busyStates()) {
            for (int k : new int[] {0, 1, 2}) {
                String what = "level(" + k + ")";
                Shot.changesNothing(what, maker, x -> Due.due(what, x.level(k), true));
            }
        }
    }

    /** "k outside 0..2: refused, answers false." */
    private static void promise15LevelRefused() {
        for (Supplier<CodeCacheMachine> maker : Machines.busyStates()) {
            for (int k : new int[] {LEAST, -1, 3, GREATEST}) {
                String what = "level(" + k + ")";
                Shot.changesNothing(what, maker, x -> Due.due(what, x.level(k), false));
            }
        }
    }
}
