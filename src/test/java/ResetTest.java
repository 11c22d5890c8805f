/** Promise 14: reset. */
public final class ResetTest {
    public static void main(String[] args) {
        resetsAllButTheMemory();
        oldOutputDoesNotComeBack();
        anyPlace();
        Due.finish();
    }

    /** Brings every number that can leave its first value away from it, then resets. */
    private static void resetsAllButTheMemory() {
        CodeCacheMachine x = Machines.outer(50);
        x.code(0, Op.jump(), 7);
        x.code(7, Op.load(1, 0), 900);
        x.code(50, Op.print(5), 0);
        x.code(51, Op.table(5), 0);
        x.code(52, Op.paging(5), 0);
        x.poke(64 + 3, 1 + 16 * 3);
        for (int r = 1; r < 8; r++) {
            x.setRegister(r, 64);
        }
        Due.due("before: run(5)", x.run(5), CodeCacheMachine.GOING);
        x.setRegister(0, 64);
        int[] before = {64, 50, 7, 3, 900, 1, 1, 0};
        for (int k = 0; k < 8; k++) {
            Due.due("before: look(" + k + ")", x.look(k), before[k]);
        }
        int[] memory = new int[128];
        for (int p = 0; p < 128; p++) {
            memory[p] = x.peek(p);
        }
        x.reset(33);
        asAtFirst(x, 33);
        for (int p = 0; p < 128; p++) {
            Due.due("reset: peek(" + p + ")", x.peek(p), memory[p]);
        }
    }

    private static void asAtFirst(CodeCacheMachine x, int place) {
        int[] first = {0, -1, 0, 0, 0, 1, 0, 0};
        for (int k = 0; k < 8; k++) {
            Due.due("reset: look(" + k + ")", x.look(k), first[k]);
        }
        for (int r = 0; r < 8; r++) {
            Due.due("reset: register(" + r + ")", x.register(r), 0);
        }
        Due.due("reset: place()", x.place(), place);
        Due.due("reset: executed()", x.executed(), 0);
        Due.due("reset: printed()", x.printed(), 0);
        Due.due("reset: output(0)", x.output(0), 0);
        Due.due("reset: run(0)", x.run(0), CodeCacheMachine.GOING);
    }

    private static void oldOutputDoesNotComeBack() {
        CodeCacheMachine x = new CodeCacheMachine();
        x.code(0, Op.print(1), 0);
        x.code(1, Op.jump(), -1);
        x.setRegister(1, 5);
        x.run(80);
        x.reset(0);
        x.setRegister(1, 6);
        x.run(4);
        Due.due("new output: printed()", x.printed(), 2);
        Due.due("new output: output(0)", x.output(0), 6);
        Due.due("new output: output(1)", x.output(1), 6);
        Due.due("new output: output(2)", x.output(2), 0);
    }

    /** From outer mode, from a halt and from death. */
    private static void anyPlace() {
        for (int place : Machines.EDGES) {
            CodeCacheMachine x = Machines.outer(50);
            x.reset(place);
            asAtFirst(x, place);
            x.reset(126);
            Due.due("run(1) into a halt", x.run(1), CodeCacheMachine.HALTED);
            x.reset(place);
            asAtFirst(x, place);
            x.reset(-1);
            Due.due("run(1) into death", x.run(1), CodeCacheMachine.DEAD);
            x.reset(place);
            asAtFirst(x, place);
        }
    }
}
