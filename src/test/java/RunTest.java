/** Promises 4 and 5: how many instructions a run executes, what it answers, and what is counted. */
public final class RunTest {
    public static void main(String[] args) {
        clampsTheNumber();
        stopsWhenHalted();
        stopsWhenDead();
        trapsCount();
        nothingRevivesButReset();
        countsOverAllRuns();
        longestUse();
        Due.finish();
    }

    private static CodeCacheMachine looping() {
        CodeCacheMachine x = new CodeCacheMachine();
        x.code(0, Op.of(11, 1, 1, 0), 1);
        x.code(1, Op.jump(), -1);
        return x;
    }

    private static void clampsTheNumber() {
        int[] asked = {Integer.MIN_VALUE, -1, 0, 1, 2, 399, 400, 401, 1000000, Integer.MAX_VALUE};
        int[] done = {0, 0, 0, 1, 2, 399, 400, 400, 400, 400};
        for (int i = 0; i < asked.length; i++) {
            CodeCacheMachine x = looping();
            Due.due("run(" + asked[i] + ")", x.run(asked[i]), CodeCacheMachine.GOING);
            Due.due("executed() after run(" + asked[i] + ")", x.executed(), done[i]);
            Due.due("register(1) after run(" + asked[i] + ")", x.register(1), (done[i] + 1) / 2);
            Due.due("place() after run(" + asked[i] + ")", x.place(), done[i] % 2);
        }
    }

    private static void stopsWhenHalted() {
        CodeCacheMachine x = new CodeCacheMachine();
        x.code(0, Op.set(1), 4);
        x.code(1, Op.of(Op.HALT, 1, 2, 3), 77);
        x.code(2, Op.set(1), 5);
        Due.due("run(1) before the halt", x.run(1), CodeCacheMachine.GOING);
        Due.due("run(1) of the halt", x.run(1), CodeCacheMachine.HALTED);
        Due.due("executed() counts the halt", x.executed(), 2);
        Due.due("place() stays at the halt", x.place(), 1);
        for (int n : new int[] {-1, 0, 1, 400}) {
            Due.due("run(" + n + ") when halted", x.run(n), CodeCacheMachine.HALTED);
        }
        Due.due("executed() when halted", x.executed(), 2);
        Due.due("register(1) when halted", x.register(1), 4);
    }

    private static void stopsWhenDead() {
        CodeCacheMachine x = new CodeCacheMachine();
        x.code(0, Op.set(1), 4);
        x.code(1, Op.TRAP, 0);
        Due.due("run(400) into a trap in inner mode", x.run(400), CodeCacheMachine.DEAD);
        Due.due("executed() counts the deadly trap", x.executed(), 2);
        Due.due("place() stays at the deadly trap", x.place(), 1);
        for (int n : new int[] {-1, 0, 1, 400}) {
            Due.due("run(" + n + ") when dead", x.run(n), CodeCacheMachine.DEAD);
        }
        Due.due("executed() when dead", x.executed(), 2);
    }

    private static void trapsCount() {
        CodeCacheMachine x = Machines.outer(50);
        x.code(0, Op.TRAP, 0);
        x.code(50, Op.set(1), 6);
        Due.due("run(1) of a trap", x.run(1), CodeCacheMachine.GOING);
        Due.due("executed() counts the trap", x.executed(), 4);
        Due.due("place() after the trap", x.place(), 50);
        Due.due("run(2) of the handler", x.run(2), CodeCacheMachine.HALTED);
        Due.due("executed() after the handler", x.executed(), 6);
    }

    private static void nothingRevivesButReset() {
        CodeCacheMachine x = new CodeCacheMachine();
        x.run(1);
        x.code(0, Op.set(1), 4);
        x.setRegister(2, 2);
        x.level(1);
        Due.due("run(1) after the halt was overwritten", x.run(1), CodeCacheMachine.HALTED);
        Due.due("register(1)", x.register(1), 0);
        x.reset(0);
        Due.due("run(0) after reset", x.run(0), CodeCacheMachine.GOING);
        Due.due("run(1) after reset", x.run(1), CodeCacheMachine.GOING);
        Due.due("register(1) after reset and run", x.register(1), 4);
        x.reset(-1);
        Due.due("run(1) at place -1", x.run(1), CodeCacheMachine.DEAD);
        x.reset(0);
        Due.due("run(1) after reset of a dead machine", x.run(1), CodeCacheMachine.GOING);
    }

    private static void countsOverAllRuns() {
        CodeCacheMachine x = looping();
        x.run(7);
        x.run(0);
        x.run(13);
        Due.due("executed() over three runs", x.executed(), 20);
        x.setRegister(1, 0);
        x.poke(100, 1);
        Due.due("executed() after other calls", x.executed(), 20);
        x.reset(0);
        Due.due("executed() after reset", x.executed(), 0);
        x.run(3);
        Due.due("executed() since reset", x.executed(), 3);
    }

    /** 512 calls, nearly all of them the longest run, printing at every second instruction. */
    private static void longestUse() {
        CodeCacheMachine x = new CodeCacheMachine();
        x.code(0, Op.print(1), 0);
        x.code(1, Op.jump(), -1);
        x.setRegister(1, 31);
        for (int i = 0; i < 505; i++) {
            x.run(400);
        }
        Due.due("executed() after 505 runs", x.executed(), 202000);
        Due.due("printed() after 505 runs", x.printed(), 101000);
        Due.due("output(19) after 505 runs", x.output(19), 31);
        Due.due("output(20) after 505 runs", x.output(20), 0);
    }
}
