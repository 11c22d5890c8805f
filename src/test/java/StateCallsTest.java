/** Promises 1, 2, 3, 6, 7, 8, 9, 10 and 15: the calls that set and tell the state without a run. */
public final class StateCallsTest {
    public static void main(String[] args) {
        promise1NewObject();
        promise1ObjectsAreApart();
        promise2Poke();
        promise3Code();
        promise3CodeRefuses();
        promise6Peek();
        promise7And8Registers();
        promise9Place();
        promise10Look();
        promise10LookTellsEachApart();
        promise15Level();
        promise15LevelChangesNothing();
        Due.finish();
    }

    private static void promise1NewObject() {
        CodeCacheMachine x = new CodeCacheMachine();
        int[] first = {0, -1, 0, 0, 0, 1, 0, 0};
        for (int k = 0; k < 8; k++) {
            Due.due("new: look(" + k + ")", x.look(k), first[k]);
        }
        for (int p = 0; p < 128; p++) {
            Due.due("new: peek(" + p + ")", x.peek(p), 0);
            Due.due("new: translated(" + p + ")", x.translated(p), p);
        }
        for (int r = 0; r < 8; r++) {
            Due.due("new: register(" + r + ")", x.register(r), 0);
        }
        Due.due("new: place()", x.place(), 0);
        Due.due("new: printed()", x.printed(), 0);
        Due.due("new: output(0)", x.output(0), 0);
        Due.due("new: executed()", x.executed(), 0);
        Due.due("new: run(0)", x.run(0), CodeCacheMachine.GOING);
    }

    private static void promise1ObjectsAreApart() {
        CodeCacheMachine x = new CodeCacheMachine();
        CodeCacheMachine y = new CodeCacheMachine();
        x.poke(5, 1);
        x.setRegister(5, 1);
        x.reset(9);
        Due.due("other object: peek(5)", y.peek(5), 0);
        Due.due("other object: register(5)", y.register(5), 0);
        Due.due("other object: place()", y.place(), 0);
    }

    private static void promise2Poke() {
        CodeCacheMachine x = new CodeCacheMachine();
        for (int p : new int[] {0, 1, 64, 126, 127}) {
            for (int word : Machines.EDGES) {
                Due.due("poke(" + p + ", " + word + ")", x.poke(p, word), true);
                Due.due("peek(" + p + ")", x.peek(p), word);
            }
            x.poke(p, 0);
        }
        for (int p : Machines.EDGES) {
            if (p < 0 || p > 127) {
                Due.due("poke(" + p + ", 3)", x.poke(p, 3), false);
            }
        }
        for (int p = 0; p < 128; p++) {
            Due.due("after refused pokes: peek(" + p + ")", x.peek(p), 0);
        }
    }

    private static void promise3Code() {
        CodeCacheMachine x = new CodeCacheMachine();
        codeGives(x, 0, 0, 0, 0);
        codeGives(x, 127, 16383, 0, 16383);
        codeGives(x, 5, 0, 1, 16384);
        codeGives(x, 5, 33, 10, 33 + 10 * 16384);
        codeGives(x, 5, 16383, -1, -1);
        codeGives(x, 5, 1, -1, -16383);
        codeGives(x, 5, 7, 131071, 7 + 131071 * 16384);
        codeGives(x, 5, 7, 131072, Integer.MIN_VALUE + 7);
        codeGives(x, 5, 7, -131072, Integer.MIN_VALUE + 7);
        codeGives(x, 5, 7, 262143, 7 - 16384);
        codeGives(x, 5, 7, 262144, 7);
        codeGives(x, 5, 7, 262145, 7 + 16384);
        codeGives(x, 5, 7, -262145, 7 - 16384);
        codeGives(x, 5, 7, Integer.MAX_VALUE, 7 - 16384);
        codeGives(x, 5, 7, Integer.MIN_VALUE, 7);
    }

    private static void codeGives(CodeCacheMachine x, int p, int op, int n, int word) {
        String call = "code(" + p + ", " + op + ", " + n + ")";
        Due.due(call, x.code(p, op, n), true);
        Due.due("peek after " + call, x.peek(p), word);
    }

    private static void promise3CodeRefuses() {
        CodeCacheMachine x = new CodeCacheMachine();
        for (int p : Machines.EDGES) {
            if (p < 0 || p > 127) {
                Due.due("code(" + p + ", 1, 1)", x.code(p, 1, 1), false);
            }
        }
        for (int op : new int[] {-1, -32, 16384, 16385, 65536, Integer.MIN_VALUE, Integer.MAX_VALUE}) {
            Due.due("code(3, " + op + ", 1)", x.code(3, op, 1), false);
        }
        for (int p = 0; p < 128; p++) {
            Due.due("after refused codes: peek(" + p + ")", x.peek(p), 0);
        }
    }

    private static void promise6Peek() {
        CodeCacheMachine x = new CodeCacheMachine();
        for (int p = 0; p < 128; p++) {
            x.poke(p, 1000 + p);
        }
        for (int p = 0; p < 128; p++) {
            Due.due("peek(" + p + ")", x.peek(p), 1000 + p);
        }
        for (int p : Machines.EDGES) {
            if (p < 0 || p > 127) {
                Due.due("peek(" + p + ")", x.peek(p), 0);
            }
        }
    }

    private static void promise7And8Registers() {
        CodeCacheMachine x = new CodeCacheMachine();
        for (int r = 0; r < 8; r++) {
            for (int value : Machines.EDGES) {
                Due.due("setRegister(" + r + ", " + value + ")", x.setRegister(r, value), true);
                Due.due("register(" + r + ")", x.register(r), value);
            }
            x.setRegister(r, 50 + r);
        }
        for (int r : Machines.EDGES) {
            if (r < 0 || r > 7) {
                Due.due("setRegister(" + r + ", 9)", x.setRegister(r, 9), false);
                Due.due("register(" + r + ")", x.register(r), 0);
            }
        }
        for (int r = 0; r < 8; r++) {
            Due.due("register(" + r + ")", x.register(r), 50 + r);
        }
    }

    private static void promise9Place() {
        CodeCacheMachine x = new CodeCacheMachine();
        for (int p : Machines.EDGES) {
            x.reset(p);
            Due.due("place() after reset(" + p + ")", x.place(), p);
        }
        x.reset(30);
        x.code(30, Op.set(1), 1);
        x.run(1);
        Due.due("place() after one instruction at 30", x.place(), 31);
    }

    private static void promise10Look() {
        CodeCacheMachine x = new CodeCacheMachine();
        for (int k : new int[] {Integer.MIN_VALUE, -8, -1, 8, 9, 128, Integer.MAX_VALUE}) {
            Due.due("look(" + k + ")", x.look(k), CodeCacheMachine.BAD);
        }
    }

    /** Every one of the eight has another value than at first, and each number another than the others. */
    private static void promise10LookTellsEachApart() {
        CodeCacheMachine x = new CodeCacheMachine();
        x.code(0, Op.table(1), 0);
        x.code(1, Op.vector(2), 0);
        x.code(2, Op.LEAVE, 0);
        x.code(40, Op.paging(3), 0);
        x.poke(112, 1);
        x.poke(114, 2 * 16 + 1);
        x.setRegister(1, 112);
        x.setRegister(2, 40);
        x.setRegister(3, 1);
        x.run(3);
        x.code(0, Op.load(4, 5), 0);
        x.setRegister(5, 500);
        x.run(1);
        looks(x, "trap from outer, unpaged", new int[] {112, 40, 0, 3, 500, 1, 0, 0});
        x.run(1);
        looks(x, "paging put on by the handler", new int[] {112, 40, 0, 3, 500, 1, 1, 0});
        x.code(41, Op.LEAVE, 0);
        x.run(1);
        looks(x, "left to outer, paging as KEPT", new int[] {112, 40, 0, 3, 500, 0, 0, 0});
    }

    private static void looks(CodeCacheMachine x, String when, int[] want) {
        for (int k = 0; k < want.length; k++) {
            Due.due(when + ": look(" + k + ")", x.look(k), want[k]);
        }
    }

    private static void promise15Level() {
        CodeCacheMachine x = new CodeCacheMachine();
        for (int k = 0; k <= 2; k++) {
            Due.due("level(" + k + ")", x.level(k), true);
        }
        for (int k : new int[] {Integer.MIN_VALUE, -2, -1, 3, 4, 128, Integer.MAX_VALUE}) {
            Due.due("level(" + k + ")", x.level(k), false);
        }
    }

    /** Code that rewrites the instruction behind it runs alike at every level, also if the level changes on the way. */
    private static void promise15LevelChangesNothing() {
        for (int before = -1; before <= 3; before++) {
            for (int between = -1; between <= 3; between++) {
                CodeCacheMachine x = new CodeCacheMachine();
                String levels = "levels " + before + ", " + between + ": ";
                x.code(0, Op.load(4, 0), 3);
                x.code(1, Op.of(3, 4, 4, 5), 0);
                x.code(2, Op.store(4, 0), 3);
                x.code(3, Op.set(1), 7);
                x.code(4, Op.print(1), 0);
                x.code(5, Op.jump(), -5);
                x.setRegister(5, 16384);
                x.level(before);
                Due.due(levels + "run(9)", x.run(9), CodeCacheMachine.GOING);
                x.level(between);
                Due.due(levels + "run(9)", x.run(9), CodeCacheMachine.GOING);
                x.level(before);
                Due.due(levels + "executed()", x.executed(), 18);
                Due.due(levels + "place()", x.place(), 0);
                Due.due(levels + "printed()", x.printed(), 3);
                for (int k = 0; k < 3; k++) {
                    Due.due(levels + "output(" + k + ")", x.output(k), 8 + k);
                }
            }
        }
    }
}
