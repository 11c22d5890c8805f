/** All promises: long mixed runs of calls on the class and on the model, which must answer alike. */
public final class ModelTest {
    private static final int OBJECTS = 3000;
    private static final int CALLS = 512;
    private static final int COMPARED = 32;
    private static final int STARTED = 9;
    private static final int[] SPECIAL = {64, 96, 0, 112, 127, 128, -1, Integer.MAX_VALUE, Integer.MIN_VALUE};

    // How often the runs came to what is worth comparing: without these the test might pass for doing nothing.
    private static final int[] seenStates = new int[3];
    private static final int[] seenCauses = new int[5];
    private static int seenOuter = 0;
    private static int seenPaged = 0;
    private static int seenFullOutput = 0;

    private static long seed;

    public static void main(String[] args) {
        for (int i = 0; i < OBJECTS; i++) {
            seed = 77777L + i;
            useOne(i);
        }
        for (int state = 0; state < 3; state++) {
            Due.due("state " + state + " was seen often", seenStates[state] > 1000, true);
        }
        for (int cause = 1; cause <= 4; cause++) {
            Due.due("cause " + cause + " was seen often", seenCauses[cause] > 1000, true);
        }
        Due.due("outer mode was seen often", seenOuter > 1000, true);
        Due.due("paging was seen often", seenPaged > 1000, true);
        Due.due("more output than is shown was seen often", seenFullOutput > 1000, true);
        Due.finish();
    }

    /** A fixed row of numbers that looks mixed: the same at every run of the test. */
    private static int mixed(int below) {
        seed = seed * 6364136223846793005L + 1442695040888963407L;
        return (int) ((seed >>> 33) % below);
    }

    private static int number() {
        switch (mixed(6)) {
            case 0: return SPECIAL[mixed(SPECIAL.length)];
            case 1: return mixed(140) - 6;
            case 2: return mixed(1 << 30) * 4 + mixed(4);
            default: return mixed(8) - 2;
        }
    }

    private static int offset() {
        return mixed(8) == 0 ? mixed(1 << 20) - (1 << 19) : mixed(13) - 5;
    }

    private static int instruction() {
        int o = mixed(32);
        switch (mixed(6)) {
            case 0: o = 12 + mixed(2); break;
            case 1: o = 14 + mixed(6); break;
            case 2: o = 26; break;
            case 3: o = mixed(3) == 0 ? Op.TRAP : o; break;
            default: o = 1 + mixed(11); break;
        }
        return Op.of(o, mixed(8), mixed(8), mixed(8));
    }

    /** Every object is used for all the calls that the document allows, and its last answers are compared, too. */
    private static void useOne(int object) {
        CodeCacheMachine x = new CodeCacheMachine();
        Model y = new Model();
        int calls = fill(x, y) + start(x, y);
        while (calls < CALLS) {
            int left = CALLS - calls;
            if (mixed(5) == 0 && left >= COMPARED) {
                calls += compare(object, x, y);
            } else if (mixed(14) == 0 && left >= STARTED) {
                calls += startAnew(x, y);
            } else if (mixed(8) == 0 || left == 1) {
                calls += ask(object, x, y);
            } else {
                calls += call(object, x, y);
            }
        }
        Due.due("object " + object + ": calls", calls, CALLS);
    }

    /** A program at 0, a page table at 64, a start at 100 and a handler at 110. Answers how many calls it made. */
    private static int fill(CodeCacheMachine x, Model y) {
        for (int p = 0; p < 40; p++) {
            code(x, y, p, instruction(), offset());
        }
        for (int i = 0; i < 16; i++) {
            int word = mixed(5) == 0 ? number() : 1 + 2 * mixed(2) + 16 * (mixed(3) == 0 ? mixed(8) : i % 8);
            x.poke(64 + i, word);
            y.poke(64 + i, word);
        }
        int[] starting = {Op.table(1), Op.vector(2), Op.paging(3), Op.LEAVE};
        int[] handling = {Op.read(mixed(8)), Op.print(mixed(8)), instruction(), Op.LEAVE};
        for (int i = 0; i < 4; i++) {
            code(x, y, 100 + i, starting[i], 0);
            code(x, y, 110 + i, handling[i], mixed(3));
        }
        return 64;
    }

    private static void code(CodeCacheMachine x, Model y, int p, int op, int n) {
        x.code(p, op, n);
        y.code(p, op, n);
    }

    /** Answers how many calls it made. */
    private static int start(CodeCacheMachine x, Model y) {
        x.reset(100);
        y.reset(100);
        int[] values = {number(), 64, 110, mixed(3) == 0 ? 1 : 0, number(), number(), number(), number()};
        for (int r = 0; r < 8; r++) {
            x.setRegister(r, values[r]);
            y.setRegister(r, values[r]);
        }
        return STARTED;
    }

    /** Seldom while the machine goes; answers how many calls it made. */
    private static int startAnew(CodeCacheMachine x, Model y) {
        if (y.run(0) == CodeCacheMachine.GOING && mixed(8) != 0) {
            return 0;
        }
        if (mixed(4) != 0) {
            return start(x, y);
        }
        int place = mixed(4) == 0 ? number() : mixed(60);
        x.reset(place);
        y.reset(place);
        return 1;
    }

    /** Answers how many calls it made. */
    private static int call(int object, CodeCacheMachine x, Model y) {
        int p = number();
        int v = number();
        int n = offset();
        int op = mixed(20) == 0 ? number() : instruction();
        String name = "object " + object + ": ";
        switch (mixed(13)) {
            case 0: Due.due(name + "poke", x.poke(p, v), y.poke(p, v)); break;
            case 1: Due.due(name + "code", x.code(p, op, n), y.code(p, op, n)); break;
            case 2: Due.due(name + "code", x.code(y.place(), op, n), y.code(y.place(), op, n)); break;
            case 3: Due.due(name + "code", x.code(y.look(2), op, n), y.code(y.look(2), op, n)); break;
            case 4: Due.due(name + "setRegister", x.setRegister(p, v), y.setRegister(p, v)); break;
            case 5: Due.due(name + "level", x.level(p), y.level(p)); break;
            case 6: Due.due(name + "run", x.run(v), y.run(v)); break;
            default: Due.due(name + "run", x.run(n), y.run(n)); break;
        }
        return 1;
    }

    /** Answers how many calls it made. */
    private static int ask(int object, CodeCacheMachine x, Model y) {
        int p = number();
        String name = "object " + object + ": ";
        switch (mixed(9)) {
            case 0: Due.due(name + "run(0)", x.run(0), y.run(0)); break;
            case 1: Due.due(name + "executed()", x.executed(), y.executed()); break;
            case 2: Due.due(name + "place()", x.place(), y.place()); break;
            case 3: Due.due(name + "printed()", x.printed(), y.printed()); break;
            case 4: Due.due(name + "look(" + p + ")", x.look(p), y.look(p)); break;
            case 5: Due.due(name + "register(" + p + ")", x.register(p), y.register(p)); break;
            case 6: Due.due(name + "peek(" + p + ")", x.peek(p), y.peek(p)); break;
            case 7: Due.due(name + "translated(" + p + ")", x.translated(p), y.translated(p)); break;
            default: Due.due(name + "output(" + p + ")", x.output(p), y.output(p)); break;
        }
        return 1;
    }

    /** Answers how many calls it made. */
    private static int compare(int object, CodeCacheMachine x, Model y) {
        String name = "object " + object + ": ";
        int state = x.run(0);
        Due.due(name + "run(0)", state, y.run(0));
        Due.due(name + "executed()", x.executed(), y.executed());
        Due.due(name + "place()", x.place(), y.place());
        Due.due(name + "printed()", x.printed(), y.printed());
        for (int k = 0; k < 8; k++) {
            Due.due(name + "look(" + k + ")", x.look(k), y.look(k));
            Due.due(name + "register(" + k + ")", x.register(k), y.register(k));
        }
        for (int i = 0; i < 4; i++) {
            int p = number();
            int k = mixed(24) - 2;
            Due.due(name + "peek(" + p + ")", x.peek(p), y.peek(p));
            Due.due(name + "translated(" + p + ")", x.translated(p), y.translated(p));
            Due.due(name + "output(" + k + ")", x.output(k), y.output(k));
        }
        remember(y, state);
        return COMPARED;
    }

    private static void remember(Model y, int state) {
        seenStates[state]++;
        seenCauses[y.look(3)]++;
        seenOuter += 1 - y.look(5);
        seenPaged += y.look(6);
        seenFullOutput += y.printed() > 20 ? 1 : 0;
    }
}
