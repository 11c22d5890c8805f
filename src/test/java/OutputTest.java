/** Promises 12 and 13: the output. */
public final class OutputTest {
    public static void main(String[] args) {
        emptyAtFirst();
        growsInOrder();
        everyRegisterCanBePrinted();
        deadAndHaltedKeepIt();
        Due.finish();
    }

    private static void noneAt(String when, CodeCacheMachine x, int[] ks) {
        for (int k : ks) {
            Due.due(when + ": output(" + k + ")", x.output(k), 0);
        }
    }

    private static void emptyAtFirst() {
        CodeCacheMachine x = new CodeCacheMachine();
        Due.due("at first: printed()", x.printed(), 0);
        noneAt("at first", x, Machines.EDGES);
    }

    /** Prints 1001, 1002, ... and looks at all of it after each. */
    private static void growsInOrder() {
        CodeCacheMachine x = new CodeCacheMachine();
        x.code(0, Op.of(11, 1, 1, 0), 1);
        x.code(1, Op.print(1), 0);
        x.code(2, Op.jump(), -2);
        x.setRegister(1, 1000);
        int[] stops = {1, 2, 18, 19, 20, 21, 22, 40};
        int before = 0;
        for (int count : stops) {
            x.run(3 * (count - before));
            before = count;
            Due.due("printed()", x.printed(), count);
            for (int k = -1; k <= 24; k++) {
                boolean there = k >= 0 && k <= 19 && k < count;
                Due.due(count + " printed: output(" + k + ")", x.output(k), there ? 1001 + k : 0);
            }
            noneAt(count + " printed", x, new int[] {Integer.MIN_VALUE, 39, 40, 127, 128, Integer.MAX_VALUE});
        }
    }

    private static void everyRegisterCanBePrinted() {
        CodeCacheMachine x = new CodeCacheMachine();
        for (int r = 0; r < 8; r++) {
            x.code(r, Op.print(r), 0);
            x.setRegister(r, r % 2 == 0 ? Integer.MIN_VALUE + r : r);
        }
        x.run(8);
        for (int r = 0; r < 8; r++) {
            Due.due("print r" + r, x.output(r), r % 2 == 0 ? Integer.MIN_VALUE + r : r);
        }
    }

    private static void deadAndHaltedKeepIt() {
        for (int last : new int[] {Op.HALT, Op.TRAP}) {
            CodeCacheMachine x = new CodeCacheMachine();
            x.code(0, Op.print(1), 0);
            x.code(1, last, 0);
            x.setRegister(1, -3);
            x.run(2);
            Due.due("at the end: printed()", x.printed(), 1);
            Due.due("at the end: output(0)", x.output(0), -3);
        }
    }
}
