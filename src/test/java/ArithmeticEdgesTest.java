/** The boundary cases of the instructions' parts, numbers and shifts in the document's Terms, each in a test of its own. */
public final class ArithmeticEdgesTest {
    private static final int LEAST = Integer.MIN_VALUE;
    private static final int GREATEST = Integer.MAX_VALUE;

    public static void main(String[] args) {
        sumsWrap();
        differencesWrap();
        productsWrap();
        sumsWithANumberWrap();
        placesOfWordsWrap();
        numberHasASign();
        partsOfNegativeWords();
        shiftLeftCounts();
        shiftRightCounts();
        jumpsOnZero();
        jumpsOnLess();
        growsPastTheMemory();
        pagingByEveryInt();
        Due.finish();
    }

    private static CodeCacheMachine after(int word, int rb, int rc) {
        CodeCacheMachine x = new CodeCacheMachine();
        x.poke(0, word);
        x.setRegister(2, rb);
        x.setRegister(3, rc);
        Due.due("run(1) of " + word, x.run(1), CodeCacheMachine.GOING);
        return x;
    }

    /** rows: rb, rc and what ra becomes. */
    private static void gives(int o, int[][] rows) {
        for (int[] row : rows) {
            CodeCacheMachine x = after(Op.of(o, 1, 2, 3), row[0], row[1]);
            Due.due("instruction " + o + " with " + row[0] + ", " + row[1], x.register(1), row[2]);
        }
    }

    /** "All arithmetic wraps as in Java.", in 3 */
    private static void sumsWrap() {
        gives(3, new int[][] {
            {GREATEST, 0, GREATEST}, {GREATEST, 1, LEAST}, {LEAST, 0, LEAST}, {LEAST, -1, GREATEST},
            {GREATEST, GREATEST, -2}, {LEAST, LEAST, 0}, {LEAST, GREATEST, -1}
        });
    }

    /** "All arithmetic wraps as in Java.", in 4 */
    private static void differencesWrap() {
        gives(4, new int[][] {
            {LEAST, 0, LEAST}, {LEAST, 1, GREATEST}, {GREATEST, 0, GREATEST}, {GREATEST, -1, LEAST},
            {0, LEAST, LEAST}, {-1, LEAST, GREATEST}, {LEAST, GREATEST, 1}, {GREATEST, LEAST, -1}
        });
    }

    /** "All arithmetic wraps as in Java.", in 5 */
    private static void productsWrap() {
        gives(5, new int[][] {
            {GREATEST, 1, GREATEST}, {GREATEST, 2, -2}, {LEAST, 1, LEAST}, {LEAST, -1, LEAST}, {LEAST, 2, 0},
            {46341, 46341, -2147479015}, {65536, 65536, 0}, {GREATEST, GREATEST, 1}, {LEAST, LEAST, 0}
        });
    }

    /** "All arithmetic wraps as in Java.", in 11; rows: rb, n and what ra becomes. */
    private static void sumsWithANumberWrap() {
        int[][] rows = {
            {GREATEST, 0, GREATEST}, {GREATEST, 1, LEAST}, {LEAST, -1, GREATEST}, {GREATEST - 131071, 131071, GREATEST},
            {GREATEST - 131070, 131071, LEAST}, {LEAST + 131072, -131072, LEAST}, {LEAST + 131071, -131072, GREATEST}
        };
        for (int[] row : rows) {
            CodeCacheMachine x = after(Op.of(11, 1, 2, 0) + row[1] * 16384, row[0], 0);
            Due.due("ra = " + row[0] + " + " + row[1], x.register(1), row[2]);
        }
    }

    /** "All arithmetic wraps as in Java.", in the rb + n of 12 and 13; rows: rb, n and the place, which SPOT tells. */
    private static void placesOfWordsWrap() {
        int[][] rows = {
            {GREATEST, 0, GREATEST}, {GREATEST, 1, LEAST}, {LEAST, 0, LEAST}, {LEAST, -1, GREATEST},
            {GREATEST, 131071, LEAST + 131070}, {LEAST, -131072, GREATEST - 131071}
        };
        for (int[] row : rows) {
            for (int op : new int[] {Op.load(1, 2), Op.store(1, 2)}) {
                CodeCacheMachine x = new CodeCacheMachine();
                x.code(0, op, row[1]);
                x.setRegister(2, row[0]);
                String what = "op " + op + " at " + row[0] + " + " + row[1];
                Due.due(what, x.run(1), CodeCacheMachine.DEAD);
                Due.due(what + ": SPOT", x.look(4), row[2]);
            }
        }
    }

    /** "n = w >> 14 (with sign)": words of instruction 1, ra = n. */
    private static void numberHasASign() {
        int one = Op.set(1);
        int all = Op.of(1, 1, 7, 7);
        int[] words = {
            one, all, one + 16384, one - 16384, all - 16384, one - 2 * 16384, one + 131071 * 16384, one + LEAST,
            all + LEAST, one + LEAST + 16384
        };
        int[] numbers = {0, 0, 1, -1, -1, -2, 131071, -131072, -131072, -131071};
        for (int i = 0; i < words.length; i++) {
            Due.due("n of " + words[i], after(words[i], 0, 0).register(1), numbers[i]);
        }
    }

    /** "a, b, c = (w >> 5) & 7, (w >> 8) & 7, (w >> 11) & 7" of a word below 0, with the least and the greatest parts. */
    private static void partsOfNegativeWords() {
        int[][] parts = {{0, 7, 7}, {7, 0, 7}, {7, 7, 0}, {7, 0, 0}, {0, 7, 0}, {0, 0, 7}};
        for (int[] part : parts) {
            CodeCacheMachine x = new CodeCacheMachine();
            x.poke(0, Op.of(4, part[0], part[1], part[2]) + LEAST);
            x.setRegister(0, 100);
            x.setRegister(7, 7000);
            Due.due("run(1) of a negative word", x.run(1), CodeCacheMachine.GOING);
            int want = (part[1] == 0 ? 100 : 7000) - (part[2] == 0 ? 100 : 7000);
            Due.due("r" + part[0] + " = r" + part[1] + " - r" + part[2], x.register(part[0]), want);
        }
    }

    /** "9 ra = rb << (rc & 31)" */
    private static void shiftLeftCounts() {
        gives(9, new int[][] {
            {-5, 0, -5}, {5, 1, 10}, {3, 30, -1073741824}, {3, 31, LEAST}, {3, 32, 3}, {3, 33, 6}, {3, -1, LEAST},
            {3, -31, 6}, {3, -32, 3}, {3, -33, LEAST}, {3, LEAST, 3}, {3, GREATEST, LEAST}, {LEAST, 1, 0}
        });
    }

    /** "10 ra = rb >>> (rc & 31)" */
    private static void shiftRightCounts() {
        gives(10, new int[][] {
            {-5, 0, -5}, {-2, 1, GREATEST}, {LEAST, 30, 2}, {LEAST, 31, 1}, {LEAST, 32, LEAST}, {LEAST, 33, 1073741824},
            {LEAST, -1, 1}, {LEAST, -31, 1073741824}, {LEAST, -32, LEAST}, {LEAST, -33, 1}, {LEAST, LEAST, LEAST},
            {LEAST, GREATEST, 1}, {GREATEST, 31, 0}, {-1, 31, 1}
        });
    }

    private static int placeAfter(int o, int r2, int r3) {
        return after(Op.of(o, 2, 3, 0) + 40 * 16384, r2, r3).place();
    }

    /** "14 if ra = 0 ..." and "15 if ra is not 0 ..." */
    private static void jumpsOnZero() {
        Due.due("14 with 0", placeAfter(14, 0, 0), 40);
        Due.due("15 with 0", placeAfter(15, 0, 0), 1);
        for (int ra : new int[] {LEAST, -1, 1, GREATEST}) {
            Due.due("14 with " + ra, placeAfter(14, ra, 0), 1);
            Due.due("15 with " + ra, placeAfter(15, ra, 0), 40);
        }
    }

    /** "16 if ra < rb ...": rows: ra, rb and the place. */
    private static void jumpsOnLess() {
        int[][] rows = {
            {0, 1, 40}, {0, 0, 1}, {1, 0, 1}, {-1, 0, 40}, {0, -1, 1}, {LEAST, GREATEST, 40}, {GREATEST, LEAST, 1},
            {LEAST, LEAST, 1}, {GREATEST, GREATEST, 1}, {GREATEST - 1, GREATEST, 40}, {LEAST, LEAST + 1, 40}
        };
        for (int[] row : rows) {
            Due.due("16 with " + row[0] + ", " + row[1], placeAfter(16, row[0], row[1]), row[2]);
        }
    }

    /** "the place grows by 1" and "the place grows by n instead", over both ends of the memory. */
    private static void growsPastTheMemory() {
        int[][] rows = {
            {127, 2, 0, 128}, {0, 17, -1, -1}, {127, 17, 1, 128}, {0, 17, -131072, -131072}, {127, 17, 131071, 131198}
        };
        for (int[] row : rows) {
            CodeCacheMachine x = new CodeCacheMachine();
            x.code(row[0], row[1], row[2]);
            x.reset(row[0]);
            String what = "instruction " + row[1] + " with " + row[2] + " at " + row[0];
            Due.due(what, x.run(1), CodeCacheMachine.GOING);
            Due.due(what + ": place()", x.place(), row[3]);
            Due.due(what + ": run(1)", x.run(1), CodeCacheMachine.DEAD);
            Due.due(what + ": SPOT", x.look(4), row[3]);
        }
        CodeCacheMachine x = new CodeCacheMachine();
        x.code(127, Op.of(18, 1), -127);
        x.reset(127);
        x.run(1);
        Due.due("18 at 127: register(1)", x.register(1), 128);
        Due.due("18 at 127: place()", x.place(), 0);
    }

    /** "22 paging is on if ra is not 0, else off", from off and from on. */
    private static void pagingByEveryInt() {
        for (int ra : new int[] {LEAST, -2, -1, 0, 1, 2, GREATEST}) {
            int want = ra == 0 ? 0 : 1;
            Due.due("22 with " + ra, after(Op.paging(2), ra, 0).look(6), want);
            CodeCacheMachine x = Machines.busyInner(50, 1);
            x.code(52, Op.paging(1), 0);
            x.setRegister(1, ra);
            Due.due("22 with " + ra + " under paging", x.run(1), CodeCacheMachine.GOING);
            Due.due("22 with " + ra + " under paging: paging", x.look(6), want);
        }
    }
}
