/** Promises 4 and 16: what traps, with which cause, and what a trap changes and leaves. */
public final class TrapTest {
    public static void main(String[] args) {
        unknownInstructions();
        askedTrap();
        promise16ForbiddenInOuter();
        outerMayDoTheRest();
        untranslatedWord();
        untranslatedInstruction();
        writingNeedsBit1();
        pagingNeverReachesOuter();
        deadInInner();
        deadWithoutVector();
        deadChangesNothing();
        instruction25WithAnotherNumber();
        vectorNeedNotBeTranslatable();
        spotStaysOverOtherTraps();
        Due.finish();
    }

    /** A trap from place 0 in outer mode with paging off and VECTOR 50. */
    private static void trapped(String what, CodeCacheMachine x, int cause, int spot) {
        Due.due(what + ": run(1)", x.run(1), CodeCacheMachine.GOING);
        state(what, x, new int[] {50, 0, cause, spot, 1, 0, 0});
    }

    /** want: the place, RETURN, CAUSE, SPOT, the mode, paging, KEPT. */
    private static void state(String what, CodeCacheMachine x, int[] want) {
        Due.due(what + ": place", x.place(), want[0]);
        Due.due(what + ": RETURN", x.look(2), want[1]);
        Due.due(what + ": CAUSE", x.look(3), want[2]);
        Due.due(what + ": SPOT", x.look(4), want[3]);
        Due.due(what + ": mode", x.look(5), want[4]);
        Due.due(what + ": paging", x.look(6), want[5]);
        Due.due(what + ": KEPT", x.look(7), want[6]);
    }

    private static void registersAre(String what, CodeCacheMachine x, int want) {
        for (int r = 0; r < 8; r++) {
            Due.due(what + ": register(" + r + ")", x.register(r), want);
        }
    }

    private static CodeCacheMachine outerWith(int op, int n) {
        CodeCacheMachine x = Machines.outer(50);
        x.code(0, op, n);
        for (int r = 0; r < 8; r++) {
            x.setRegister(r, 33);
        }
        return x;
    }

    private static void unknownInstructions() {
        for (int o = 27; o <= 31; o++) {
            for (int n = -1; n <= 1; n++) {
                CodeCacheMachine x = outerWith(Op.of(o, 1, 2, 3), n);
                trapped("instruction " + o, x, 1, 0);
                registersAre("instruction " + o, x, 33);
                Due.due("instruction " + o + ": printed()", x.printed(), 0);
            }
        }
    }

    private static void askedTrap() {
        CodeCacheMachine x = outerWith(Op.of(Op.TRAP, 1, 2, 3), 5);
        trapped("instruction 20", x, 4, 0);
        registersAre("instruction 20", x, 33);
        x.code(50, Op.LEAVE, 0);
        Due.due("20, then 24: run(1)", x.run(1), CodeCacheMachine.GOING);
        state("20, then 24", x, new int[] {0, 0, 4, 0, 0, 0, 0});
    }

    private static void promise16ForbiddenInOuter() {
        for (int o = 21; o <= 25; o++) {
            for (int n : new int[] {-131072, -1, 0, 1, 2, 3, 131071}) {
                String what = "instruction " + o + " with " + n + " in outer mode";
                CodeCacheMachine x = outerWith(Op.of(o, 1), n);
                trapped(what, x, 2, 0);
                registersAre(what, x, 33);
                Due.due(what + ": TABLE", x.look(0), 0);
                Due.due(what + ": VECTOR", x.look(1), 50);
            }
        }
    }

    private static void outerMayDoTheRest() {
        for (int o = 1; o <= 19; o++) {
            CodeCacheMachine x = outerWith(Op.of(o, 1, 2, 3), 2);
            Due.due("instruction " + o + " in outer mode", x.run(1), CodeCacheMachine.GOING);
            Due.due("instruction " + o + " in outer mode: mode", x.look(5), 0);
            Due.due("instruction " + o + " in outer mode: CAUSE", x.look(3), 0);
        }
        CodeCacheMachine x = outerWith(Op.print(1), 0);
        Due.due("print in outer mode", x.run(1), CodeCacheMachine.GOING);
        Due.due("print in outer mode: output(0)", x.output(0), 33);
        x = outerWith(Op.HALT, 0);
        Due.due("halt in outer mode", x.run(5), CodeCacheMachine.HALTED);
        state("halt in outer mode", x, new int[] {0, 0, 0, 0, 0, 0, 0});
    }

    private static void untranslatedWord() {
        for (int spot : new int[] {-1, 128, 129, -131072 + 33, 131071 + 33}) {
            CodeCacheMachine x = outerWith(Op.load(1, 2), spot - 33);
            trapped("load from " + spot, x, 3, spot);
            registersAre("load from " + spot, x, 33);
            x = outerWith(Op.store(1, 2), spot - 33);
            int word = x.peek(0);
            trapped("store to " + spot, x, 3, spot);
            Due.due("store to " + spot + ": peek(0)", x.peek(0), word);
            Due.due("store to " + spot + ": peek(127)", x.peek(127), 0);
        }
    }

    private static void untranslatedInstruction() {
        for (int spot : new int[] {-1, 128, Integer.MIN_VALUE, Integer.MAX_VALUE}) {
            CodeCacheMachine x = Machines.outer(50);
            x.code(0, Op.jumpTo(1), 0);
            x.setRegister(1, spot);
            Due.due("jump to " + spot, x.run(1), CodeCacheMachine.GOING);
            Due.due("jump to " + spot + ": place", x.place(), spot);
            Due.due("run(1) at " + spot, x.run(1), CodeCacheMachine.GOING);
            state("run(1) at " + spot, x, new int[] {50, spot, 3, spot, 1, 0, 0});
            Due.due("run(1) at " + spot + ": executed()", x.executed(), 5);
        }
        CodeCacheMachine x = new CodeCacheMachine();
        x.code(127, Op.set(1), 1);
        x.reset(127);
        Due.due("running off the end", x.run(9), CodeCacheMachine.DEAD);
        state("running off the end", x, new int[] {128, 0, 0, 128, 1, 0, 0});
        Due.due("running off the end: executed()", x.executed(), 2);
    }

    private static void writingNeedsBit1() {
        CodeCacheMachine x = new CodeCacheMachine();
        x.poke(64, 1 + 4 + 8 + 128);
        x.code(0, Op.table(1), 0);
        x.code(1, Op.paging(1), 0);
        x.code(2, Op.load(2, 0), 9);
        x.code(3, Op.store(1, 0), 9);
        x.poke(9, 5);
        x.setRegister(1, 64);
        Due.due("reading a page without bit 1", x.run(3), CodeCacheMachine.GOING);
        Due.due("reading a page without bit 1: register(2)", x.register(2), 5);
        Due.due("writing a page without bit 1", x.run(1), CodeCacheMachine.DEAD);
        Due.due("writing a page without bit 1: peek(9)", x.peek(9), 5);
        Due.due("writing a page without bit 1: SPOT", x.look(4), 9);
        x.poke(64, 2);
        Due.due("a page with bit 1 alone", x.translated(9), CodeCacheMachine.BAD);
    }

    /**
     * KEPT goes on only by a trap in outer mode under paging, and outer mode has paging only from KEPT: so, as the
     * document stands, a handler that puts paging on finds it off in outer mode and off again after the next trap.
     */
    private static void pagingNeverReachesOuter() {
        CodeCacheMachine x = Machines.outer(50);
        x.code(0, Op.TRAP, 0);
        x.code(50, Op.table(1), 0);
        x.code(51, Op.paging(1), 0);
        x.code(52, Op.LEAVE, 0);
        x.poke(64 + 3, 3 * 16 + 1);
        x.setRegister(1, 64);
        Due.due("handler puts paging on", x.run(3), CodeCacheMachine.GOING);
        state("handler puts paging on", x, new int[] {52, 0, 4, 0, 1, 1, 0});
        Due.due("handler leaves", x.run(1), CodeCacheMachine.GOING);
        state("handler leaves", x, new int[] {0, 0, 4, 0, 0, 0, 0});
        trapped("the next trap", x, 4, 0);
    }

    private static void deadInInner() {
        int[] ops = {Op.TRAP, 27, 28, 29, 30, 31};
        for (int op : ops) {
            CodeCacheMachine x = new CodeCacheMachine();
            x.code(0, Op.vector(1), 0);
            x.code(1, op, 0);
            x.setRegister(1, 50);
            Due.due("op " + op + " in inner mode", x.run(2), CodeCacheMachine.DEAD);
            state("op " + op + " in inner mode", x, new int[] {1, 0, 0, 0, 1, 0, 0});
        }
    }

    private static void deadWithoutVector() {
        for (int vector : new int[] {-1, -2, Integer.MIN_VALUE}) {
            CodeCacheMachine x = Machines.outer(vector);
            x.code(0, Op.TRAP, 0);
            Due.due("trap with VECTOR " + vector, x.run(1), CodeCacheMachine.DEAD);
            state("trap with VECTOR " + vector, x, new int[] {0, 0, 0, 0, 0, 0, 0});
            x = Machines.outer(vector);
            x.code(0, Op.load(1, 0), 200);
            Due.due("load with VECTOR " + vector, x.run(1), CodeCacheMachine.DEAD);
            state("load with VECTOR " + vector, x, new int[] {0, 0, 0, 200, 0, 0, 0});
        }
        CodeCacheMachine x = Machines.outer(0);
        x.code(0, Op.TRAP, 0);
        Due.due("trap with VECTOR 0", x.run(1), CodeCacheMachine.GOING);
        state("trap with VECTOR 0", x, new int[] {0, 0, 4, 0, 1, 0, 0});
    }

    private static void deadChangesNothing() {
        CodeCacheMachine x = Machines.paged(64);
        x.poke(64, 1);
        x.code(2, Op.load(1, 1), 0);
        x.setRegister(1, 16);
        Due.due("load of an absent page in inner mode", x.run(1), CodeCacheMachine.DEAD);
        state("load of an absent page in inner mode", x, new int[] {2, 0, 0, 16, 1, 1, 0});
        Due.due("load of an absent page in inner mode: register(1)", x.register(1), 16);
    }

    private static void instruction25WithAnotherNumber() {
        for (int n : new int[] {-131072, -1, 3, 4, 131071}) {
            CodeCacheMachine x = new CodeCacheMachine();
            x.code(0, Op.vector(1), 0);
            x.code(1, Op.read(2), n);
            x.setRegister(1, 50);
            x.setRegister(2, 33);
            Due.due("25 with " + n + " in inner mode", x.run(2), CodeCacheMachine.DEAD);
            state("25 with " + n + " in inner mode", x, new int[] {1, 0, 0, 0, 1, 0, 0});
            Due.due("25 with " + n + " in inner mode: register(2)", x.register(2), 33);
        }
    }

    private static void vectorNeedNotBeTranslatable() {
        CodeCacheMachine x = Machines.outer(1000);
        x.code(0, Op.TRAP, 0);
        Due.due("trap to VECTOR 1000", x.run(1), CodeCacheMachine.GOING);
        state("trap to VECTOR 1000", x, new int[] {1000, 0, 4, 0, 1, 0, 0});
        Due.due("run(1) at VECTOR 1000", x.run(1), CodeCacheMachine.DEAD);
        state("run(1) at VECTOR 1000", x, new int[] {1000, 0, 4, 1000, 1, 0, 0});
    }

    private static void spotStaysOverOtherTraps() {
        CodeCacheMachine x = Machines.outer(50);
        x.code(0, Op.load(1, 0), 300);
        x.code(50, Op.LEAVE, 0);
        x.run(2);
        x.code(0, Op.TRAP, 0);
        trapped("a trap of cause 4 after one of cause 3", x, 4, 300);
    }
}
