import java.util.Map;

/** The boundary cases of traps in the document's Terms, and promise 16, each in a test of its own. */
public final class TrapEdgesTest {
    private static final int LEAST = Integer.MIN_VALUE;
    private static final int GREATEST = Integer.MAX_VALUE;

    /** op, n, register 2 and cause of what traps in outer mode; with cause 3, register 2 is the place. */
    private static final int[][] OUTER_TRAPS = {
        {20, 0, 0, 4}, {27, 0, 0, 1}, {28, 0, 0, 1}, {29, 0, 0, 1}, {30, 0, 0, 1}, {31, 0, 0, 1}, {16383, -1, 0, 1},
        {Op.table(1), 0, 0, 2}, {Op.paging(1), 0, 0, 2}, {Op.vector(1), 0, 0, 2}, {Op.LEAVE, 0, 0, 2},
        {Op.read(1), 0, 0, 2}, {Op.read(1), 2, 0, 2}, {Op.read(1), 3, 0, 2}, {Op.read(1), -1, 0, 2},
        {Op.load(1, 2), 0, -1, 3}, {Op.load(1, 2), 0, 128, 3}, {Op.load(1, 2), 0, LEAST, 3},
        {Op.load(1, 2), 0, GREATEST, 3}, {Op.store(1, 2), 0, -1, 3}, {Op.store(1, 2), 0, 128, 3},
        {Op.store(1, 2), 0, LEAST, 3}, {Op.store(1, 2), 0, GREATEST, 3}
    };

    /** The same for inner mode, where 21 to 24 and 25 with 0, 1 or 2 don't trap. */
    private static final int[][] INNER_TRAPS = {
        {20, 0, 0, 4}, {27, 0, 0, 1}, {28, 0, 0, 1}, {29, 0, 0, 1}, {30, 0, 0, 1}, {31, 0, 0, 1}, {16383, -1, 0, 1},
        {Op.read(1), 3, 0, 1}, {Op.read(1), -1, 0, 1}, {Op.read(1), 131071, 0, 1}, {Op.read(1), -131072, 0, 1},
        {Op.load(1, 2), 0, -1, 3}, {Op.load(1, 2), 0, 128, 3}, {Op.load(1, 2), 0, LEAST, 3},
        {Op.load(1, 2), 0, GREATEST, 3}, {Op.store(1, 2), 0, -1, 3}, {Op.store(1, 2), 0, 128, 3},
        {Op.store(1, 2), 0, LEAST, 3}, {Op.store(1, 2), 0, GREATEST, 3}
    };

    public static void main(String[] args) {
        from27To31();
        from21To25();
        deadInInnerMode();
        deadWithoutAVector();
        takenFromVector0On();
        trapsDoNothingElse();
        untranslatedInstructionInOuter();
        untranslatedInstructionWithoutAVector();
        untranslatedInstructionInInner();
        spotOfAnAbsentPage();
        leavingUnderPaging();
        readsForThreeNumbers();
        readsForNoOtherNumber();
        promise16ForEveryNumber();
        Due.finish();
    }

    private static String name(int[] trap) {
        return "op " + trap[0] + ", n " + trap[1] + ", r2 " + trap[2];
    }

    /** Cause 0 stands for an instruction that does not trap. */
    private static void causeInOuter(int op, int n, int cause) {
        CodeCacheMachine x = Machines.outer(50);
        x.code(0, op, n);
        String what = "op " + op + ", n " + n + " in outer mode";
        Due.due(what, x.run(1), CodeCacheMachine.GOING);
        Due.due(what + ": CAUSE", x.look(3), cause);
        Due.due(what + ": mode", x.look(5), cause == 0 ? 0 : 1);
    }

    /** "27 to 31: TRAP with cause 1"; 26 and, past the five bits of o, 32 with its o of 0 are beside. */
    private static void from27To31() {
        causeInOuter(26, 0, 0);
        for (int o = 27; o <= 31; o++) {
            for (int n : new int[] {-131072, 0, 131071}) {
                causeInOuter(o, n, 1);
                causeInOuter(Op.of(o, 7, 7, 7), n, 1);
            }
            CodeCacheMachine x = new CodeCacheMachine();
            x.code(0, o, 0);
            Due.due("instruction " + o + " in inner mode", x.run(1), CodeCacheMachine.DEAD);
        }
        CodeCacheMachine x = Machines.outer(50);
        x.code(0, 32, 0);
        Due.due("op 32 in outer mode", x.run(1), CodeCacheMachine.HALTED);
    }

    /** "21 to 25 in outer mode: TRAP with cause 2."; 20 and 26 are beside, and inner mode. */
    private static void from21To25() {
        causeInOuter(20, 0, 4);
        causeInOuter(26, 0, 0);
        for (int o = 21; o <= 25; o++) {
            for (int n : new int[] {-131072, 0, 131071}) {
                causeInOuter(o, n, 2);
                causeInOuter(Op.of(o, 7, 7, 7), n, 2);
            }
            CodeCacheMachine x = new CodeCacheMachine();
            x.code(0, o, 0);
            Due.due("instruction " + o + " in inner mode", x.run(1), CodeCacheMachine.GOING);
            Due.due("instruction " + o + " in inner mode: CAUSE", x.look(3), 0);
        }
    }

    private static CodeCacheMachine inner(int vector, int paging, int[] trap) {
        CodeCacheMachine x = Machines.busyInner(vector, paging);
        x.code(52, trap[0], trap[1]);
        x.setRegister(2, trap[2]);
        return x;
    }

    private static CodeCacheMachine outer(int vector, boolean askedLast, int[] trap) {
        CodeCacheMachine x = Machines.busyOuter(vector, askedLast);
        x.code(9, trap[0], trap[1]);
        x.setRegister(2, trap[2]);
        return x;
    }

    private static void diesWithNothingElse(String what, CodeCacheMachine twin, CodeCacheMachine x, int[] trap) {
        Map<String, Integer> want = Shot.of(twin);
        want.put("run(0)", CodeCacheMachine.DEAD);
        want.put("executed()", want.get("executed()") + 1);
        if (trap[3] == 3) {
            want.put("look(4)", trap[2]);
        }
        Due.due(what + ": run(1)", x.run(1), CodeCacheMachine.DEAD);
        Shot.due(what, x, want);
    }

    private static void isTaken(String what, CodeCacheMachine twin, CodeCacheMachine x, int[] trap) {
        Map<String, Integer> want = Shot.of(twin);
        want.put("executed()", want.get("executed()") + 1);
        want.put("look(2)", want.get("place()"));
        want.put("look(3)", trap[3]);
        if (trap[3] == 3) {
            want.put("look(4)", trap[2]);
        }
        want.put("look(5)", 1);
        want.put("place()", want.get("look(1)"));
        Due.due(what + ": run(1)", x.run(1), CodeCacheMachine.GOING);
        Shot.due(what, x, want);
    }

    /** "if the mode is inner ... the machine is DEAD, and nothing else changes (but SPOT, as said)" */
    private static void deadInInnerMode() {
        for (int[] trap : INNER_TRAPS) {
            for (int vector : new int[] {LEAST, -1, 0, GREATEST}) {
                for (int paging = 0; paging <= 1; paging++) {
                    String what = name(trap) + " in inner mode, VECTOR " + vector + ", paging " + paging;
                    diesWithNothingElse(what, inner(vector, paging, trap), inner(vector, paging, trap), trap);
                }
            }
        }
    }

    /** "if ... VECTOR is below 0, the machine is DEAD, and nothing else changes (but SPOT, as said)" */
    private static void deadWithoutAVector() {
        for (int[] trap : OUTER_TRAPS) {
            for (int vector : new int[] {LEAST, -1}) {
                String what = name(trap) + " in outer mode, VECTOR " + vector;
                diesWithNothingElse(what, outer(vector, true, trap), outer(vector, true, trap), trap);
            }
        }
    }

    /** "Else RETURN becomes the place, CAUSE the cause, KEPT as paging is; paging is off, the mode inner ..." */
    private static void takenFromVector0On() {
        for (int[] trap : OUTER_TRAPS) {
            for (int vector : new int[] {0, 127, 128, GREATEST}) {
                // CAUSE is 4 before, or 3: so that each cause is seen to come anew.
                CodeCacheMachine x = outer(vector, trap[3] != 4, trap);
                String what = name(trap) + " in outer mode, VECTOR " + vector;
                Due.due(what + ": run(1)", x.run(1), CodeCacheMachine.GOING);
                Due.due(what + ": place()", x.place(), vector);
                int[] looks = {64, vector, 9, trap[3], trap[3] == 3 ? trap[2] : 911, 1, 0, 0};
                for (int k = 0; k < 8; k++) {
                    Due.due(what + ": look(" + k + ")", x.look(k), looks[k]);
                }
            }
        }
    }

    /** "An instruction that traps does nothing else.": every answer but those that the trap itself changes. */
    private static void trapsDoNothingElse() {
        for (int[] trap : OUTER_TRAPS) {
            for (int vector : new int[] {0, GREATEST}) {
                String what = name(trap) + " in outer mode, VECTOR " + vector;
                isTaken(what, outer(vector, true, trap), outer(vector, true, trap), trap);
            }
        }
    }

    private static final int[] OUTSIDE = {LEAST, -1, 128, GREATEST};

    private static CodeCacheMachine outerAt(int vector, int place) {
        CodeCacheMachine x = outer(vector, true, new int[] {Op.jumpTo(2), 0, place});
        Due.due("jump to " + place, x.run(1), CodeCacheMachine.GOING);
        return x;
    }

    /** "A place that can't be translated (that of the instruction ...): TRAP with cause 3, and SPOT becomes that place." */
    private static void untranslatedInstructionInOuter() {
        for (int place : OUTSIDE) {
            int[] trap = {0, 0, place, 3};
            isTaken("instruction at " + place, outerAt(50, place), outerAt(50, place), trap);
        }
        for (int place : new int[] {0, 127}) {
            CodeCacheMachine x = outerAt(50, place);
            x.code(place, Op.set(1), 8);
            Due.due("instruction at " + place, x.run(1), CodeCacheMachine.GOING);
            Due.due("instruction at " + place + ": mode", x.look(5), 0);
            Due.due("instruction at " + place + ": register(1)", x.register(1), 8);
        }
    }

    private static void untranslatedInstructionWithoutAVector() {
        for (int place : OUTSIDE) {
            int[] trap = {0, 0, place, 3};
            diesWithNothingElse("instruction at " + place, outerAt(-1, place), outerAt(-1, place), trap);
        }
    }

    private static CodeCacheMachine innerAt(int paging, int place) {
        CodeCacheMachine x = inner(50, paging, new int[] {Op.jumpTo(2), 0, place});
        Due.due("jump to " + place, x.run(1), CodeCacheMachine.GOING);
        return x;
    }

    private static void untranslatedInstructionInInner() {
        for (int place : OUTSIDE) {
            int[] trap = {0, 0, place, 3};
            for (int paging = 0; paging <= 1; paging++) {
                diesWithNothingElse("instruction at " + place, innerAt(paging, place), innerAt(paging, place), trap);
            }
        }
    }

    /** "SPOT becomes that place": the one that was to be translated, which is inside the memory here. */
    private static void spotOfAnAbsentPage() {
        for (int op : new int[] {Op.load(1, 2), Op.store(1, 2)}) {
            for (int place : new int[] {112, 127}) {
                int[] trap = {op, 0, place, 3};
                diesWithNothingElse(name(trap) + " absent", withoutPage7(trap), withoutPage7(trap), trap);
            }
        }
        for (int place : new int[] {112, 127}) {
            CodeCacheMachine x = withoutPage7(new int[] {Op.jumpTo(2), 0, place});
            CodeCacheMachine twin = withoutPage7(new int[] {Op.jumpTo(2), 0, place});
            x.run(1);
            twin.run(1);
            diesWithNothingElse("instruction at " + place + ", absent", twin, x, new int[] {0, 0, place, 3});
        }
    }

    private static CodeCacheMachine withoutPage7(int[] trap) {
        CodeCacheMachine x = inner(50, 1, trap);
        x.poke(71, 2 + 16 * 7);
        return x;
    }

    /** "24 the place becomes RETURN, the mode outer, paging as KEPT": KEPT is off, so paging goes off. */
    private static void leavingUnderPaging() {
        for (int paging = 0; paging <= 1; paging++) {
            int[] leave = {Op.LEAVE, 0, 0, 0};
            Map<String, Integer> want = Shot.of(inner(50, paging, leave));
            want.put("executed()", want.get("executed()") + 1);
            want.put("place()", 5);
            want.put("look(5)", 0);
            want.put("look(6)", 0);
            CodeCacheMachine x = inner(50, paging, leave);
            Due.due("24 with paging " + paging, x.run(1), CodeCacheMachine.GOING);
            Shot.due("24 with paging " + paging, x, want);
        }
    }

    /** "25 ra = RETURN, CAUSE or SPOT (for n = 0, 1, 2; ...)" */
    private static void readsForThreeNumbers() {
        int[] numbers = {5, 4, 911};
        for (int n = 0; n <= 2; n++) {
            int[] read = {Op.read(1), n, 0, 0};
            Map<String, Integer> want = Shot.of(inner(50, 1, read));
            want.put("executed()", want.get("executed()") + 1);
            want.put("place()", 53);
            want.put("register(1)", numbers[n]);
            CodeCacheMachine x = inner(50, 1, read);
            Due.due("25 with " + n + " in inner mode", x.run(1), CodeCacheMachine.GOING);
            Shot.due("25 with " + n + " in inner mode", x, want);
        }
    }

    /** "(...; else TRAP with cause 1)": in inner mode, where alone it can be met, the trap kills. */
    private static void readsForNoOtherNumber() {
        for (int n : new int[] {-131072, -1, 3, 131071}) {
            CodeCacheMachine x = inner(50, 1, new int[] {Op.read(1), n, 0, 1});
            Due.due("25 with " + n + " in inner mode", x.run(1), CodeCacheMachine.DEAD);
            Due.due("25 with " + n + " in inner mode: register(1)", x.register(1), -12);
            Due.due("25 with " + n + " in inner mode: place()", x.place(), 52);
        }
    }

    /** "Instruction 25 in outer mode is a TRAP with cause 2 for every n.": all 262144 of them. */
    private static void promise16ForEveryNumber() {
        for (int n = -131072; n <= 131071; n++) {
            CodeCacheMachine x = Machines.outer(50);
            x.code(0, Op.read(1), n);
            x.setRegister(1, 33);
            String what = "25 with " + n + " in outer mode: ";
            Due.due(what + "run(1)", x.run(1), CodeCacheMachine.GOING);
            Due.due(what + "CAUSE", x.look(3), 2);
            Due.due(what + "place()", x.place(), 50);
            Due.due(what + "register(1)", x.register(1), 33);
        }
    }
}
