import java.util.Map;
import java.util.function.Supplier;

/** The boundary cases of promises 4, 5 and 14, each in a test of its own. */
public final class RunEdgesTest {
    private static final int LEAST = Integer.MIN_VALUE;
    private static final int GREATEST = Integer.MAX_VALUE;
    private static final int[] PLACES = {LEAST, -1, 0, 127, 128, GREATEST};

    public static void main(String[] args) {
        promise4ClampedBelow();
        promise4ClampedAbove();
        promise4LastOfARun();
        promise4TrapCounts();
        promise4HaltCounts();
        promise4DeathCounts();
        promise4NothingAfterTheEnd();
        promise5SinceTheBeginning();
        promise5SinceTheLatestReset();
        promise14AsAtFirst();
        promise14PlaceOfTheNext();
        promise14WorksAsANewObject();
        Due.finish();
    }

    /** Going on for ever: register 1 grows at every second instruction, and the rest is printed. */
    private static CodeCacheMachine endless() {
        CodeCacheMachine x = Machines.busyInner(50, 1);
        x.code(52, Op.of(11, 1, 1, 0), 1);
        x.code(53, Op.print(1), 0);
        x.code(54, Op.jump(), -2);
        return x;
    }

    /** "n clamped into 0..400": from below. */
    private static void promise4ClampedBelow() {
        for (int n : new int[] {LEAST, LEAST + 1, -400, -1, 0}) {
            String what = "run(" + n + ")";
            Shot.changesNothing(what, RunEdgesTest::endless, x -> Due.due(what, x.run(n), CodeCacheMachine.GOING));
        }
        CodeCacheMachine x = endless();
        int before = x.executed();
        Due.due("run(1)", x.run(1), CodeCacheMachine.GOING);
        Due.due("run(1): executed()", x.executed(), before + 1);
        Due.due("run(1): register(1)", x.register(1), -11);
    }

    /** "n clamped into 0..400": from above. */
    private static void promise4ClampedAbove() {
        CodeCacheMachine twin = endless();
        int before = twin.executed();
        twin.run(200);
        twin.run(199);
        Due.due("two runs: executed()", twin.executed(), before + 399);
        twin.run(1);
        Map<String, Integer> want = Shot.of(twin);
        Due.due("three runs: executed()", want.get("executed()"), before + 400);
        for (int n : new int[] {400, 401, GREATEST - 1, GREATEST}) {
            CodeCacheMachine x = endless();
            Due.due("run(" + n + ")", x.run(n), CodeCacheMachine.GOING);
            Shot.due("run(" + n + ")", x, want);
        }
        CodeCacheMachine x = endless();
        x.run(399);
        Due.due("run(399): executed()", x.executed(), before + 399);
    }

    /** A machine whose instruction number count is op, and those before are others; count is even or odd from 4 on. */
    private static CodeCacheMachine opAfter(int count, int op) {
        CodeCacheMachine x = new CodeCacheMachine();
        x.code(0, Op.set(2), 1);
        x.code(1, Op.of(11, 1, 1, 0), -1);
        x.code(2, Op.of(15, 1), -1);
        x.code(3, op, 0);
        x.reset(count % 2 == 0 ? 0 : 1);
        x.setRegister(1, (count - 1) / 2);
        return x;
    }

    /** The end as the last instruction of a run, and as the first that is no longer in it. */
    private static void promise4LastOfARun() {
        int[] ops = {Op.HALT, Op.TRAP};
        int[] ends = {CodeCacheMachine.HALTED, CodeCacheMachine.DEAD};
        for (int i = 0; i < ops.length; i++) {
            for (int count : new int[] {5, 6, 399, 400}) {
                CodeCacheMachine x = opAfter(count, ops[i]);
                Due.due("run(" + count + ")", x.run(count), ends[i]);
                Due.due("run(" + count + "): executed()", x.executed(), count);
                x = opAfter(count, ops[i]);
                Due.due("run(" + (count - 1) + ")", x.run(count - 1), CodeCacheMachine.GOING);
                Due.due("run(" + (count - 1) + "): executed()", x.executed(), count - 1);
            }
            for (int n : new int[] {400, 401, GREATEST}) {
                CodeCacheMachine x = opAfter(401, ops[i]);
                Due.due("run(" + n + ") before the end", x.run(n), CodeCacheMachine.GOING);
                Due.due("run(" + n + ") before the end: place()", x.place(), 3);
                Due.due("run(1) of the end", x.run(1), ends[i]);
                Due.due("run(1) of the end: executed()", x.executed(), 401);
            }
        }
    }

    /** "an instruction that traps ... counts, too": of those asked for, and in executed(). */
    private static void promise4TrapCounts() {
        int[] ops = {Op.TRAP, 27, Op.LEAVE, Op.read(1), Op.load(1, 0), Op.store(1, 0), Op.jumpTo(0)};
        for (int op : ops) {
            CodeCacheMachine x = Machines.outer(50);
            x.code(0, op, 0);
            x.setRegister(0, 128);
            x.code(50, Op.set(1), 6);
            x.code(51, Op.set(2), 6);
            int first = op == Op.jumpTo(0) ? 2 : 1;
            Due.due("op " + op + ": run", x.run(first), CodeCacheMachine.GOING);
            Due.due("op " + op + ": executed()", x.executed(), 3 + first);
            Due.due("op " + op + ": place()", x.place(), 50);
            Due.due("op " + op + ": run(1)", x.run(1), CodeCacheMachine.GOING);
            Due.due("op " + op + ": place() after one more", x.place(), 51);
        }
    }

    /** "an instruction that ... halts ... counts, too" */
    private static void promise4HaltCounts() {
        for (int n : new int[] {1, 2, 400, GREATEST}) {
            CodeCacheMachine x = new CodeCacheMachine();
            Due.due("halt: run(" + n + ")", x.run(n), CodeCacheMachine.HALTED);
            Due.due("halt: executed()", x.executed(), 1);
            Due.due("halt: place()", x.place(), 0);
            x.reset(127);
            Due.due("halt at 127: run(" + n + ")", x.run(n), CodeCacheMachine.HALTED);
            Due.due("halt at 127: executed()", x.executed(), 1);
            Due.due("halt at 127: place()", x.place(), 127);
        }
    }

    /** "an instruction that ... makes the machine dead counts, too", one that can't be had among them. */
    private static void promise4DeathCounts() {
        for (int n : new int[] {1, 2, 400, GREATEST}) {
            for (int op : new int[] {Op.TRAP, 31, Op.read(1)}) {
                CodeCacheMachine x = new CodeCacheMachine();
                x.code(127, op, 3);
                x.reset(127);
                Due.due("op " + op + ": run(" + n + ")", x.run(n), CodeCacheMachine.DEAD);
                Due.due("op " + op + ": executed()", x.executed(), 1);
            }
            for (int place : new int[] {LEAST, -1, 128, GREATEST}) {
                CodeCacheMachine x = new CodeCacheMachine();
                x.reset(place);
                Due.due("at " + place + ": run(" + n + ")", x.run(n), CodeCacheMachine.DEAD);
                Due.due("at " + place + ": executed()", x.executed(), 1);
            }
        }
    }

    /** "if it had halted or was dead before nothing happens", though a good instruction stands there now. */
    private static void promise4NothingAfterTheEnd() {
        int[] ops = {Op.HALT, Op.TRAP};
        int[] ends = {CodeCacheMachine.HALTED, CodeCacheMachine.DEAD};
        for (int i = 0; i < ops.length; i++) {
            int op = ops[i];
            int end = ends[i];
            Supplier<CodeCacheMachine> maker = () -> {
                CodeCacheMachine x = Machines.ended(op);
                x.code(52, Op.set(1), 4);
                return x;
            };
            for (int n : new int[] {LEAST, -1, 0, 1, 400, 401, GREATEST}) {
                String what = "run(" + n + ") after " + end;
                Shot.changesNothing(what, maker, x -> Due.due(what, x.run(n), end));
            }
        }
    }

    /** "The number of instructions that all runs since the beginning ... have executed." */
    private static void promise5SinceTheBeginning() {
        CodeCacheMachine x = new CodeCacheMachine();
        Due.due("no run: executed()", x.executed(), 0);
        x.code(0, Op.jump(), 0);
        int[] asked = {0, 1, -1, 2, LEAST, 400, 401, GREATEST};
        int[] so = {0, 1, 1, 3, 3, 403, 803, 1203};
        for (int i = 0; i < asked.length; i++) {
            x.run(asked[i]);
            Due.due("after run(" + asked[i] + "): executed()", x.executed(), so[i]);
        }
    }

    /** "... or the latest reset": of a machine that goes, has halted or is dead, and of one that was just reset. */
    private static void promise5SinceTheLatestReset() {
        for (Supplier<CodeCacheMachine> maker : Machines.busyStates()) {
            CodeCacheMachine x = maker.get();
            Due.due("before: executed() is above 0", x.executed() > 0, true);
            for (int runs = 0; runs < 3; runs++) {
                x.reset(20);
                Due.due("after reset: executed()", x.executed(), 0);
                x.reset(20);
                Due.due("after two resets: executed()", x.executed(), 0);
                x.code(20, Op.jump(), 0);
                x.run(5 + runs);
                Due.due("run after reset: executed()", x.executed(), 5 + runs);
                x.code(20, runs == 0 ? Op.HALT : Op.TRAP, 0);
                x.run(9);
                Due.due("ended after reset: executed()", x.executed(), 6 + runs);
            }
        }
    }

    /** A new object's shot, but with the memory words of another and its place. */
    private static Map<String, Integer> asAtFirst(Map<String, Integer> before, int place) {
        Map<String, Integer> want = Shot.of(new CodeCacheMachine());
        want.put("place()", place);
        for (int p = 0; p < 128; p++) {
            want.put("peek(" + p + ")", before.get("peek(" + p + ")"));
        }
        return want;
    }

    /** "Makes everything as at first but the memory words" */
    private static void promise14AsAtFirst() {
        for (Supplier<CodeCacheMachine> maker : Machines.busyStates()) {
            Map<String, Integer> before = Shot.of(maker.get());
            for (int place : PLACES) {
                CodeCacheMachine x = maker.get();
                x.reset(place);
                Shot.due("reset(" + place + ")", x, asAtFirst(before, place));
            }
        }
    }

    /** "place is where the next instruction stands then" */
    private static void promise14PlaceOfTheNext() {
        for (Supplier<CodeCacheMachine> maker : Machines.busyStates()) {
            for (int place : PLACES) {
                CodeCacheMachine x = maker.get();
                boolean inside = x.code(place, Op.set(3), 77);
                x.reset(place);
                int end = inside ? CodeCacheMachine.GOING : CodeCacheMachine.DEAD;
                Due.due("reset(" + place + "), run(1)", x.run(1), end);
                Due.due("reset(" + place + "), run(1): register(3)", x.register(3), inside ? 77 : 0);
                Due.due("reset(" + place + "), run(1): place()", x.place(), inside ? place + 1 : place);
                Due.due("reset(" + place + "), run(1): SPOT", x.look(4), inside ? 0 : place);
            }
        }
    }

    /** A handler, a print and a trap after a reset do as on a new object: nothing that can't be asked for is left. */
    private static void promise14WorksAsANewObject() {
        for (Supplier<CodeCacheMachine> maker : Machines.busyStates()) {
            CodeCacheMachine x = maker.get();
            x.reset(0);
            CodeCacheMachine y = new CodeCacheMachine();
            usedAgain(x);
            usedAgain(y);
            Map<String, Integer> want = Shot.of(y);
            want.keySet().removeIf(call -> call.startsWith("peek"));
            Due.due("a new object: printed()", y.printed(), 2);
            Shot.due("used again after reset", x, want);
        }
    }

    private static void usedAgain(CodeCacheMachine x) {
        int[] ops = {Op.print(1), Op.set(2), Op.vector(2), Op.LEAVE};
        for (int p = 0; p < ops.length; p++) {
            x.code(p, ops[p], 30);
        }
        x.run(4);
        x.code(0, Op.load(1, 3), -1);
        x.code(30, Op.print(2), 0);
        x.code(31, Op.LEAVE, 0);
        x.run(3);
    }
}
