/** Promises 11 and 4: how places are translated, by translated() and by the instructions. */
public final class TranslationTest {
    public static void main(String[] args) {
        withoutPaging();
        everyPageAndFrame();
        wordsThatDoNotTranslate();
        unusedBitsDoNotMatter();
        tableAtTheEdges();
        tableSumDoesNotWrap();
        tableIsLookedAtAnew();
        askingChangesNothing();
        instructionsAreTranslated();
        wordsAreTranslated();
        codeMayChangeItsOwnTable();
        Due.finish();
    }

    private static void withoutPaging() {
        CodeCacheMachine x = new CodeCacheMachine();
        for (int p = 0; p < 128; p++) {
            Due.due("paging off: translated(" + p + ")", x.translated(p), p);
        }
        untranslatable("paging off", x);
    }

    private static void untranslatable(String when, CodeCacheMachine x) {
        for (int p : Machines.EDGES) {
            if (p < 0 || p > 127) {
                Due.due(when + ": translated(" + p + ")", x.translated(p), CodeCacheMachine.BAD);
            }
        }
    }

    private static void everyPageAndFrame() {
        for (int frame = 0; frame < 8; frame++) {
            CodeCacheMachine x = Machines.paged(40);
            for (int page = 0; page < 8; page++) {
                x.poke(40 + page, 1 + 16 * ((frame + page) % 8));
            }
            for (int p = 0; p < 128; p++) {
                int want = 16 * ((frame + p / 16) % 8) + p % 16;
                Due.due("frame " + frame + ": translated(" + p + ")", x.translated(p), want);
            }
            untranslatable("paging on", x);
        }
    }

    private static void wordsThatDoNotTranslate() {
        CodeCacheMachine x = Machines.paged(40);
        for (int word : new int[] {0, 2, 16, 114, -2, Integer.MIN_VALUE, 126}) {
            x.poke(41, word);
            for (int p = 16; p < 32; p++) {
                Due.due("table word " + word + ": translated(" + p + ")", x.translated(p), CodeCacheMachine.BAD);
            }
        }
    }

    private static void unusedBitsDoNotMatter() {
        CodeCacheMachine x = Machines.paged(40);
        for (int frame = 0; frame < 8; frame++) {
            for (int rest : new int[] {0, 2, 4, 8, 14, 128, 256, 0x7fffff80, 0x80000000, 0xffffff8e}) {
                x.poke(42, 1 + 16 * frame + rest);
                Due.due("rest " + rest + ": translated(37)", x.translated(37), 16 * frame + 5);
            }
        }
    }

    /** Page k is translated exactly if TABLE + k is a place. */
    private static void tableAtTheEdges() {
        for (int table : new int[] {-9, -8, -7, -1, 0, 1, 119, 120, 121, 126, 127, 128, 129}) {
            CodeCacheMachine x = Machines.paged(table);
            for (int p = 0; p < 128; p++) {
                x.poke(p, 1 + 16 * 7);
            }
            for (int page = 0; page < 8; page++) {
                boolean inside = table + page >= 0 && table + page <= 127;
                int want = inside ? 16 * 7 + 3 : CodeCacheMachine.BAD;
                Due.due("TABLE " + table + ": translated in page " + page, x.translated(16 * page + 3), want);
            }
        }
    }

    private static void tableSumDoesNotWrap() {
        for (int table : new int[] {Integer.MAX_VALUE, Integer.MAX_VALUE - 3, Integer.MIN_VALUE, Integer.MIN_VALUE + 7}) {
            CodeCacheMachine x = Machines.paged(table);
            for (int p = 0; p < 128; p++) {
                x.poke(p, 1);
            }
            for (int p = 0; p < 128; p += 15) {
                Due.due("TABLE " + table + ": translated(" + p + ")", x.translated(p), CodeCacheMachine.BAD);
            }
            Due.due("TABLE " + table + ": run(1)", x.run(1), CodeCacheMachine.DEAD);
            Due.due("TABLE " + table + ": SPOT", x.look(4), 2);
        }
    }

    private static void tableIsLookedAtAnew() {
        CodeCacheMachine x = Machines.paged(40);
        x.poke(40, 1);
        Due.due("before: translated(9)", x.translated(9), 9);
        x.poke(40, 33);
        Due.due("after poke: translated(9)", x.translated(9), 41);
        x.code(40, 16 + 1, 0);
        Due.due("after code: translated(9)", x.translated(9), 25);
        x.poke(40, 0);
        Due.due("after clearing: translated(9)", x.translated(9), CodeCacheMachine.BAD);
        x.reset(0);
        Due.due("after reset: translated(9)", x.translated(9), 9);
    }

    private static void askingChangesNothing() {
        CodeCacheMachine x = Machines.paged(40);
        x.translated(5);
        x.translated(128);
        Due.due("asked: SPOT", x.look(4), 0);
        Due.due("asked: CAUSE", x.look(3), 0);
        Due.due("asked: run(0)", x.run(0), CodeCacheMachine.GOING);
        Due.due("asked: executed()", x.executed(), 2);
    }

    private static void instructionsAreTranslated() {
        CodeCacheMachine x = Machines.paged(40);
        x.poke(40, 1 + 16 * 5);
        x.code(2, Op.set(1), 1);
        x.code(82, Op.set(1), 2);
        x.code(83, Op.of(18, 2), 4);
        Due.due("run(2) from another frame", x.run(2), CodeCacheMachine.GOING);
        Due.due("run(2) from another frame: register(1)", x.register(1), 2);
        Due.due("run(2) from another frame: place is not translated", x.place(), 7);
        Due.due("run(2) from another frame: ra of 18 is not translated", x.register(2), 4);
    }

    /** Two pages in one frame, and a page whose own place holds another word. */
    private static void wordsAreTranslated() {
        CodeCacheMachine x = Machines.paged(40);
        x.poke(40, 1);
        x.poke(41, 3 + 16 * 6);
        x.poke(43, 1 + 16 * 6);
        x.poke(20, 11);
        x.poke(52, 22);
        x.code(2, Op.store(1, 0), 20);
        x.code(3, Op.load(2, 0), 52);
        x.setRegister(1, 333);
        Due.due("store and load in one frame", x.run(2), CodeCacheMachine.GOING);
        Due.due("stored in the frame", x.peek(100), 333);
        Due.due("not stored at the place", x.peek(20), 11);
        Due.due("loaded from the frame", x.register(2), 333);
        Due.due("not stored at the other place", x.peek(52), 22);
    }

    /** A store into the table moves the very next instruction. */
    private static void codeMayChangeItsOwnTable() {
        CodeCacheMachine x = Machines.paged(40);
        x.poke(40, 3);
        x.poke(42, 3 + 16 * 2);
        x.code(2, Op.store(1, 0), 40);
        x.code(3, Op.set(2), 5);
        x.code(16 * 7 + 3, Op.set(2), 6);
        x.setRegister(1, 3 + 16 * 7);
        Due.due("run(2) over a changed table", x.run(2), CodeCacheMachine.GOING);
        Due.due("run(2) over a changed table: register(2)", x.register(2), 6);
    }
}
