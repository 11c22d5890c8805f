/**
 * The boundary cases of translation in the document's Terms, each in a test of its own: as translated() answers them,
 * and as the place of an instruction, of 12 and of 13 meets them.
 */
public final class TranslationEdgesTest {
    private static final int LEAST = Integer.MIN_VALUE;
    private static final int GREATEST = Integer.MAX_VALUE;
    private static final int[] INSIDE = {0, 127};
    private static final int[] OUTSIDE = {LEAST, -1, 128, GREATEST};

    public static void main(String[] args) {
        promise11BadIfItCantBe();
        placeIsAsked();
        placeOfAnInstruction();
        placeOfAWordRead();
        placeOfAWordWritten();
        entryOfTheAskedPlace();
        entryOfAnInstruction();
        entryOfAWord();
        entryAtTheIntsEnds();
        evenWordIsAsked();
        evenWordOfAnInstruction();
        evenWordOfAWord();
        writingWithoutBit1();
        readingWithoutBit1();
        bits4To6Alone();
        tableWordStoredIsSeen();
        Due.finish();
    }

    /** All places are translated to themselves, through a table or not; inner mode, place 52. */
    private static CodeCacheMachine open(int paging) {
        return Machines.busyInner(50, paging);
    }

    private static void dead(String what, CodeCacheMachine x, int spot) {
        Due.due(what + ": run(1)", x.run(1), CodeCacheMachine.DEAD);
        Due.due(what + ": SPOT", x.look(4), spot);
    }

    /** "What place p is translated to for reading now; BAD if it can't be.": one place by every reason, and now. */
    private static void promise11BadIfItCantBe() {
        CodeCacheMachine x = open(1);
        Due.due("asked: translated(127)", x.translated(127), 127);
        Due.due("asked outside: translated(128)", x.translated(128), CodeCacheMachine.BAD);
        x.poke(71, 2 + 16 * 7);
        Due.due("even word: translated(127)", x.translated(127), CodeCacheMachine.BAD);
        x.poke(71, 1 + 16 * 6);
        Due.due("for reading alone: translated(127)", x.translated(127), 111);
        x.code(52, Op.table(1), 0);
        x.setRegister(1, 121);
        x.run(1);
        Due.due("entry outside: translated(127)", x.translated(127), CodeCacheMachine.BAD);
        x.reset(0);
        Due.due("paging off: translated(127)", x.translated(127), 127);
        Due.due("paging off: translated(128)", x.translated(128), CodeCacheMachine.BAD);
    }

    /** "A place p that is not from 0 to 127 can't be TRANSLATED." */
    private static void placeIsAsked() {
        for (int paging = 0; paging <= 1; paging++) {
            CodeCacheMachine x = open(paging);
            for (int p : INSIDE) {
                Due.due("paging " + paging + ": translated(" + p + ")", x.translated(p), p);
            }
            for (int p : OUTSIDE) {
                Due.due("paging " + paging + ": translated(" + p + ")", x.translated(p), CodeCacheMachine.BAD);
            }
        }
    }

    /** "A place that can't be translated (that of the instruction ...)" */
    private static void placeOfAnInstruction() {
        for (int paging = 0; paging <= 1; paging++) {
            for (int p : INSIDE) {
                CodeCacheMachine x = at(paging, p);
                x.code(p, Op.set(3), 77);
                Due.due("instruction at " + p, x.run(1), CodeCacheMachine.GOING);
                Due.due("instruction at " + p + ": register(3)", x.register(3), 77);
                Due.due("instruction at " + p + ": place()", x.place(), p + 1);
            }
            for (int p : OUTSIDE) {
                CodeCacheMachine x = at(paging, p);
                dead("instruction at " + p, x, p);
                Due.due("instruction at " + p + ": place()", x.place(), p);
            }
        }
    }

    private static CodeCacheMachine at(int paging, int p) {
        CodeCacheMachine x = open(paging);
        x.code(52, Op.jumpTo(1), 0);
        x.setRegister(1, p);
        Due.due("jump to " + p, x.run(1), CodeCacheMachine.GOING);
        return x;
    }

    /** "A place that can't be translated (... that of a word in 12 ...)" */
    private static void placeOfAWordRead() {
        for (int paging = 0; paging <= 1; paging++) {
            for (int p : INSIDE) {
                CodeCacheMachine x = with(paging, Op.load(1, 2), p);
                Due.due("load from " + p, x.run(1), CodeCacheMachine.GOING);
                Due.due("load from " + p + ": register(1)", x.register(1), x.peek(p));
            }
            for (int p : OUTSIDE) {
                CodeCacheMachine x = with(paging, Op.load(1, 2), p);
                dead("load from " + p, x, p);
                Due.due("load from " + p + ": register(1)", x.register(1), -12);
            }
        }
    }

    /** "A place that can't be translated (... that of a word in ... 13)" */
    private static void placeOfAWordWritten() {
        for (int paging = 0; paging <= 1; paging++) {
            for (int p : INSIDE) {
                CodeCacheMachine x = with(paging, Op.store(1, 2), p);
                Due.due("store to " + p, x.run(1), CodeCacheMachine.GOING);
                Due.due("store to " + p + ": peek", x.peek(p), -12);
            }
            for (int p : OUTSIDE) {
                CodeCacheMachine x = with(paging, Op.store(1, 2), p);
                int[] words = {x.peek(0), x.peek(127)};
                dead("store to " + p, x, p);
                Due.due("store to " + p + ": peek(0)", x.peek(0), words[0]);
                Due.due("store to " + p + ": peek(127)", x.peek(127), words[1]);
            }
        }
    }

    private static CodeCacheMachine with(int paging, int op, int r2) {
        CodeCacheMachine x = open(paging);
        x.code(52, op, 0);
        x.setRegister(2, r2);
        return x;
    }

    /** At place 2 of a page, under paging; every word of the memory would do as the entry of that page. */
    private static CodeCacheMachine anyEntry(int table, int page) {
        CodeCacheMachine x = Machines.paged(table, page);
        for (int p = 0; p < 128; p++) {
            x.poke(p, 3 + 16 * page);
        }
        return x;
    }

    /** "if e is not from 0 to 127 ... p can't be translated" */
    private static void entryOfTheAskedPlace() {
        int[][] inside = {{-7, 7}, {-1, 1}, {0, 0}, {120, 7}, {126, 1}, {127, 0}};
        int[][] outside = {{-8, 7}, {-2, 1}, {-1, 0}, {121, 7}, {127, 1}, {128, 0}};
        for (int[] pair : inside) {
            CodeCacheMachine x = anyEntry(pair[0], pair[1]);
            for (int p : new int[] {16 * pair[1], 16 * pair[1] + 15}) {
                Due.due("TABLE " + pair[0] + ": translated(" + p + ")", x.translated(p), p);
            }
        }
        for (int[] pair : outside) {
            CodeCacheMachine x = anyEntry(pair[0], pair[1]);
            for (int p : new int[] {16 * pair[1], 16 * pair[1] + 15}) {
                Due.due("TABLE " + pair[0] + ": translated(" + p + ")", x.translated(p), CodeCacheMachine.BAD);
            }
        }
    }

    private static void entryOfAnInstruction() {
        int[][] inside = {{-7, 7}, {0, 0}, {120, 7}, {127, 0}};
        int[][] outside = {{-8, 7}, {-1, 0}, {121, 7}, {128, 0}};
        for (int[] pair : inside) {
            CodeCacheMachine x = anyEntry(pair[0], pair[1]);
            x.code(16 * pair[1] + 2, Op.set(3), 77);
            Due.due("instruction under TABLE " + pair[0], x.run(1), CodeCacheMachine.GOING);
            Due.due("instruction under TABLE " + pair[0] + ": register(3)", x.register(3), 77);
        }
        for (int[] pair : outside) {
            CodeCacheMachine x = anyEntry(pair[0], pair[1]);
            x.code(16 * pair[1] + 2, Op.set(3), 77);
            dead("instruction under TABLE " + pair[0], x, 16 * pair[1] + 2);
            Due.due("instruction under TABLE " + pair[0] + ": register(3)", x.register(3), 0);
        }
    }

    /** The instruction in one page, its word at the first place of the next or of the one before. */
    private static void entryOfAWord() {
        int[][] inside = {{0, 1, 0}, {-6, 7, 6}, {120, 6, 7}, {126, 0, 1}};
        int[][] outside = {{-1, 1, 0}, {-7, 7, 6}, {121, 6, 7}, {127, 0, 1}};
        for (int[] three : inside) {
            CodeCacheMachine x = wordInAnotherPage(three, Op.load(3, 2));
            Due.due("load under TABLE " + three[0], x.run(1), CodeCacheMachine.GOING);
            Due.due("load under TABLE " + three[0] + ": register(3)", x.register(3), x.peek(16 * three[1]));
            x = wordInAnotherPage(three, Op.store(4, 2));
            Due.due("store under TABLE " + three[0], x.run(1), CodeCacheMachine.GOING);
            Due.due("store under TABLE " + three[0] + ": peek", x.peek(16 * three[1]), 99);
        }
        for (int[] three : outside) {
            dead("load under TABLE " + three[0], wordInAnotherPage(three, Op.load(3, 2)), 16 * three[2]);
            dead("store under TABLE " + three[0], wordInAnotherPage(three, Op.store(4, 2)), 16 * three[2]);
        }
    }

    /** three: TABLE, the page of the instruction, and that of the word, which the same frame holds. */
    private static CodeCacheMachine wordInAnotherPage(int[] three, int op) {
        CodeCacheMachine x = anyEntry(three[0], three[1]);
        x.code(16 * three[1] + 2, op, 0);
        x.setRegister(2, 16 * three[2]);
        x.setRegister(4, 99);
        return x;
    }

    /** "TABLE + (p >> 4), as a sum that does not wrap": the ends of the ints, and where the sum passes the end. */
    private static void entryAtTheIntsEnds() {
        for (int table : new int[] {LEAST, LEAST + 7, GREATEST - 7, GREATEST - 6, GREATEST}) {
            for (int page = 0; page < 8; page++) {
                CodeCacheMachine x = anyEntry(table, page);
                int p = 16 * page + 2;
                Due.due("TABLE " + table + ": translated(" + p + ")", x.translated(p), CodeCacheMachine.BAD);
                dead("instruction under TABLE " + table, x, p);
            }
        }
    }

    private static final int[] EVEN = {0, 2, 16 + 2, -2, LEAST, LEAST + 2, GREATEST - 1};
    private static final int[] ODD = {1, 3, 16 + 1, -1, LEAST + 1, LEAST + 3, GREATEST};

    /** "the memory word at e is even" */
    private static void evenWordIsAsked() {
        CodeCacheMachine x = Machines.paged(40);
        for (int word : EVEN) {
            x.poke(47, word);
            Due.due("table word " + word + ": translated(117)", x.translated(117), CodeCacheMachine.BAD);
        }
        for (int word : ODD) {
            x.poke(47, word);
            Due.due("table word " + word + ": translated(117)", x.translated(117), frame(word) + 5);
        }
    }

    private static int frame(int word) {
        return Math.floorMod(Math.floorDiv(word, 16), 8) * 16;
    }

    private static void evenWordOfAnInstruction() {
        for (int word : EVEN) {
            CodeCacheMachine x = Machines.paged(40);
            x.poke(40, word);
            dead("instruction by table word " + word, x, 2);
        }
        for (int word : ODD) {
            CodeCacheMachine x = Machines.paged(40);
            x.poke(40, word);
            x.code(frame(word) + 2, Op.set(3), 77);
            Due.due("instruction by table word " + word, x.run(1), CodeCacheMachine.GOING);
            Due.due("instruction by table word " + word + ": register(3)", x.register(3), 77);
        }
    }

    /** A word with bit 1 is no better for writing, if it is even. */
    private static void evenWordOfAWord() {
        for (int word : EVEN) {
            dead("load by table word " + word, byWord(word, Op.load(3, 0)), 117);
            dead("store by table word " + word, byWord(word, Op.store(4, 0)), 117);
        }
        for (int word : ODD) {
            CodeCacheMachine x = byWord(word, Op.load(3, 0));
            x.poke(frame(word) + 5, 66);
            Due.due("load by table word " + word, x.run(1), CodeCacheMachine.GOING);
            Due.due("load by table word " + word + ": register(3)", x.register(3), 66);
        }
    }

    /** An instruction at place 2 whose word is at 117, page 7, with the given word of the table. */
    private static CodeCacheMachine byWord(int word, int op) {
        CodeCacheMachine x = Machines.paged(40);
        x.poke(40, 1);
        x.poke(47, word);
        x.code(2, op, 117);
        x.setRegister(4, 99);
        return x;
    }

    private static final int[] WITHOUT_BIT_1 = {1, 5, 16 + 1, -3, LEAST + 1, GREATEST - 2};
    private static final int[] WITH_BIT_1 = {3, 7, 16 + 3, -1, LEAST + 3, GREATEST};

    /** "nor, for writing, if that word has bit 1 not set" */
    private static void writingWithoutBit1() {
        for (int word : WITHOUT_BIT_1) {
            CodeCacheMachine x = byWord(word, Op.store(4, 0));
            x.poke(frame(word) + 5, 66);
            dead("store by table word " + word, x, 117);
            Due.due("store by table word " + word + ": peek", x.peek(frame(word) + 5), 66);
        }
        for (int word : WITH_BIT_1) {
            CodeCacheMachine x = byWord(word, Op.store(4, 0));
            Due.due("store by table word " + word, x.run(1), CodeCacheMachine.GOING);
            Due.due("store by table word " + word + ": peek", x.peek(frame(word) + 5), 99);
        }
    }

    /** The same words, but for reading: asked, as a word of 12 and as an instruction. */
    private static void readingWithoutBit1() {
        for (int word : WITHOUT_BIT_1) {
            CodeCacheMachine x = byWord(word, Op.load(3, 0));
            x.poke(frame(word) + 5, 66);
            Due.due("table word " + word + ": translated(117)", x.translated(117), frame(word) + 5);
            Due.due("load by table word " + word, x.run(1), CodeCacheMachine.GOING);
            Due.due("load by table word " + word + ": register(3)", x.register(3), 66);
            x.code(3, Op.jump(), 114);
            x.code(frame(word) + 5, Op.set(3), 77);
            Due.due("instruction by table word " + word, x.run(2), CodeCacheMachine.GOING);
            Due.due("instruction by table word " + word + ": register(3)", x.register(3), 77);
        }
    }

    /** "16 * (bits 4 to 6 of that word) + (p & 15)" */
    private static void bits4To6Alone() {
        CodeCacheMachine x = Machines.paged(40);
        int[] words = {1 + 8, 1 + 16, 1 + 64, 1 + 112, 1 + 128, 1 + 112 + 128, LEAST + 1 + 112, -1};
        int[] frames = {0, 16, 64, 112, 0, 112, 112, 112};
        for (int i = 0; i < words.length; i++) {
            x.poke(40, words[i]);
            x.poke(47, words[i]);
            for (int last : new int[] {0, 15}) {
                String word = "table word " + words[i] + ": ";
                Due.due(word + "translated(" + last + ")", x.translated(last), frames[i] + last);
                Due.due(word + "translated(" + (112 + last) + ")", x.translated(112 + last), frames[i] + last);
            }
        }
    }

    /** "(The table is looked at anew each time.)": a store closes, then opens, what the next instruction reads. */
    private static void tableWordStoredIsSeen() {
        for (int after = 0; after <= 1; after++) {
            CodeCacheMachine x = Machines.paged(40);
            x.poke(40, 3);
            x.poke(42, 3 + 32);
            x.poke(47, 1 - after);
            x.code(2, Op.store(1, 0), 47);
            x.code(3, Op.load(3, 0), 117);
            x.poke(5, 66);
            x.setRegister(1, after);
            int want = after == 1 ? CodeCacheMachine.GOING : CodeCacheMachine.DEAD;
            Due.due("table word becomes " + after + ": run(2)", x.run(2), want);
            Due.due("table word becomes " + after + ": register(3)", x.register(3), after * 66);
        }
    }
}
