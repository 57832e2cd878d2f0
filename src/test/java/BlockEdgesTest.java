/** The boundaries of blocks, promise 9, each under the sentence of the document that names it. */
public final class BlockEdgesTest {
    private static final int N = CycleSynthesis.NONE;

    public static void main(String[] args) {
        oneBeginsWithTheProgram();
        oneBeginsBehindTheBraceOfIf();
        oneBeginsBehindTheBraceOfElse();
        oneBeginsBehindTheBraceOfWhile();
        oneBeginsBehindAnIfWithoutElse();
        oneBeginsBehindAnElse();
        oneBeginsWithWhile();
        theEOfAWhileAloneIsOne();
        statementsBehindOneAnother();
        theEOfAnIfIsTheEnd();
        aBlockThatGetsNothingIsNone();
        whatShouldGoThereGoesOn();
        theWayIfSo();
        theWayIfNot();
        theWayBehindWhile();
        theWayBehindIf();
        theWayToTheEnd();
        noBlockBeforeTheFirstOrBehindTheLast();
        noOtherWhat();
        theBlockIsNamedFirst();
        theFirstOperation();
        howManyOperations();
        howManyCycles();
        asManyBlocksAsTheTapeHolds();
        Checks.finish();
    }

    private static int[] row(int... numbers) {
        return numbers;
    }

    /** How many operations each block has, where it goes, and where if not. */
    private static void dueBlocks(String text, int[] operations, int[] so, int[] otherwise) {
        CycleSynthesis x = Checks.made(text);
        Checks.dueOfBlocks(text, x, 2, operations);
        Checks.dueOfBlocks(text, x, 3, so);
        Checks.dueOfBlocks(text, x, 4, otherwise);
    }

    /** "BLOCKS ...: one begins with the program". */
    private static void oneBeginsWithTheProgram() {
        dueBlocks("", row(), row(), row());
        dueBlocks("a=1;", row(1), row(N), row(N));
        dueBlocks("if a{}", row(0), row(N), row(N));
        dueBlocks("while a{}", row(0), row(0), row(N));
        Checks.due("at() of a=1;", Checks.made("a=1;").at(), 0);
        Checks.due("at() of nothing", Checks.made(" ").at(), N);
    }

    /** "behind the { of if". */
    private static void oneBeginsBehindTheBraceOfIf() {
        dueBlocks("a=1;if a{}", row(1), row(N), row(N));
        dueBlocks("a=1;if a{b=1;}", row(1, 1), row(1, N), row(N, N));
        dueBlocks("a=1;if a{b=1;c=1;}", row(1, 2), row(1, N), row(N, N));
        dueBlocks("if a{if b{}}", row(0, 0), row(1, N), row(N, N));
    }

    /** "behind the { of ... else". */
    private static void oneBeginsBehindTheBraceOfElse() {
        dueBlocks("if a{}else{}", row(0), row(N), row(N));
        dueBlocks("if a{}else{b=1;}", row(0, 1), row(N, N), row(1, N));
        dueBlocks("if a{}else{b=1;c=1;}", row(0, 2), row(N, N), row(1, N));
        dueBlocks("if a{b=1;}else{c=1;}", row(0, 1, 1), row(1, N, N), row(2, N, N));
        dueBlocks("if a{}else{if b{}}", row(0, 0), row(N, N), row(1, N));
    }

    /** "behind the { of ... while". */
    private static void oneBeginsBehindTheBraceOfWhile() {
        dueBlocks("while a{}", row(0), row(0), row(N));
        dueBlocks("while a{b=1;}", row(0, 1), row(1, 0), row(N, N));
        dueBlocks("while a{b=1;c=1;}", row(0, 2), row(1, 0), row(N, N));
        dueBlocks("while a{if b{}}", row(0, 0), row(1, 0), row(N, 0));
    }

    /** "behind the } of an if without else". */
    private static void oneBeginsBehindAnIfWithoutElse() {
        dueBlocks("if a{b=1;}", row(0, 1), row(1, N), row(N, N));
        dueBlocks("if a{b=1;}c=1;", row(0, 1, 1), row(1, 2, N), row(2, N, N));
        dueBlocks("if a{b=1;}c=1;d=1;", row(0, 1, 2), row(1, 2, N), row(2, N, N));
        dueBlocks("if a{}c=1;", row(0, 1), row(1, N), row(1, N));
        dueBlocks("if a{}if b{}", row(0, 0), row(1, N), row(1, N));
    }

    /** "and of an else": none between the if's } and its else. */
    private static void oneBeginsBehindAnElse() {
        dueBlocks("if a{b=1;}else{c=1;}d=1;", row(0, 1, 1, 1), row(1, 3, 3, N), row(2, N, N, N));
        dueBlocks("if a{}else{}d=1;", row(0, 1), row(1, N), row(1, N));
        dueBlocks("if a{}else{}d=1;e=1;", row(0, 2), row(1, N), row(1, N));
        dueBlocks("if a{b=1;}else{}d=1;", row(0, 1, 1), row(1, 2, N), row(2, N, N));
        dueBlocks("if a{}else{c=1;}d=1;", row(0, 1, 1), row(2, 2, N), row(1, N, N));
        dueBlocks("if a{}else{}if b{}else{}", row(0, 0), row(1, N), row(1, N));
    }

    /** "and with while". */
    private static void oneBeginsWithWhile() {
        dueBlocks("a=1;while b{}", row(1, 0), row(1, 1), row(N, N));
        dueBlocks("a=1;b=1;while b{}", row(2, 0), row(1, 1), row(N, N));
        dueBlocks("if a{while b{}}", row(0, 0), row(1, 1), row(N, N));
        dueBlocks("while a{while b{}}", row(0, 0), row(1, 1), row(N, 0));
        dueBlocks("while a{}while b{}", row(0, 0), row(0, 1), row(1, N));
    }

    /** "(its E alone is one)": what stands before or behind is in others. */
    private static void theEOfAWhileAloneIsOne() {
        dueBlocks("a=1;while b+c{}d=1;", row(1, 1, 1), row(1, 1, N), row(N, 2, N));
        dueBlocks("while b+c*a{}d=1;e=1;", row(2, 2), row(0, N), row(1, N));
        dueBlocks("a=1;while b{}if c{}", row(1, 0, 0), row(1, 1, N), row(N, 2, N));
        dueBlocks("a=1;while m[b]<m[c]{d=1;}e=1;", row(1, 3, 1, 1), row(1, 2, 1, N), row(N, 3, N, N));
    }

    /** "What statements stand behind one another belongs to one block". */
    private static void statementsBehindOneAnother() {
        for (int many = 1; many <= 175; many++) {
            CycleSynthesis x = Checks.made("a=1;".repeat(many));
            Checks.due(many + " statements: told(0)", x.told(0), 1);
            Checks.due(many + " statements: block(0, 2)", x.block(0, 2), many);
        }
        dueBlocks("a=1;m[1]=2;b=m[3]+4;", row(4), row(N), row(N));
    }

    /** "with the E of an if as its end". */
    private static void theEOfAnIfIsTheEnd() {
        dueBlocks("if c+d{}", row(1), row(N), row(N));
        dueBlocks("a=1;if c+d{}", row(2), row(N), row(N));
        dueBlocks("a=1;b=1;if c+d{}", row(3), row(N), row(N));
        dueBlocks("a=1;if c+d{}e=1;", row(2, 1), row(1, N), row(1, N));
        dueBlocks("while a{b=1;if c+d{}}", row(0, 2), row(1, 0), row(N, 0));
        dueBlocks("if a{}b=1;if c+d{}", row(0, 2), row(1, N), row(1, N));
    }

    /** "A block that begins, but gets no statement and no E, is none". */
    private static void aBlockThatGetsNothingIsNone() {
        dueBlocks("\n", row(), row(), row());
        dueBlocks("if a{}", row(0), row(N), row(N));
        dueBlocks("if a{}else{}", row(0), row(N), row(N));
        dueBlocks("if a{if b{}else{}}else{if c{}}", row(0, 0, 0), row(1, N, N), row(2, N, N));
        dueBlocks("while a{if b{}}", row(0, 0), row(1, 0), row(N, 0));
        dueBlocks("if a{}while b{}", row(0, 0), row(1, 1), row(1, N));
        dueBlocks("while a{}if b{}", row(0, 0), row(0, N), row(1, N));
    }

    /** "(what should go there goes on)": behind any number of them. */
    private static void whatShouldGoThereGoesOn() {
        dueBlocks("if a{if b{}else{}}c=1;", row(0, 0, 1), row(1, 2, N), row(2, 2, N));
        dueBlocks("if a{if b{if c{}}}d=1;", row(0, 0, 0, 1), row(1, 2, 3, N), row(3, 3, 3, N));
        dueBlocks("while a{if b{if c{}}}d=1;", row(0, 0, 0, 1), row(1, 2, 0, N), row(3, 0, 0, N));
        dueBlocks("while a{while b{if c{}}}", row(0, 0, 0), row(1, 2, 1), row(N, 0, 1));
        dueBlocks("if a{while b{}}else{}while c{}", row(0, 0, 0), row(1, 1, 2), row(2, 2, N));
        dueBlocks("if a{if b{c=1;}}else{d=1;}", row(0, 0, 1, 1), row(1, 2, N, N), row(3, N, N, N));
    }

    /** "From a block with E it goes, if so, to what stands in { }". */
    private static void theWayIfSo() {
        Checks.due("if", Checks.made("if a{b=1;}c=1;").block(0, 3), 1);
        Checks.due("if, a while in it", Checks.made("if a{while b{}}c=1;").block(0, 3), 1);
        Checks.due("if, nothing in it", Checks.made("if a{}c=1;").block(0, 3), 1);
        Checks.due("if, nothing in it but an else", Checks.made("if a{}else{b=1;}c=1;").block(0, 3), 2);
        Checks.due("while", Checks.made("while a{b=1;}c=1;").block(0, 3), 1);
        Checks.due("while, nothing in it", Checks.made("while a{}c=1;").block(0, 3), 0);
    }

    /** "else to what stands behind that, or to the else". */
    private static void theWayIfNot() {
        Checks.due("if", Checks.made("if a{b=1;}c=1;").block(0, 4), 2);
        Checks.due("if, nothing behind it", Checks.made("if a{b=1;}").block(0, 4), N);
        Checks.due("else", Checks.made("if a{b=1;}else{c=1;}d=1;").block(0, 4), 2);
        Checks.due("else, nothing in it", Checks.made("if a{b=1;}else{}d=1;").block(0, 4), 2);
        Checks.due("while", Checks.made("while a{b=1;}c=1;").block(0, 4), 2);
        Checks.due("while, nothing in it", Checks.made("while a{}c=1;").block(0, 4), 1);
        Checks.due("while, nothing behind it", Checks.made("while a{b=1;}").block(0, 4), N);
        Checks.due("no E", Checks.made("a=1;while b{}").block(0, 4), N);
        Checks.due("no E, before an else's end", Checks.made("if a{b=1;}else{c=1;}d=1;").block(1, 4), N);
    }

    /** "behind while's { } back to its E". */
    private static void theWayBehindWhile() {
        dueBlocks("a=1;while b{c=1;}d=1;", row(1, 0, 1, 1), row(1, 2, 1, N), row(N, 3, N, N));
        dueBlocks("while a{b=1;while c{d=1;}}", row(0, 1, 0, 1), row(1, 2, 3, 2), row(N, N, 0, N));
        dueBlocks("while a{if b{c=1;}else{d=1;}}", row(0, 0, 1, 1), row(1, 2, 0, 0), row(N, 3, N, N));
    }

    /** "behind if's { } to what stands behind all of it". */
    private static void theWayBehindIf() {
        dueBlocks("if a{b=1;}c=1;", row(0, 1, 1), row(1, 2, N), row(2, N, N));
        dueBlocks("if a{b=1;}else{c=1;}", row(0, 1, 1), row(1, N, N), row(2, N, N));
        dueBlocks("if a{if b{c=1;}else{d=1;}}else{e=1;}f=1;",
            row(0, 0, 1, 1, 1, 1), row(1, 2, 5, 5, 5, N), row(4, 3, N, N, N, N));
        dueBlocks("while a{if b{c=1;}}d=1;", row(0, 0, 1, 1), row(1, 2, 0, N), row(3, 0, N, N));
    }

    /** "a block, or NONE for the end; (4) is NONE also when it has no E." */
    private static void theWayToTheEnd() {
        dueBlocks("a=1;", row(1), row(N), row(N));
        dueBlocks("if a{}", row(0), row(N), row(N));
        dueBlocks("if a{b=1;}", row(0, 1), row(1, N), row(N, N));
        dueBlocks("while a{b=1;}", row(0, 1), row(1, 0), row(N, N));
    }

    /** "IndexOutOfBoundsException: there is no such block." */
    private static void noBlockBeforeTheFirstOrBehindTheLast() {
        String text = "";
        for (int many = 0; many <= 4; many++) {
            CycleSynthesis x = Checks.made(text);
            int behind = many;
            Checks.due("told(0)", x.told(0), many);
            Checks.throwsIndex("block(-1, 0)", () -> x.block(-1, 0));
            Checks.throwsIndex("block(" + many + ", 0)", () -> x.block(behind, 0));
            Checks.throwsIndex("block(" + many + " + 1, 0)", () -> x.block(behind + 1, 0));
            Checks.throwsIndex("block(MIN, 0)", () -> x.block(Integer.MIN_VALUE, 0));
            Checks.throwsIndex("block(MAX, 0)", () -> x.block(Integer.MAX_VALUE, 0));
            for (int block = 0; block < many; block++) {
                Checks.due("block(" + block + ", 0)", x.block(block, 0), 1);
            }
            text += "if 1{}";
        }
    }

    /** "IllegalArgumentException: another what." */
    private static void noOtherWhat() {
        CycleSynthesis x = Checks.made("a=1;if b+c{d=m[1];}");
        for (int block = 0; block <= 1; block++) {
            int asked = block;
            Checks.throwsArgument("what -1", () -> x.block(asked, -1));
            Checks.throwsArgument("what 5", () -> x.block(asked, 5));
            Checks.throwsArgument("what 6", () -> x.block(asked, 6));
            Checks.throwsArgument("what MIN", () -> x.block(asked, Integer.MIN_VALUE));
            Checks.throwsArgument("what MAX", () -> x.block(asked, Integer.MAX_VALUE));
        }
        int[] first = {1, 0, 2, 1, N};
        int[] second = {1, 2, 1, N, N};
        for (int what = 0; what <= 4; what++) {
            Checks.due("block(0, " + what + ")", x.block(0, what), first[what]);
            Checks.due("block(1, " + what + ")", x.block(1, what), second[what]);
        }
    }

    /** "Methods throw what their comments name, the one named first when several would do". */
    private static void theBlockIsNamedFirst() {
        CycleSynthesis x = Checks.made("a=1;");
        for (int block : new int[] {-1, 1, Integer.MIN_VALUE, Integer.MAX_VALUE}) {
            for (int what : new int[] {-1, 5, Integer.MIN_VALUE, Integer.MAX_VALUE}) {
                Checks.throwsIndex("block(" + block + ", " + what + ")", () -> x.block(block, what));
            }
        }
        CycleSynthesis none = new CycleSynthesis();
        Checks.throwsIndex("block(0, 5)", () -> none.block(0, 5));
        Checks.throwsIndex("block(0, -1)", () -> none.block(0, -1));
    }

    /** "its first operation (1; NONE without any)". */
    private static void theFirstOperation() {
        Checks.dueOfBlocks("none", Checks.made("if a{}"), 1, N);
        Checks.dueOfBlocks("one", Checks.made("if a+b{}"), 1, 0);
        Checks.dueOfBlocks("two", Checks.made("if a+b*c{}"), 1, 0);
        Checks.dueOfBlocks("none between", Checks.made("a=1;while b{c=1;}d=1;"), 1, 0, N, 1, 2);
        Checks.dueOfBlocks("none first", Checks.made("if a{b=1;c=1;}else{d=1;}"), 1, N, 0, 2);
        Checks.dueOfBlocks("none last", Checks.made("a=b+c-d;if e{}if f{}"), 1, 0, N);
    }

    /** "how many it has (2)". */
    private static void howManyOperations() {
        Checks.dueOfBlocks("each", Checks.made("if a{b=1;c=1;}else{d=m[e+f];}g=1;while h{}"), 2, 0, 2, 2, 1, 0);
        Checks.due("200", Checks.made("a=" + "1*".repeat(200) + "1;").block(0, 2), 200);
        Checks.due("199", Checks.made("a=" + "1*".repeat(199) + "1;").block(0, 2), 199);
    }

    /** "cycles (what = 0)": "as many cycles as there are up to the last end, 1 at least." */
    private static void howManyCycles() {
        Checks.due("no operation", Checks.made("if a{}").block(0, 0), 1);
        for (int many = 1; many <= 30; many++) {
            Checks.due(many + " sums", Checks.made("a=" + "1+".repeat(many) + "1;").block(0, 0), many);
        }
    }

    /** "up to 700 bytes": what has most blocks of all. */
    private static void asManyBlocksAsTheTapeHolds() {
        CycleSynthesis most = Checks.made("if1{}".repeat(140));
        Checks.due("told(0)", most.told(0), 140);
        Checks.throwsIndex("block(140, 0)", () -> most.block(140, 0));
        Checks.due("block(139, 3)", most.block(139, 3), N);
        Checks.due("block(138, 3)", most.block(138, 3), 139);
        dueMany("if1{".repeat(10) + "}".repeat(10) + "if1{}".repeat(130), 140);
        dueMany("if1{".repeat(9) + "if1{}".repeat(131) + "}".repeat(9), 140);
        dueMany("while1{}".repeat(87) + "a=1;", 88);
        dueMany("while1{a=1;}".repeat(58) + "b=1;", 117);
        dueMany("if1{a=1;}".repeat(77) + "if1{}", 155);
        dueMany("if1{".repeat(9) + "if1{a=1;}".repeat(72) + "}".repeat(9) + "if1{}", 154);
        dueMany("if1{a=1;}else{b=1;}".repeat(36), 108);
        Checks.dueFault("if1{".repeat(9) + "if1{a=1;}".repeat(73) + "if1{a=1", 1, 700);
        Checks.dueFault("while1{".repeat(9) + "while1{}".repeat(79) + "while", 1, 700);
        Checks.dueFault("if1{".repeat(9) + "if1{}".repeat(132) + "if1{", 1, 700);
    }

    private static void dueMany(String text, int blocks) {
        CycleSynthesis x = Checks.made(text);
        Checks.due("told(0) of " + text, x.told(0), blocks);
        Checks.throwsIndex("block(" + blocks + ", 0) of " + text, () -> x.block(blocks, 0));
        Checks.due("block(" + (blocks - 1) + ", 3) of " + text, x.block(blocks - 1, 3), N);
    }
}
