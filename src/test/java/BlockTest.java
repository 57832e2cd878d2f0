/** Promise 9, and told(0) of promise 8: blocks, their operations and where they go. */
public final class BlockTest {
    private static final int N = CycleSynthesis.NONE;

    public static void main(String[] args) {
        statementsBehindOneAnother();
        ifs();
        ifsWithoutStatements();
        whiles();
        whilesWithoutStatements();
        nested();
        operationsOfBlocks();
        refusals();
        blocksAreOfTheLastProgram();
        manyBlocks();
        Checks.finish();
    }

    private static int[] row(int... numbers) {
        return numbers;
    }

    private static void dueWays(String text, int[] so, int[] otherwise) {
        CycleSynthesis x = Checks.made(text);
        Checks.dueOfBlocks(text, x, 3, so);
        Checks.dueOfBlocks(text, x, 4, otherwise);
        Checks.due(text + ": at()", x.at(), so.length == 0 ? N : 0);
    }

    private static void statementsBehindOneAnother() {
        dueWays("", row(), row());
        dueWays(" ", row(), row());
        dueWays("a=1;", row(N), row(N));
        dueWays("a=1;b=2;m[1]=a;", row(N), row(N));
    }

    private static void ifs() {
        dueWays("if a{b=1;}", row(1, N), row(N, N));
        dueWays("if a{b=1;}c=2;", row(1, 2, N), row(2, N, N));
        dueWays("if a{b=1;}else{c=2;}", row(1, N, N), row(2, N, N));
        dueWays("if a{b=1;}else{c=2;}d=3;", row(1, 3, 3, N), row(2, N, N, N));
        dueWays("a=1;if b{c=1;}if d{e=1;}", row(1, 2, 3, N), row(2, N, N, N));
        dueWays("if a{b=1;if c{d=1;}e=1;}", row(1, 2, 3, N), row(N, 3, N, N));
    }

    private static void ifsWithoutStatements() {
        dueWays("if a{}", row(N), row(N));
        dueWays("if a{}else{}", row(N), row(N));
        dueWays("if a{}b=1;", row(1, N), row(1, N));
        dueWays("if a{}else{}b=1;", row(1, N), row(1, N));
        dueWays("if a{}else{b=1;}c=1;", row(2, 2, N), row(1, N, N));
        dueWays("if a{b=1;}else{}c=1;", row(1, 2, N), row(2, N, N));
        dueWays("a=1;if b{}if c{}", row(1, N), row(1, N));
        dueWays("if a{if b{if c{}}}", row(1, 2, N), row(N, N, N));
        dueWays("if a{if b{}}else{if c{}}d=1;", row(1, 3, 3, N), row(2, 3, 3, N));
        dueWays("if a{b=1;if c{}d=1;}", row(1, 2, N), row(N, 2, N));
    }

    private static void whiles() {
        dueWays("while a{b=1;}", row(1, 0), row(N, N));
        dueWays("while a{b=1;}c=1;", row(1, 0, N), row(2, N, N));
        dueWays("a=1;while b{c=1;}d=1;", row(1, 2, 1, N), row(N, 3, N, N));
        dueWays("a=1;while b{c=1;d=1;while e{f=1;}g=1;}",
            row(1, 2, 3, 4, 3, 1), row(N, N, N, 5, N, N));
        dueWays("while a{b=1;}while c{d=1;}", row(1, 0, 3, 2), row(2, N, N, N));
    }

    private static void whilesWithoutStatements() {
        dueWays("while a{}", row(0), row(N));
        dueWays("while a{}while b{}", row(0, 1), row(1, N));
        dueWays("while a{while b{}}", row(1, 1), row(N, 0));
        dueWays("while a{while b{while c{}}}d=1;", row(1, 2, 2, N), row(3, 0, 1, N));
    }

    private static void nested() {
        dueWays("while a{if b{}}", row(1, 0), row(N, 0));
        dueWays("while a{if b{}else{c=1;}}d=1;", row(1, 0, 0, N), row(3, 2, N, N));
        dueWays("while a{if b{c=1;}}", row(1, 2, 0), row(N, 0, N));
        dueWays("while a{if b{}if c{}}", row(1, 2, 0), row(N, 2, 0));
        dueWays("if a{while b{}}c=1;", row(1, 1, N), row(2, 2, N));
        dueWays("if a{}else{while b{}}", row(N, 1), row(1, N));
        dueWays("if a{while b{c=1;}}else{if d{}}e=1;", row(1, 2, 1, 4, N), row(3, 4, N, 4, N));
        dueWays("if a{b=1;while c{}d=1;}e=1;", row(1, 2, 2, 4, N), row(4, N, 3, N, N));
        dueWays("while a{if b{while c{}}else{}}", row(1, 2, 2), row(N, 0, 0));
    }

    private static void operationsOfBlocks() {
        String text = "a=1;b=2+3*4;if a+b<c{m[1]=2;}while d{}e=m[m[2]];";
        CycleSynthesis x = Checks.made(text);
        Checks.dueOfBlocks(text, x, 1, 0, 5, N, 6);
        Checks.dueOfBlocks(text, x, 2, 5, 1, 0, 2);
        Checks.dueOfBlocks(text, x, 3, 1, 2, 2, N);
        Checks.dueOfBlocks(text, x, 4, 2, N, 3, N);
        Checks.dueOfOperations(text, x, 1, 0, 0, 0, 0, 0, 1, 3, 3);
        Checks.dueOfBlocks(text, x, 0, 4, 1, 1, 2);

        String loop = "a=5;while a-1{a=a-1;if m[a]{}}";
        x = Checks.made(loop);
        Checks.dueOfBlocks(loop, x, 1, 0, 1, 2);
        Checks.dueOfBlocks(loop, x, 2, 1, 1, 2);
        Checks.dueOfOperations(loop, x, 1, 0, 1, 2, 2);
    }

    private static void refusals() {
        CycleSynthesis x = Checks.made("a=1;if a{b=1;}");
        int[] noBlocks = {-1, 2, 3, 175, Integer.MAX_VALUE, Integer.MIN_VALUE};
        for (int block : noBlocks) {
            Checks.throwsIndex("block(" + block + ", 0)", () -> x.block(block, 0));
            Checks.throwsIndex("block(" + block + ", 5)", () -> x.block(block, 5));
        }
        int[] noWhats = {-1, 5, 6, Integer.MAX_VALUE, Integer.MIN_VALUE};
        for (int what : noWhats) {
            Checks.throwsArgument("block(1, " + what + ")", () -> x.block(1, what));
        }
        Checks.due("block(1, 1)", x.block(1, 1), 1);
    }

    private static void blocksAreOfTheLastProgram() {
        CycleSynthesis x = Checks.made("if a{b=1;}else{c=1;}d=1;");
        Checks.due("told(0)", x.told(0), 4);
        Checks.due("compile()", Checks.compile(x, "a=1;"), 1);
        Checks.dueOfBlocks("the second", x, 3, N);
        Checks.due("compile()", Checks.compile(x, "while a{}"), 0);
        Checks.dueOfBlocks("the third", x, 3, 0);
        Checks.dueOfBlocks("the third", x, 1, N);
    }

    /** As many as a tape can hold. */
    private static void manyBlocks() {
        CycleSynthesis x = Checks.made("if1{}".repeat(140));
        Checks.due("told(0)", x.told(0), 140);
        Checks.due("told(1)", x.told(1), 140);
        Checks.due("block(138, 4)", x.block(138, 4), 139);
        Checks.due("block(139, 3)", x.block(139, 3), N);
        Checks.due("run(5000)", x.run(5000), 140);

        Checks.due("while: told(0)", Checks.made("while1{}".repeat(87)).told(0), 87);
        Checks.due("else: told(0)", Checks.made("if1{}else{}".repeat(63) + "if1{}").told(0), 64);
        Checks.due("all: told(0)", Checks.made("if1{a=1;}b=1;".repeat(53)).told(0), 107);
        Checks.dueFault("if1{}".repeat(139) + "if1{b", 1, 700);
        Checks.dueFault("if1{}".repeat(139) + "if(if", 1, 698);
    }
}
