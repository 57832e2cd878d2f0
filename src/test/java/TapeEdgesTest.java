/** The boundaries of the tape, promises 1 to 3, each under the sentence of the document that names it. */
public final class TapeEdgesTest {
    private static final int NONE = CycleSynthesis.NONE;
    private static final int MOST = 700;
    private static final long BLANKS = 0x2020202020202020L;
    private static final long BRACES = 0x7d7d7d7d7d7d7d7dL;

    public static void main(String[] args) {
        all512CallsAnswer();
        all512CallsCompile();
        aNewObjectHasNothing();
        aNewObjectHasOneUnitOfEachKind();
        aNewObjectHasLatenciesOf1();
        noMoreThan700Bytes();
        onto699And700();
        nothingOfWhatIsRefusedComes();
        oneToEightBytes();
        theLowestBytes();
        theLowestByteFirst();
        bytesOfEightBits();
        theSecondFeedComesBehindTheFirst();
        wipeTellsHowManyItHad();
        wipeLeavesNothing();
        wipeLeavesProgramAndFault();
        Checks.finish();
    }

    private static CycleSynthesis withBlanks(int many) {
        CycleSynthesis x = new CycleSynthesis();
        for (int had = 0; had + 8 <= many; had += 8) {
            x.feed(8, BLANKS);
        }
        if (many % 8 > 0) {
            x.feed(many % 8, BLANKS);
        }
        return x;
    }

    /** "An object is used for at most 512 calls after it has been made". */
    private static void all512CallsAnswer() {
        CycleSynthesis x = new CycleSynthesis();
        x.feed(6, Checks.packed("a=a+1;"));
        x.compile();
        for (int call = 3; call < 511; call += 2) {
            Checks.due("call " + call + ": run(1)", x.run(1), 1);
            x.restart();
        }
        Checks.due("call 511: run(1)", x.run(1), 1);
        Checks.due("call 512: get(0)", x.get(0), 255);
    }

    /** The same, with a tape that needs most of whatever a program is kept in. */
    private static void all512CallsCompile() {
        CycleSynthesis x = new CycleSynthesis();
        Checks.feed(x, "if1{}".repeat(140));
        for (int call = 89; call <= 512; call++) {
            Checks.due("call " + call + ": compile()", x.compile(), 0);
        }
        x = new CycleSynthesis();
        Checks.feed(x, "a=" + "1*".repeat(199) + "1;b=1;" + "while1{}".repeat(36));
        for (int call = 89; call <= 512; call += 2) {
            Checks.due("call " + call + ": compile()", x.compile(), 200);
            Checks.due("call " + (call + 1) + ": told(0)", x.told(0), 37);
        }
    }

    /** "An empty tape; the program without statements; ... all variables and cells 0." */
    private static void aNewObjectHasNothing() {
        Checks.due("wipe()", new CycleSynthesis().wipe(), 0);
        Checks.due("feed(1)", new CycleSynthesis().feed(1, ' '), 1);
        CycleSynthesis x = new CycleSynthesis();
        Checks.due("told(0)", x.told(0), 0);
        Checks.throwsIndex("block(0, 0)", () -> x.block(0, 0));
        Checks.throwsIndex("operation(0, 0)", () -> x.operation(0, 0));
        Checks.due("at()", x.at(), NONE);
        Checks.due("cycles()", x.cycles(), 0);
        Checks.due("fault()", x.fault(), 0);
        Checks.due("place()", x.place(), NONE);
        for (int variable = 0; variable < 8; variable++) {
            Checks.due("get(" + variable + ")", x.get(variable), 0);
        }
        for (int cell = 0; cell < 16; cell++) {
            Checks.due("peek(" + cell + ")", x.peek(cell), 0);
        }
        String made = Standing.of(new CycleSynthesis());
        CycleSynthesis compiled = new CycleSynthesis();
        Checks.due("compile() of nothing", compiled.compile(), 0);
        Checks.same("the program without statements", Standing.of(compiled), made);
    }

    /** "one unit of each kind": of two that could begin together the second one waits. */
    private static void aNewObjectHasOneUnitOfEachKind() {
        for (String two : new String[] {"a=c+d;b=c+d;", "a=c*d;b=c*d;", "a=m[c];b=m[d];"}) {
            CycleSynthesis x = Checks.made(two);
            Checks.dueOfOperations(two, x, 2, 0, 1);
            Checks.dueOfOperations(two, x, 4, 0, 0);
        }
        String each = "a=h+h;b=h*h;c=m[h];";
        Checks.dueOfOperations(each, Checks.made(each), 2, 0, 0, 0);
    }

    /** "latencies 1". */
    private static void aNewObjectHasLatenciesOf1() {
        for (String one : new String[] {"a=c+d;", "a=c*d;", "a=m[c];", "m[a]=c;", "a=c;"}) {
            CycleSynthesis x = Checks.made(one);
            Checks.dueOfOperations(one, x, 3, 1);
            Checks.dueOfBlocks(one, x, 0, 1);
        }
    }

    /** "NONE when there would be more than 700." */
    private static void noMoreThan700Bytes() {
        for (int n = 1; n <= 8; n++) {
            String named = "feed(" + n + ") up to ";
            Checks.due(named + (MOST - 1), withBlanks(MOST - 1 - n).feed(n, BLANKS), MOST - 1);
            Checks.due(named + MOST, withBlanks(MOST - n).feed(n, BLANKS), MOST);
            Checks.due(named + (MOST + 1), withBlanks(MOST + 1 - n).feed(n, BLANKS), NONE);
        }
    }

    /** The same, for every n onto a tape that is full, or has one place left. */
    private static void onto699And700() {
        for (int n = 1; n <= 8; n++) {
            Checks.due("feed(" + n + ") onto 699", withBlanks(MOST - 1).feed(n, BLANKS), n == 1 ? MOST : NONE);
            Checks.due("feed(" + n + ") onto 700", withBlanks(MOST).feed(n, BLANKS), NONE);
        }
    }

    /** "a call that throws, or answers NONE, changes nothing": no byte comes of those that are refused. */
    private static void nothingOfWhatIsRefusedComes() {
        for (int n = 2; n <= 8; n++) {
            CycleSynthesis x = withBlanks(MOST + 1 - n);
            Checks.due("feed(" + n + ") of braces", x.feed(n, BRACES), NONE);
            Checks.due("compile() of blanks", x.compile(), 0);
            Checks.due("feed(" + (n - 1) + ") of blanks", x.feed(n - 1, BLANKS), MOST);
            Checks.due("compile() of blanks", x.compile(), 0);
            Checks.due("wipe()", x.wipe(), MOST);
        }
        CycleSynthesis x = withBlanks(MOST - 1);
        Checks.throwsArgument("feed(0)", () -> x.feed(0, BRACES));
        Checks.throwsArgument("feed(9)", () -> x.feed(9, BRACES));
        Checks.due("compile() of blanks", x.compile(), 0);
        Checks.due("wipe()", x.wipe(), MOST - 1);
    }

    /** "IllegalArgumentException: n is not 1 to 8." */
    private static void oneToEightBytes() {
        CycleSynthesis x = new CycleSynthesis();
        Checks.throwsArgument("feed(-1)", () -> x.feed(-1, BLANKS));
        Checks.throwsArgument("feed(0)", () -> x.feed(0, BLANKS));
        Checks.due("feed(1)", x.feed(1, BLANKS), 1);
        Checks.due("feed(2)", x.feed(2, BLANKS), 3);
        Checks.due("feed(7)", x.feed(7, BLANKS), 10);
        Checks.due("feed(8)", x.feed(8, BLANKS), 18);
        Checks.throwsArgument("feed(9)", () -> x.feed(9, BLANKS));
        Checks.throwsArgument("feed(10)", () -> x.feed(10, BLANKS));
        Checks.throwsArgument("feed(MIN)", () -> x.feed(Integer.MIN_VALUE, BLANKS));
        Checks.throwsArgument("feed(MAX)", () -> x.feed(Integer.MAX_VALUE, BLANKS));
        Checks.due("wipe()", x.wipe(), 18);
        // It is named, so that it comes before the NONE of a full tape.
        CycleSynthesis full = withBlanks(MOST);
        Checks.throwsArgument("feed(0) onto 700", () -> full.feed(0, BLANKS));
        Checks.throwsArgument("feed(9) onto 700", () -> full.feed(9, BLANKS));
        Checks.throwsArgument("feed(MAX) onto 700", () -> full.feed(Integer.MAX_VALUE, BLANKS));
    }

    /** "The n lowest bytes of a long": none of those above them. */
    private static void theLowestBytes() {
        for (int n = 1; n <= 8; n++) {
            CycleSynthesis x = new CycleSynthesis();
            long bytes = Checks.packed("        ".substring(0, n) + "}}}}}}}}".substring(n));
            Checks.due("feed(" + n + ")", x.feed(n, bytes), n);
            Checks.due("compile() of " + n + " blanks", x.compile(), 0);
            x = new CycleSynthesis();
            bytes = Checks.packed("        ".substring(0, n - 1) + "}        ".substring(0, 9 - n));
            Checks.due("feed(" + n + ")", x.feed(n, bytes), n);
            Checks.due("compile() of a brace as byte " + n, x.compile(), NONE);
            Checks.due("its place()", x.place(), n - 1);
        }
    }

    /** "the lowest first". */
    private static void theLowestByteFirst() {
        CycleSynthesis x = new CycleSynthesis();
        x.feed(8, Checks.packed("a=12345;"));
        Checks.due("compile()", x.compile(), 1);
        x.run(1);
        Checks.due("get(0)", x.get(0), 12345);
    }

    /** "bytes (0 .. 255)": the greatest ones are above 32, and touch none of their neighbours. */
    private static void bytesOfEightBits() {
        for (int sign : new int[] {127, 128, 129, 254, 255}) {
            CycleSynthesis x = new CycleSynthesis();
            long bytes = Checks.packed("a=1;" + (char) sign + "b=2");
            Checks.due("feed(8) with " + sign, x.feed(8, bytes), 8);
            Checks.due("compile() with " + sign, x.compile(), NONE);
            Checks.due("fault()", x.fault(), 1);
            Checks.due("place()", x.place(), 4);
            x.wipe();
            Checks.due("feed(8), the last one " + sign, x.feed(8, Checks.packed(" a=1;  " + (char) sign)), 8);
            Checks.due("compile() with " + sign, x.compile(), NONE);
            Checks.due("place()", x.place(), 7);
        }
        CycleSynthesis x = new CycleSynthesis();
        Checks.due("feed(8) with 0", x.feed(8, Checks.packed("\0a=1;\0\0\0")), 8);
        Checks.due("compile() with 0", x.compile(), 1);
    }

    /** "come behind the tape". */
    private static void theSecondFeedComesBehindTheFirst() {
        for (int n = 1; n <= 7; n++) {
            CycleSynthesis x = new CycleSynthesis();
            Checks.due("feed(" + n + ")", x.feed(n, Checks.packed("a=12345;".substring(0, n))), n);
            Checks.due("feed(" + (8 - n) + ")", x.feed(8 - n, Checks.packed("a=12345;".substring(n))), 8);
            Checks.due("compile()", x.compile(), 1);
            x.run(1);
            Checks.due("get(0)", x.get(0), 12345);
        }
    }

    /** "Answers how many bytes it had." */
    private static void wipeTellsHowManyItHad() {
        for (int many : new int[] {0, 1, 2, 7, 8, 9, MOST - 1, MOST}) {
            CycleSynthesis x = withBlanks(many);
            Checks.due("wipe() of " + many, x.wipe(), many);
            Checks.due("wipe() again", x.wipe(), 0);
        }
    }

    /** "The tape is empty then." */
    private static void wipeLeavesNothing() {
        CycleSynthesis x = new CycleSynthesis();
        Checks.feed(x, "}".repeat(MOST));
        Checks.due("feed(1) onto 700", x.feed(1, BLANKS), NONE);
        Checks.due("wipe()", x.wipe(), MOST);
        Checks.due("compile() of nothing", x.compile(), 0);
        Checks.due("feed(1)", x.feed(1, BLANKS), 1);
        Checks.due("compile() of a blank", x.compile(), 0);
        Checks.feedBehind(x, " ".repeat(MOST - 1));
        Checks.due("compile() of 700 blanks", x.compile(), 0);
        Checks.due("feed(1) onto 700", x.feed(1, BLANKS), NONE);
    }

    /** wipe() is of the tape alone. */
    private static void wipeLeavesProgramAndFault() {
        CycleSynthesis x = Checks.made("a=a+1;while a<3{a=a+1;}");
        x.run(2);
        Checks.compile(x, "a=1;b=2147483648;");
        String before = Standing.of(x);
        Checks.due("wipe()", x.wipe(), 17);
        Checks.same("all behind wipe()", Standing.of(x), before);
    }
}
