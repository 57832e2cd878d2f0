/**
 * The boundaries of values, variables, cells and running, promises 11 to 18, each under the sentence of
 * the document that names it.
 */
public final class RunEdgesTest {
    private static final int N = CycleSynthesis.NONE;
    private static final int MIN = Integer.MIN_VALUE;
    private static final int MAX = Integer.MAX_VALUE;
    private static final int MOST = 5000;
    private static final int[] INTS = {0, 1, -1, 2, -2, 15, 16, 17, 32767, 32768, 65535, 65536, MAX - 1, MAX, MIN,
        MIN + 1};

    public static void main(String[] args) {
        variablesHoldInts();
        cellsHoldInts();
        noOtherVariable();
        noOtherCell();
        setAnswersWhatItWas();
        pokeAnswersWhatItWas();
        sumsWrap();
        differencesWrap();
        productsWrap();
        lessGives1Or0();
        sameGives1Or0();
        signsGoFromTheLeft();
        theIndexsLowestFourBits();
        whatIsNot0IsSo();
        operationsTakeWhatIsThere();
        theEIsTakenAtTheBlocksEnd();
        lessThanNCyclesWereDone();
        nIs0To5000();
        answersHowManyWere();
        upToTheEnd();
        noProgramNoCycles();
        restartStandsAtTheBeginning();
        theBlockThatComesNext();
        cyclesSinceTheBeginning();
        whatRunRefusesChangesNothing();
        neverInABlockBetweenCalls();
        theLongestRuns();
        Checks.finish();
    }

    /** "VARIABLES a .. h ... hold ints." */
    private static void variablesHoldInts() {
        for (int variable = 0; variable < 8; variable++) {
            CycleSynthesis x = new CycleSynthesis();
            for (int value : INTS) {
                x.set(variable, value);
                for (int other = 0; other < 8; other++) {
                    Checks.due("get(" + other + ")", x.get(other), other == variable ? value : 0);
                }
            }
            for (int cell = 0; cell < 16; cell++) {
                Checks.due("peek(" + cell + ")", x.peek(cell), 0);
            }
        }
    }

    /** "the MEMORY of 16 cells hold ints." */
    private static void cellsHoldInts() {
        for (int cell = 0; cell < 16; cell++) {
            CycleSynthesis x = new CycleSynthesis();
            for (int value : INTS) {
                x.poke(cell, value);
                for (int other = 0; other < 16; other++) {
                    Checks.due("peek(" + other + ")", x.peek(other), other == cell ? value : 0);
                }
            }
            for (int variable = 0; variable < 8; variable++) {
                Checks.due("get(" + variable + ")", x.get(variable), 0);
            }
        }
    }

    /** "A variable (0 to 7)... IndexOutOfBoundsException: there is none." */
    private static void noOtherVariable() {
        CycleSynthesis x = new CycleSynthesis();
        for (int variable = 0; variable < 8; variable++) {
            x.set(variable, 10 + variable);
        }
        String before = Standing.of(x);
        for (int variable : new int[] {-1, -2, 8, 9, 15, 16, MIN, MAX}) {
            Checks.throwsIndex("get(" + variable + ")", () -> x.get(variable));
            Checks.throwsIndex("set(" + variable + ", 5)", () -> x.set(variable, 5));
        }
        Checks.same("all behind them", Standing.of(x), before);
        Checks.due("get(0)", x.get(0), 10);
        Checks.due("get(7)", x.get(7), 17);
    }

    /** "IndexOutOfBoundsException: there is none." */
    private static void noOtherCell() {
        CycleSynthesis x = new CycleSynthesis();
        for (int cell = 0; cell < 16; cell++) {
            x.poke(cell, 10 + cell);
        }
        String before = Standing.of(x);
        // A call takes no lowest four bits: that is for programs.
        for (int cell : new int[] {-1, -2, 16, 17, 32, MIN, MAX}) {
            Checks.throwsIndex("peek(" + cell + ")", () -> x.peek(cell));
            Checks.throwsIndex("poke(" + cell + ", 5)", () -> x.poke(cell, 5));
        }
        Checks.same("all behind them", Standing.of(x), before);
        Checks.due("peek(0)", x.peek(0), 10);
        Checks.due("peek(15)", x.peek(15), 25);
    }

    /** "A variable (0 to 7) becomes v. Answers what it was." NONE too changes it. */
    private static void setAnswersWhatItWas() {
        for (int variable : new int[] {0, 1, 6, 7}) {
            CycleSynthesis x = new CycleSynthesis();
            Checks.due("set to -1", x.set(variable, -1), 0);
            Checks.due("set to MIN, it was NONE", x.set(variable, MIN), N);
            Checks.due("get", x.get(variable), MIN);
            Checks.due("set to MAX", x.set(variable, MAX), MIN);
            Checks.due("set to the same", x.set(variable, MAX), MAX);
            Checks.due("set to 0", x.set(variable, 0), MAX);
            Checks.due("get", x.get(variable), 0);
        }
    }

    /** "A cell becomes v. Answers what it was." NONE too changes it. */
    private static void pokeAnswersWhatItWas() {
        for (int cell : new int[] {0, 1, 14, 15}) {
            CycleSynthesis x = new CycleSynthesis();
            Checks.due("poke to -1", x.poke(cell, -1), 0);
            Checks.due("poke to MIN, it was NONE", x.poke(cell, MIN), N);
            Checks.due("peek", x.peek(cell), MIN);
            Checks.due("poke to MAX", x.poke(cell, MAX), MIN);
            Checks.due("poke to the same", x.poke(cell, MAX), MAX);
            Checks.due("poke to 0", x.poke(cell, 0), MAX);
            Checks.due("peek", x.peek(cell), 0);
        }
    }

    /** What a is behind a = E, with these in b and c. */
    private static void dueValue(String e, int b, int c, int want) {
        CycleSynthesis x = Checks.made("a=" + e + ";");
        x.set(1, b);
        x.set(2, c);
        x.run(MOST);
        Checks.due(e + " with " + b + " and " + c, x.get(0), want);
    }

    /** "VALUES as ints that wrap". */
    private static void sumsWrap() {
        dueValue("b+c", MAX, 0, MAX);
        dueValue("b+c", MAX - 1, 1, MAX);
        dueValue("b+c", MAX, 1, MIN);
        dueValue("b+c", MAX, 2, MIN + 1);
        dueValue("b+c", MAX, MAX, -2);
        dueValue("b+c", MIN, -1, MAX);
        dueValue("b+c", MIN, MIN, 0);
        dueValue("b+c", MIN + 1, -1, MIN);
        dueValue("b+2147483647", 1, 0, MIN);
    }

    private static void differencesWrap() {
        dueValue("b-c", MIN, 0, MIN);
        dueValue("b-c", MIN + 1, 1, MIN);
        dueValue("b-c", MIN, 1, MAX);
        dueValue("b-c", MIN, 2, MAX - 1);
        dueValue("0-b", MIN, 0, MIN);
        dueValue("0-b", MAX, 0, MIN + 1);
        dueValue("b-c", MAX, -1, MIN);
        dueValue("b-c", 0, MIN, MIN);
        dueValue("b-c", -1, MIN, MAX);
    }

    private static void productsWrap() {
        dueValue("b*c", 46340, 46340, 2147395600);
        dueValue("b*c", 46341, 46341, -2147479015);
        dueValue("b*c", 32768, 65535, 2147450880);
        dueValue("b*c", 32768, 65536, MIN);
        dueValue("b*c", 65536, 65535, -65536);
        dueValue("b*c", 65536, 65536, 0);
        dueValue("b*c", 65537, 65536, 65536);
        dueValue("b*c", MAX, 2, -2);
        dueValue("b*c", MAX, MAX, 1);
        dueValue("b*c", MIN, -1, MIN);
        dueValue("b*c", MIN, 2, 0);
        dueValue("b*c", MIN, 3, MIN);
        dueValue("b*c", MIN, 0, 0);
    }

    /** "< and = give 1 or 0". */
    private static void lessGives1Or0() {
        for (int middle : new int[] {0, 1, -1, 7, MAX - 1, MIN + 1}) {
            dueValue("b<c", middle - 1, middle, 1);
            dueValue("b<c", middle, middle, 0);
            dueValue("b<c", middle + 1, middle, 0);
        }
        // They are compared as they are: their difference would wrap.
        dueValue("b<c", MIN, MAX, 1);
        dueValue("b<c", MAX, MIN, 0);
        dueValue("b<c", MIN, 1, 1);
        dueValue("b<c", 1, MIN, 0);
        dueValue("b<c", -2, MAX, 1);
        dueValue("b<c", MAX, -2, 0);
        dueValue("b+1<c", MAX, 0, 1);
    }

    private static void sameGives1Or0() {
        for (int middle : new int[] {0, 1, -1, 7, 127, 128, 1000, MAX - 1, MIN + 1}) {
            dueValue("b=c", middle - 1, middle, 0);
            dueValue("b=c", middle, middle, 1);
            dueValue("b=c", middle + 1, middle, 0);
        }
        dueValue("b=c", MIN, MIN, 1);
        dueValue("b=c", MAX, MAX, 1);
        dueValue("b=c", MIN, MAX, 0);
        dueValue("b=c", 65536, 0, 0);
        dueValue("b+1=c", MAX, MIN, 1);
    }

    /** "a sum: TERMS with + or - between; a term: FACTORS with * between". */
    private static void signsGoFromTheLeft() {
        dueValue("b-c-1", 10, 3, 6);
        dueValue("b-(c-1)", 10, 3, 8);
        dueValue("b-c+1", 10, 3, 8);
        dueValue("b-(c+1)", 10, 3, 6);
        dueValue("b-c*2", 10, 3, 4);
        dueValue("(b-c)*2", 10, 3, 14);
        dueValue("b*c-2", 10, 3, 28);
        dueValue("b*(c-2)", 10, 3, 10);
        dueValue("b<c+8", 10, 3, 1);
        dueValue("(b<c)+8", 10, 3, 8);
        dueValue("b-7=c", 10, 3, 1);
        dueValue("b-(7=c)", 10, 3, 10);
        dueValue("1-b<c-1", 10, 3, 1);
    }

    private static void dueCell(int index, int cell) {
        CycleSynthesis x = Checks.made("m[b]=7;a=m[c];");
        for (int i = 0; i < 16; i++) {
            x.poke(i, 100 + i);
        }
        x.set(1, index);
        x.set(2, index + 1);
        x.run(MOST);
        for (int i = 0; i < 16; i++) {
            Checks.due("m[" + index + "]=7: peek(" + i + ")", x.peek(i), i == cell ? 7 : 100 + i);
        }
        Checks.due("a=m[" + (index + 1) + "]", x.get(0), 100 + (cell + 1) % 16);
    }

    /** "m is taken at the index's lowest four bits". */
    private static void theIndexsLowestFourBits() {
        for (int index = -33; index <= 33; index++) {
            dueCell(index, (index + 48) % 16);
        }
        dueCell(255, 15);
        dueCell(256, 0);
        dueCell(MAX - 1, 14);
        dueCell(MAX, 15);
        dueCell(MIN, 0);
        dueCell(MIN + 1, 1);
        dueCell(-1, 15);
    }

    /** "if and while take what isn't 0 as so." */
    private static void whatIsNot0IsSo() {
        for (int value : INTS) {
            CycleSynthesis x = Checks.made("if a{b=1;}else{b=2;}if a+0{c=1;}else{c=2;}while a{d=d+1;a=0;}");
            x.set(0, value);
            x.run(MOST);
            Checks.due("if " + value, x.get(1), value == 0 ? 2 : 1);
            Checks.due("if " + value + "+0", x.get(2), value == 0 ? 2 : 1);
            Checks.due("while " + value, x.get(3), value == 0 ? 0 : 1);
            Checks.due("at()", x.at(), N);
        }
        for (String e : new String[] {"1", "2147483647", "(2)", "3-2", "0-1", "1<2", "2=2", "m[1]"}) {
            CycleSynthesis x = Checks.made("m[1]=9;if " + e + "{b=1;}");
            x.run(MOST);
            Checks.due("if " + e, x.get(1), 1);
        }
        for (String e : new String[] {"0", "00", "(0)", "3-3", "2<2", "1=2", "m[2]", "65536*65536"}) {
            CycleSynthesis x = Checks.made("m[1]=9;if " + e + "{b=1;}");
            x.run(MOST);
            Checks.due("if " + e, x.get(1), 0);
        }
    }

    /** "(operations take what is there when they begin, and give values when they end)". */
    private static void operationsTakeWhatIsThere() {
        CycleSynthesis x = Checks.made("a=b;b=c;c=a;", 1, 1, 4, 1, 4);
        x.set(1, 5);
        x.set(2, 6);
        x.run(MOST);
        Checks.due("a, as b was", x.get(0), 5);
        Checks.due("b, as c was", x.get(1), 6);
        Checks.due("c, as a is", x.get(2), 5);
        x = Checks.made("m[1]=a;b=m[1]*m[2];a=9;m[2]=b;a=a+m[2];", 4, 4, 4, 4, 4);
        x.set(0, 3);
        x.poke(2, 7);
        x.run(MOST);
        Checks.due("b", x.get(1), 21);
        Checks.due("a", x.get(0), 30);
        Checks.due("m[1]", x.peek(1), 3);
        Checks.due("m[2]", x.peek(2), 21);
    }

    /** A variable that is the E counts as it is when the block ends. */
    private static void theEIsTakenAtTheBlocksEnd() {
        CycleSynthesis x = Checks.made("a=b*c;if a{d=1;}else{d=2;}", 1, 1, 4, 1, 1);
        x.set(0, 1);
        Checks.due("run(1)", x.run(1), 4);
        Checks.due("at()", x.at(), 2);
        x = Checks.made("a=b*c;if a{d=1;}else{d=2;}", 1, 1, 4, 1, 1);
        x.set(1, 1);
        x.set(2, 1);
        Checks.due("run(1)", x.run(1), 4);
        Checks.due("at()", x.at(), 1);
        // The E is worked out before a is given its new value, and stays what it was.
        x = Checks.made("a=a-1;b=c*d;if a+1{e=1;}else{e=2;}", 1, 1, 4, 1, 1);
        Checks.due("run(1)", x.run(1), 4);
        Checks.due("at()", x.at(), 2);
    }

    /** "Blocks are done as long as less than n cycles were done with this call." */
    private static void lessThanNCyclesWereDone() {
        // A cycle for the E, then four for what stands in { }.
        int[] ends = {0, 1, 5, 6, 10, 11, 15, 16, 20, 21};
        CycleSynthesis x = Checks.made("while 1{a=a*a;}", 1, 1, 4, 1, 1);
        int end = 0;
        for (int n = 0; n <= 20; n++) {
            if (ends[end] < n) {
                end++;
            }
            x.restart();
            Checks.due("run(" + n + ")", x.run(n), ends[end]);
            Checks.due("at() behind run(" + n + ")", x.at(), end % 2);
            Checks.due("cycles() behind run(" + n + ")", x.cycles(), ends[end]);
        }
        // "with this call": what other calls did doesn't count.
        x.restart();
        Checks.due("run(1)", x.run(1), 1);
        Checks.due("run(1)", x.run(1), 4);
        Checks.due("run(5)", x.run(5), 5);
        Checks.due("run(6)", x.run(6), 6);
        Checks.due("run(4)", x.run(4), 4);
        Checks.due("cycles()", x.cycles(), 20);
    }

    /** "IllegalArgumentException: n is not 0 to 5000." */
    private static void nIs0To5000() {
        CycleSynthesis x = Checks.made("while 1{}");
        for (int n : new int[] {MIN, -2, -1, MOST + 1, MOST + 2, MAX}) {
            Checks.throwsArgument("run(" + n + ")", () -> x.run(n));
        }
        Checks.due("run(0)", x.run(0), 0);
        Checks.due("run(1)", x.run(1), 1);
        Checks.due("run(4999)", x.run(MOST - 1), MOST - 1);
        Checks.due("run(5000)", x.run(MOST), MOST);
        Checks.due("cycles()", x.cycles(), 2 * MOST);
        CycleSynthesis none = new CycleSynthesis();
        Checks.throwsArgument("run(-1) of nothing", () -> none.run(-1));
        Checks.throwsArgument("run(5001) of nothing", () -> none.run(MOST + 1));
        CycleSynthesis ended = Checks.made("a=1;");
        ended.run(1);
        Checks.throwsArgument("run(-1) at the end", () -> ended.run(-1));
        Checks.throwsArgument("run(5001) at the end", () -> ended.run(MOST + 1));
    }

    /** "Answers how many were." */
    private static void answersHowManyWere() {
        for (int many = 1; many <= 40; many++) {
            String text = "a=1;" + "while 0{}".repeat(many - 1);
            Checks.due(many + " blocks: run(5000)", Checks.made(text).run(MOST), many);
            Checks.due(many + " blocks: run(" + many + ")", Checks.made(text).run(many), many);
            Checks.due(many + " blocks: run(" + (many - 1) + ")", Checks.made(text).run(many - 1), many - 1);
            Checks.due(many + " blocks: run(" + (many + 1) + ")", Checks.made(text).run(many + 1), many);
        }
    }

    /** "goes to the next one, up to the end." */
    private static void upToTheEnd() {
        CycleSynthesis x = Checks.made("a=a+1;");
        Checks.due("run(0)", x.run(0), 0);
        Checks.due("at()", x.at(), 0);
        Checks.due("run(1)", x.run(1), 1);
        Checks.due("at()", x.at(), N);
        Checks.due("run(1)", x.run(1), 0);
        Checks.due("run(5000)", x.run(MOST), 0);
        Checks.due("cycles()", x.cycles(), 1);
        Checks.due("get(0)", x.get(0), 1);
    }

    /** "the program without statements". */
    private static void noProgramNoCycles() {
        CycleSynthesis x = new CycleSynthesis();
        Checks.due("at()", x.at(), N);
        Checks.due("run(0)", x.run(0), 0);
        Checks.due("run(5000)", x.run(MOST), 0);
        Checks.due("cycles()", x.cycles(), 0);
        x.restart();
        Checks.due("at()", x.at(), N);
        x.units(0, 4, 1);
        Checks.due("at()", x.at(), N);
        Checks.due("run(1)", x.run(1), 0);
    }

    /** "The machine stands at its beginning, no cycles done." */
    private static void restartStandsAtTheBeginning() {
        for (int n = 0; n <= 6; n++) {
            CycleSynthesis x = Checks.made("a=a+1;while a<3{a=a+1;m[a]=a;}b=b+a;");
            x.run(n);
            int a = x.get(0);
            int b = x.get(1);
            int cell = x.peek(2);
            x.restart();
            Checks.due("at()", x.at(), 0);
            Checks.due("cycles()", x.cycles(), 0);
            Checks.due("get(0)", x.get(0), a);
            Checks.due("get(1)", x.get(1), b);
            Checks.due("peek(2)", x.peek(2), cell);
            x.restart();
            Checks.due("at() behind another", x.at(), 0);
            Checks.due("run(1)", x.run(1), 1);
            Checks.due("get(0)", x.get(0), a + 1);
        }
    }

    /** "The block that comes next; NONE at the end." */
    private static void theBlockThatComesNext() {
        CycleSynthesis x = Checks.made("a=2;while a{a=a-1;if b{c=1;}}d=1;");
        int[] next = {0, 1, 2, 1, 2, 1, 4, N, N};
        for (int step = 0; step < next.length; step++) {
            Checks.due("at() at step " + step, x.at(), next[step]);
            Checks.due("run(1) at step " + step, x.run(1), next[step] == N ? 0 : 1);
        }
    }

    /** "How many cycles were done since the machine stood at its beginning." */
    private static void cyclesSinceTheBeginning() {
        CycleSynthesis x = Checks.made("while 1{a=a*a;}", 1, 1, 3, 1, 1);
        long cycles = 0;
        for (int n = 0; n <= 9; n++) {
            cycles += x.run(n);
            Checks.due("cycles()", x.cycles(), cycles);
        }
        x.restart();
        Checks.due("cycles() behind restart()", x.cycles(), 0);
        x.run(9);
        x.units(1, 1, 3);
        Checks.due("cycles() behind units()", x.cycles(), 0);
        x.run(9);
        Checks.due("compile()", x.compile(), 1);
        Checks.due("cycles() behind compile()", x.cycles(), 0);
        Checks.due("run(9)", x.run(9), 9);
        Checks.due("compile() of a fault", Checks.compile(x, "a"), N);
        Checks.due("cycles() behind it", x.cycles(), 9);
    }

    /** "a call that throws ... changes nothing". */
    private static void whatRunRefusesChangesNothing() {
        CycleSynthesis x = Checks.made("while 1{a=a+1;m[a]=a;}");
        x.run(7);
        String before = Standing.of(x);
        for (int n : new int[] {-1, MOST + 1, MIN, MAX}) {
            Checks.throwsArgument("run(" + n + ")", () -> x.run(n));
        }
        Checks.same("all behind them", Standing.of(x), before);
        Checks.due("run(0)", x.run(0), 0);
        Checks.same("all behind run(0)", Standing.of(x), before);
    }

    /** "It is never in a block between calls." */
    private static void neverInABlockBetweenCalls() {
        CycleSynthesis x = Checks.made("a=b*c;d=a*a;while d{d=d-1;}", 1, 1, 4, 1, 1);
        x.set(1, 1);
        x.set(2, 1);
        Checks.due("run(1)", x.run(1), 8);
        Checks.due("a", x.get(0), 1);
        Checks.due("d", x.get(3), 1);
        // What is set now no operation of the first block can take any more.
        x.set(1, 50);
        x.set(0, 50);
        Checks.due("run(1)", x.run(1), 1);
        Checks.due("d", x.get(3), 1);
        Checks.due("at()", x.at(), 2);
        x.set(3, 3);
        Checks.due("run(5000)", x.run(MOST), 6);
        Checks.due("at()", x.at(), N);
        Checks.due("d", x.get(3), 0);
    }

    /** 5000 of the shortest blocks, and the longest block that run(5000) can begin at its last cycle. */
    private static void theLongestRuns() {
        CycleSynthesis x = Checks.made("while 1{}");
        for (int i = 1; i <= 100; i++) {
            Checks.due("run(5000)", x.run(MOST), MOST);
            Checks.due("cycles()", x.cycles(), (long) MOST * i);
        }
        x = Checks.made("while 1{a=a" + "*a".repeat(200) + ";}", 1, 1, 4, 1, 1);
        Checks.due("run(5000)", x.run(MOST), 7 * 801);
        x.restart();
        Checks.due("run(4806)", x.run(6 * 801), 6 * 801);
        Checks.due("run(2)", x.run(2), 801);
        x.restart();
        Checks.due("run(4808)", x.run(6 * 801 + 2), 7 * 801);
    }
}
