/**
 * The boundaries of braces, brackets and operations, with fault 3 and the rest of promises 5 to 7, each
 * under the sentence of the document that names it.
 */
public final class LimitEdgesTest {
    private static final int NONE = CycleSynthesis.NONE;
    private static final int STRAY = 1;
    private static final int TOO_GREAT = 2;
    private static final int TOO_MANY = 3;
    private static final int MOST_BRACES = 10;
    private static final int MOST_BRACKETS = 20;
    private static final int MOST_OPERATIONS = 200;

    /** One operation each, with the place of its sign, m or variable. */
    private static final String[] LAST_ONES = {"b=c+d;", "b=c-d;", "b=c*d;", "b=c<d;", "b=c=d;", "b=m[c];", "b=c;",
        "b=(1);", "m[c]=d;", "m [ c ] = d ;", " b = c + d ;", " b = m [ 1 ] ;", "  b = 1 ;", "if c+d{}", "if c<d{}",
        "while m[c]{}", "if 1{b=1;}", "if 1{}else{m[1]=2;}", "b=(c+d);", "b=((m[1]));"};
    private static final int[] THEIR_PLACES = {3, 3, 3, 3, 3, 2, 0,
        0, 0, 0, 7, 5, 2, 4, 4,
        6, 5, 11, 4, 4};

    public static void main(String[] args) {
        anyNumberOfStatements();
        tenBracesOpen();
        bracesOfAllWords();
        bracesOpenTogether();
        theEleventhBraceIsTheFault();
        twentyBracketsOpen();
        bracketsOfBothSorts();
        bracketsOpenTogether();
        bracketsOfWrites();
        bracketsAndBracesApart();
        theTwentyFirstBracketIsTheFault();
        theOperation201();
        aSignIsLookedAtBehindItsRightSide();
        aReadIsLookedAtBehindItsBracket();
        movesAndWritesAreLookedAtBehindTheirEnd();
        operationsCountOverBlocks();
        compileTellsHowManyOperations();
        aFaultLeavesAllOfTheProgram();
        theTapeStays();
        nothingStaysOfEarlierPrograms();
        compilePutsTheMachineToItsBeginning();
        theFaultOfTheLastCompile();
        theFaultStaysUpToTheNextCompile();
        thePlaceOfTheFault();
        whatWasOpenAtAFaultIsForgotten();
        Checks.finish();
    }

    private static String full(int operations) {
        return operations == 0 ? "" : "a=" + "1+".repeat(operations) + "1;";
    }

    /** "A PROGRAM is any number of STATEMENTS", and so is what stands in { }. */
    private static void anyNumberOfStatements() {
        for (int many : new int[] {0, 1, 2, 3, 174, 175}) {
            Checks.dueOperations("a=1;".repeat(many), many);
        }
        for (int many : new int[] {0, 1, 2, 3, 171}) {
            Checks.dueOperations("if 1{" + "a=1;".repeat(many) + "}", many);
            Checks.dueOperations("while 1{" + "a=1;".repeat(many) + "}", many);
            Checks.dueOperations("if 1{}else{" + "a=1;".repeat(many) + "}", many);
        }
        Checks.dueOperations("if1{}".repeat(140), 0);
        Checks.dueOperations("while1{}".repeat(87), 0);
    }

    /** "3 the 11th { that is open". */
    private static void tenBracesOpen() {
        for (String word : new String[] {"if 1{", "while 1{", "if 1{}else{"}) {
            for (int many = 1; many < MOST_BRACES; many++) {
                Checks.dueOperations(word.repeat(many) + "}".repeat(many), 0);
            }
            Checks.dueOperations(word.repeat(MOST_BRACES) + "}".repeat(MOST_BRACES), 0);
            int place = word.length() * MOST_BRACES + word.indexOf('{');
            Checks.dueFault(word.repeat(MOST_BRACES + 1) + "}".repeat(MOST_BRACES + 1), TOO_MANY, place);
            Checks.dueFault(word.repeat(MOST_BRACES + 2) + "}".repeat(MOST_BRACES + 2), TOO_MANY, place);
        }
    }

    /** The same, those of if, else and while counted together. */
    private static void bracesOfAllWords() {
        String three = "if 1{while 1{if 1{}else{";
        String nine = three.repeat(3);
        Checks.dueOperations(nine + "if 1{}else{}while 1{}" + "}".repeat(9), 0);
        String[] tenth = {"if 1{", "if 1{}else{", "while 1{"};
        for (String open : tenth) {
            String ten = nine + open;
            Checks.dueOperations(ten + "}".repeat(10), 0);
            Checks.dueFault(ten + "if 1{", TOO_MANY, ten.length() + 4);
            Checks.dueFault(ten + "while 1{", TOO_MANY, ten.length() + 7);
        }
    }

    /** The same: "open", so that those closed before count no more. */
    private static void bracesOpenTogether() {
        Checks.dueOperations("if1{}".repeat(11), 0);
        Checks.dueOperations("while1{}".repeat(12), 0);
        String nine = "if1{".repeat(9);
        Checks.dueOperations(nine + "if1{}".repeat(5) + "}".repeat(9) + "else{}", 0);
        Checks.dueOperations(nine + "if1{}else{}".repeat(3) + "}".repeat(9), 0);
        String ten = "if1{".repeat(10);
        Checks.dueOperations(ten + "}else{" + "}".repeat(10), 0);
        Checks.dueOperations((ten + "}".repeat(10)).repeat(3), 0);
        Checks.dueFault(ten + "}else{if1{", TOO_MANY, 49);
        Checks.dueFault(ten + "}}if1{if1{if1{", TOO_MANY, 53);
    }

    /** The same "at it", and not before it: what stands before it has its own faults. */
    private static void theEleventhBraceIsTheFault() {
        String ten = "if1{".repeat(10);
        Checks.dueFault(ten + "if1", STRAY, 43);
        Checks.dueFault(ten + "if1;", STRAY, 43);
        Checks.dueFault(ten + "if{", STRAY, 42);
        Checks.dueFault(ten + "{", STRAY, 40);
        Checks.dueFault(ten + "if2147483648{", TOO_GREAT, 42);
        Checks.dueFault(ten + "if1{", TOO_MANY, 43);
        Checks.dueFault(ten + "if1  {", TOO_MANY, 45);
        Checks.dueFault(ten + "if1{;", TOO_MANY, 43);
        Checks.dueFault(ten + "}".repeat(9) + "else{" + "if1{".repeat(8), STRAY, 86);
        Checks.dueFault(ten + "}".repeat(9) + "else{" + "if1{".repeat(9), TOO_MANY, 89);
    }

    private static String bracketed(String opening, int many, String closing) {
        return opening.repeat(many) + "1" + closing.repeat(many);
    }

    /** "the 21st ( or [ that are open, together (at it)". */
    private static void twentyBracketsOpen() {
        for (int many = 1; many <= MOST_BRACKETS; many++) {
            Checks.dueOperations("a=" + bracketed("(", many, ")") + ";", 1);
            Checks.dueOperations("a=" + bracketed("m[", many, "]") + ";", many);
        }
        for (int many = MOST_BRACKETS + 1; many <= MOST_BRACKETS + 2; many++) {
            Checks.dueFault("a=" + bracketed("(", many, ")") + ";", TOO_MANY, 22);
            Checks.dueFault("a=" + bracketed("m[", many, "]") + ";", TOO_MANY, 43);
            Checks.dueFault("if " + bracketed("(", many, ")") + "{}", TOO_MANY, 23);
            Checks.dueFault("while(" + bracketed("(", many - 1, ")") + "){}", TOO_MANY, 25);
        }
        Checks.dueOperations("if " + bracketed("(", 20, ")") + "{}", 0);
        Checks.dueOperations("while(" + bracketed("(", 19, ")") + "){}", 0);
    }

    /** The same, "together". */
    private static void bracketsOfBothSorts() {
        String nineteen = "(m[".repeat(9) + "(";
        String closing = ")" + "])".repeat(9);
        Checks.dueOperations("a=" + nineteen + "1" + closing + ";", 9);
        Checks.dueOperations("a=" + nineteen + "(1)" + closing + ";", 9);
        Checks.dueOperations("a=" + nineteen + "m[1]" + closing + ";", 10);
        Checks.dueFault("a=" + nineteen + "((1))" + closing + ";", TOO_MANY, 31);
        Checks.dueFault("a=" + nineteen + "(m[1])" + closing + ";", TOO_MANY, 32);
        Checks.dueFault("a=" + nineteen + "m[(1)]" + closing + ";", TOO_MANY, 32);
        Checks.dueFault("a=" + nineteen + "m[m[1]]" + closing + ";", TOO_MANY, 33);
    }

    /** The same: "open", so that those closed before count no more. */
    private static void bracketsOpenTogether() {
        String twenty = bracketed("(", 20, ")");
        Checks.dueOperations("a=" + "(1)+".repeat(25) + "1;", 25);
        Checks.dueOperations("a=" + "m[1]+".repeat(25) + "1;", 50);
        Checks.dueOperations("a=" + twenty + "*" + twenty + "<" + twenty + ";", 2);
        Checks.dueOperations(("a=" + twenty + ";").repeat(3), 3);
        Checks.dueOperations("if " + twenty + "{a=" + twenty + ";}", 1);
        String nineteen = "(".repeat(19);
        Checks.dueOperations("a=" + nineteen + "(1)+(2)*m[3]" + ")".repeat(19) + ";", 3);
        Checks.dueFault("a=" + nineteen + "(1)+((2))" + ")".repeat(19) + ";", TOO_MANY, 26);
    }

    /** The same, the [ of m [ E ] = E counted with those in it, and no more behind its ]. */
    private static void bracketsOfWrites() {
        Checks.dueOperations("m[" + bracketed("(", 18, ")") + "]=1;", 1);
        Checks.dueOperations("m[" + bracketed("(", 19, ")") + "]=1;", 1);
        Checks.dueFault("m[" + bracketed("(", 20, ")") + "]=1;", TOO_MANY, 21);
        Checks.dueOperations("m[" + bracketed("m[", 19, "]") + "]=1;", 20);
        Checks.dueFault("m[" + bracketed("m[", 20, "]") + "]=1;", TOO_MANY, 41);
        Checks.dueOperations("m[" + bracketed("(", 19, ")") + "]=" + bracketed("(", 20, ")") + ";", 1);
        Checks.dueFault("m[1]=" + bracketed("(", 21, ")") + ";", TOO_MANY, 25);
    }

    /** The same: braces and brackets have each their own count. */
    private static void bracketsAndBracesApart() {
        String ten = "if(1){".repeat(10);
        Checks.dueOperations(ten + "a=" + bracketed("(", 20, ")") + ";" + "}".repeat(10), 1);
        Checks.dueFault(ten + "a=" + bracketed("(", 21, ")") + ";", TOO_MANY, 82);
        Checks.dueFault(ten + "if " + bracketed("(", 20, ")") + "{", TOO_MANY, 60 + 3 + 41);
    }

    /** The same "at it", and not before it. */
    private static void theTwentyFirstBracketIsTheFault() {
        String twenty = "a=" + "(".repeat(20);
        Checks.dueFault(twenty + "(", TOO_MANY, 22);
        Checks.dueFault(twenty + "  (", TOO_MANY, 24);
        Checks.dueFault(twenty + "m[", TOO_MANY, 23);
        Checks.dueFault(twenty + "m  [", TOO_MANY, 25);
        Checks.dueFault(twenty + "m", STRAY, 23);
        Checks.dueFault(twenty + "m(", STRAY, 23);
        Checks.dueFault(twenty + "[", STRAY, 22);
        Checks.dueFault(twenty + "1(", STRAY, 23);
        Checks.dueFault(twenty + ";(", STRAY, 22);
        Checks.dueFault(twenty + "2147483648+(", TOO_GREAT, 22);
        Checks.dueFault(twenty + "(;", TOO_MANY, 22);
    }

    /** "the sign, or m, of the 201st operation (of a move the variable ...)". */
    private static void theOperation201() {
        for (int i = 0; i < LAST_ONES.length; i++) {
            String last = LAST_ONES[i];
            Checks.dueOperations(full(MOST_OPERATIONS - 2) + last, MOST_OPERATIONS - 1);
            Checks.dueOperations(full(MOST_OPERATIONS - 1) + last, MOST_OPERATIONS);
            String all = full(MOST_OPERATIONS);
            Checks.dueFault(all + last, TOO_MANY, all.length() + THEIR_PLACES[i]);
            Checks.dueFault(all + last + last, TOO_MANY, all.length() + THEIR_PLACES[i]);
        }
        Checks.dueOperations(full(MOST_OPERATIONS), MOST_OPERATIONS);
        Checks.dueFault(full(MOST_OPERATIONS + 1), TOO_MANY, full(MOST_OPERATIONS).length() - 1);
        Checks.dueOperations(full(MOST_OPERATIONS) + "if a{}while b{}if((2)){}else{}", MOST_OPERATIONS);
    }

    private static void dueBehindFull(String behind, int fault, int place) {
        String all = full(MOST_OPERATIONS);
        Checks.dueFault(all + behind, fault, all.length() + place);
    }

    /** "a sign is looked at behind its right side ...: faults within come first". */
    private static void aSignIsLookedAtBehindItsRightSide() {
        for (String sign : new String[] {"+", "-", "*", "<", "="}) {
            String begun = "b=c" + sign;
            dueBehindFull(begun, STRAY, 4);
            dueBehindFull(begun + ";", STRAY, 4);
            dueBehindFull(begun + "zz", STRAY, 4);
            dueBehindFull(begun + "2147483648", TOO_GREAT, 4);
            dueBehindFull(begun + "d", TOO_MANY, 3);
            dueBehindFull(begun + "2147483647", TOO_MANY, 3);
            dueBehindFull(begun + "d?", TOO_MANY, 3);
            dueBehindFull(begun + "d 2147483648", TOO_MANY, 3);
            dueBehindFull(begun + "(d", STRAY, 6);
            dueBehindFull(begun + "(d;", STRAY, 6);
            dueBehindFull(begun + "(d)", TOO_MANY, 3);
            dueBehindFull(begun + "(d*e", TOO_MANY, 6);
            dueBehindFull(begun + "m[d", STRAY, 7);
            dueBehindFull(begun + "m[d]", TOO_MANY, 4);
            dueBehindFull(begun + "(".repeat(21), TOO_MANY, 24);
        }
        dueBehindFull("b=c+d*", STRAY, 6);
        dueBehindFull("b=c+d*e", TOO_MANY, 5);
        dueBehindFull("b=c<d+e", TOO_MANY, 5);
        dueBehindFull("b=c=d-e", TOO_MANY, 5);
        dueBehindFull("b=c*d+", TOO_MANY, 3);
        dueBehindFull("b=c+d+", TOO_MANY, 3);
        dueBehindFull("b=c-d<", TOO_MANY, 3);
        dueBehindFull("b=c<d<e;", TOO_MANY, 3);
        dueBehindFull("if c<d", TOO_MANY, 4);
        dueBehindFull("while c+", STRAY, 8);
    }

    /** "an m that is read behind its ]". */
    private static void aReadIsLookedAtBehindItsBracket() {
        dueBehindFull("b=m", STRAY, 3);
        dueBehindFull("b=m[", STRAY, 4);
        dueBehindFull("b=m[]", STRAY, 4);
        dueBehindFull("b=m[c", STRAY, 5);
        dueBehindFull("b=m[c;", STRAY, 5);
        dueBehindFull("b=m[c)", STRAY, 5);
        dueBehindFull("b=m[2147483648]", TOO_GREAT, 4);
        dueBehindFull("b=m[c]", TOO_MANY, 2);
        dueBehindFull("b=m[c]?", TOO_MANY, 2);
        dueBehindFull("b=m[c+d]", TOO_MANY, 5);
        dueBehindFull("b=m[m[c]]", TOO_MANY, 4);
        dueBehindFull("b= m[c]+;", TOO_MANY, 3);
        dueBehindFull("b=" + "m[".repeat(21), TOO_MANY, 43);
    }

    /** "moves and writes behind their ;". */
    private static void movesAndWritesAreLookedAtBehindTheirEnd() {
        dueBehindFull("b=1", STRAY, 3);
        dueBehindFull("b=1}", STRAY, 3);
        dueBehindFull("b=2147483648;", TOO_GREAT, 2);
        dueBehindFull("b=(1;", STRAY, 4);
        dueBehindFull("b=1;", TOO_MANY, 0);
        dueBehindFull("b=1;?", TOO_MANY, 0);
        dueBehindFull("m", STRAY, 1);
        dueBehindFull("m[1", STRAY, 3);
        dueBehindFull("m[1]", STRAY, 4);
        dueBehindFull("m[1]=", STRAY, 5);
        dueBehindFull("m[1]=1", STRAY, 6);
        dueBehindFull("m[1]=1]", STRAY, 6);
        dueBehindFull("m[1]=2147483648;", TOO_GREAT, 5);
        dueBehindFull("m[1]=1;", TOO_MANY, 0);
        dueBehindFull("m[1]=1;?", TOO_MANY, 0);
        dueBehindFull("m[c+d]=1;", TOO_MANY, 3);
        dueBehindFull("m[1]=c+d;", TOO_MANY, 6);
        dueBehindFull("m[m[1]]=1;", TOO_MANY, 2);
    }

    /** The same, over all blocks of the program. */
    private static void operationsCountOverBlocks() {
        String blocks = "if 1{a=1;}else{b=1;}while 1{c=1;}d=1;";
        Checks.dueOperations(full(195) + blocks, 199);
        Checks.dueOperations(full(196) + blocks, 200);
        Checks.dueFault(full(197) + blocks, TOO_MANY, full(197).length() + 33);
        Checks.dueFault(full(198) + blocks, TOO_MANY, full(198).length() + 28);
        Checks.dueFault(full(199) + blocks, TOO_MANY, full(199).length() + 15);
        Checks.dueFault(full(200) + blocks, TOO_MANY, full(200).length() + 5);
    }

    /** "Answers how many operations it has". */
    private static void compileTellsHowManyOperations() {
        for (int many : new int[] {0, 1, 2, 3, 199, 200}) {
            CycleSynthesis x = new CycleSynthesis();
            Checks.due("compile()", Checks.compile(x, full(many)), many);
            Checks.due("compile() again", x.compile(), many);
            Checks.throwsIndex("operation(" + many + ", 0)", () -> x.operation(many, 0));
            Checks.throwsIndex("operation(-1, 0)", () -> x.operation(-1, 0));
            if (many > 0) {
                Checks.due("operation(many - 1, 0)", x.operation(many - 1, 0), 0);
            }
        }
    }

    /** "NONE when there is a fault: the program stays, all of it." */
    private static void aFaultLeavesAllOfTheProgram() {
        String[] faulty = {"}", "c=c+1;d=2", "c=2147483648;", "while 1{".repeat(11), "e=" + "(".repeat(21),
            "if a*2{b=1;c=b;}else{d=m[1]}"};
        for (String tape : faulty) {
            CycleSynthesis x = Checks.made("a=a+1;if a<3{b=a*2*a;}while a{a=a-1;m[a]=b;}c=m[1]*7;", 1, 1, 3, 2, 2);
            Checks.due("run(9)", x.run(9), 9);
            String before = Standing.ofMachine(x);
            Checks.due("compile() of " + tape, Checks.compile(x, tape), NONE);
            Checks.same("all behind " + tape, Standing.ofMachine(x), before);
            CycleSynthesis same = Checks.made("a=a+1;if a<3{b=a*2*a;}while a{a=a-1;m[a]=b;}c=m[1]*7;", 1, 1, 3, 2, 2);
            same.run(9);
            Checks.due("run(5000)", x.run(5000), same.run(5000));
            Checks.same("all behind run(5000)", Standing.ofMachine(x), Standing.ofMachine(same));
        }
        CycleSynthesis x = new CycleSynthesis();
        Checks.due("compile() of a fault", Checks.compile(x, "a=1;b="), NONE);
        Checks.due("told(0)", x.told(0), 0);
        Checks.due("run(5)", x.run(5), 0);
    }

    /** "The program becomes that of the tape (which stays)". */
    private static void theTapeStays() {
        CycleSynthesis x = new CycleSynthesis();
        Checks.feed(x, "a=1;");
        Checks.due("compile()", x.compile(), 1);
        Checks.due("feed(4)", x.feed(4, Checks.packed("b=2;")), 8);
        Checks.due("compile()", x.compile(), 2);
        Checks.due("feed(2)", x.feed(2, Checks.packed("c=")), 10);
        Checks.due("compile()", x.compile(), NONE);
        Checks.due("feed(2)", x.feed(2, Checks.packed("3;")), 12);
        Checks.due("compile()", x.compile(), 3);
        Checks.due("wipe()", x.wipe(), 12);
    }

    /** "The program becomes that of the tape", whatever programs, or faults, came before it. */
    private static void nothingStaysOfEarlierPrograms() {
        String[] tapes = {"if a+1{b=2;}else{c=3;}", "a=1;m[2]=a;", "while a<3{a=a+1;}", "b=c*d*e;", "", "d=4;while 0{}",
            "a=b;c=d+e;", "if 1{a=m[3]+m[4];}b=1;"};
        for (String first : tapes) {
            for (String second : tapes) {
                CycleSynthesis x = Checks.made(first);
                // Twice, as what a program is kept in may be used by turns.
                x.compile();
                Checks.compile(x, second);
                CycleSynthesis fresh = Checks.made(second);
                Checks.same(second + " behind " + first, Standing.of(x), Standing.of(fresh));
                Checks.due("run(9)", x.run(9), fresh.run(9));
                Checks.same(second + " run behind " + first, Standing.of(x), Standing.of(fresh));
            }
        }
    }

    /** "the machine stands at its beginning, no cycles done; variables and cells stay". */
    private static void compilePutsTheMachineToItsBeginning() {
        CycleSynthesis x = Checks.made("a=a+1;m[2]=a;while 1{}");
        x.run(2);
        x.run(1);
        Checks.due("at()", x.at(), 1);
        Checks.due("cycles()", x.cycles(), 3);
        Checks.due("compile()", x.compile(), 2);
        Checks.due("at()", x.at(), 0);
        Checks.due("cycles()", x.cycles(), 0);
        Checks.due("get(0)", x.get(0), 1);
        Checks.due("peek(2)", x.peek(2), 1);
        x.run(1);
        Checks.due("compile() of nothing", Checks.compile(x, ""), 0);
        Checks.due("at()", x.at(), NONE);
        Checks.due("cycles()", x.cycles(), 0);
        Checks.due("get(0)", x.get(0), 2);
    }

    /** "The fault that the last compile() met, 1 to 3; 0 when it met none, or there was none." */
    private static void theFaultOfTheLastCompile() {
        CycleSynthesis x = new CycleSynthesis();
        Checks.due("fault() before all", x.fault(), 0);
        Checks.feed(x, ";");
        Checks.due("fault() before compile()", x.fault(), 0);
        Checks.due("place() before compile()", x.place(), NONE);
        String[] tapes = {";", "a=2147483648;", "a=" + "(".repeat(21), "a=2147483647;", "if1{".repeat(11), "a=1;",
            "a=9999999999;", "", "a"};
        int[] faults = {1, 2, 3, 0, 3, 0, 2, 0, 1};
        int[] places = {0, 2, 22, NONE, 43, NONE, 2, NONE, 1};
        for (int i = 0; i < tapes.length; i++) {
            Checks.compile(x, tapes[i]);
            Checks.due("fault() of " + tapes[i], x.fault(), faults[i]);
            Checks.due("place() of " + tapes[i], x.place(), places[i]);
            x.compile();
            Checks.due("fault() of it again", x.fault(), faults[i]);
            Checks.due("place() of it again", x.place(), places[i]);
        }
    }

    /** The same: of "the last compile()", whatever else was called behind it. */
    private static void theFaultStaysUpToTheNextCompile() {
        CycleSynthesis x = Checks.made("a=1;b=2;");
        Checks.compile(x, "a=2147483648;");
        x.wipe();
        x.feed(4, Checks.packed("a=1;"));
        x.units(1, 2, 2);
        x.restart();
        x.run(5);
        x.set(0, 1);
        x.poke(0, 1);
        Checks.throwsArgument("run(-1)", () -> x.run(-1));
        Checks.due("fault()", x.fault(), TOO_GREAT);
        Checks.due("place()", x.place(), 2);
        Checks.due("compile()", x.compile(), 1);
        x.wipe();
        x.feed(1, ';');
        Checks.due("fault()", x.fault(), 0);
        Checks.due("place()", x.place(), NONE);
    }

    /** "The place of that fault on the tape; NONE when there is none." */
    private static void thePlaceOfTheFault() {
        for (int place : new int[] {0, 1, 2, 7, 8, 9, 255, 256, 698, 699}) {
            Checks.dueFault(" ".repeat(place) + "}", STRAY, place);
            Checks.dueFault("\n".repeat(place) + "?" + " ".repeat(699 - place), STRAY, place);
        }
        Checks.dueFault(" ".repeat(699) + "a", STRAY, 700);
        Checks.dueFault("a" + " ".repeat(699), STRAY, 700);
        Checks.dueFault("a" + " ".repeat(698), STRAY, 699);
        Checks.dueOperations(" ".repeat(700), 0);
    }

    /** The next compile() counts braces, brackets and operations from the beginning on. */
    private static void whatWasOpenAtAFaultIsForgotten() {
        CycleSynthesis x = new CycleSynthesis();
        String most = "if1{".repeat(10) + "a=" + bracketed("(", 20, ")") + ";" + "}".repeat(10);
        Checks.due("compile() of a fault", Checks.compile(x, most.substring(0, 62)), NONE);
        Checks.due("compile() of most", Checks.compile(x, most), 1);
        Checks.due("compile() of a fault", Checks.compile(x, full(200).replace(';', '?')), NONE);
        Checks.due("compile() of most", Checks.compile(x, full(200)), 200);
        Checks.due("compile() of too many", Checks.compile(x, full(201)), NONE);
        Checks.due("fault()", x.fault(), TOO_MANY);
        Checks.due("operations that stay", x.block(0, 2), 200);
    }
}
