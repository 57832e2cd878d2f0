/** Promises 11 to 18: variables, cells, and running. */
public final class RunTest {
    private static final int N = CycleSynthesis.NONE;

    public static void main(String[] args) {
        variables();
        cells();
        variableRefusals();
        cellRefusals();
        values();
        memoryTakesTheLowestFourBits();
        choices();
        blocksAreDoneWhole();
        runStopsAtTheEnd();
        runRefusals();
        loopsWithoutEnd();
        restart();
        valuesStayBetweenPrograms();
        callsBetweenBlocks();
        longCycles();
        Checks.finish();
    }

    private static void variables() {
        CycleSynthesis x = new CycleSynthesis();
        for (int i = 0; i < 8; i++) {
            Checks.due("set(" + i + ")", x.set(i, i - 4), 0);
        }
        for (int i = 0; i < 8; i++) {
            Checks.due("get(" + i + ")", x.get(i), i - 4);
        }
        Checks.due("set(3, MIN)", x.set(3, Integer.MIN_VALUE), -1);
        Checks.due("set(3, MAX)", x.set(3, Integer.MAX_VALUE), Integer.MIN_VALUE);
        Checks.due("get(3)", x.get(3), Integer.MAX_VALUE);
        Checks.due("peek(3)", x.peek(3), 0);
    }

    private static void cells() {
        CycleSynthesis x = new CycleSynthesis();
        for (int i = 0; i < 16; i++) {
            Checks.due("poke(" + i + ")", x.poke(i, i - 8), 0);
        }
        for (int i = 0; i < 16; i++) {
            Checks.due("peek(" + i + ")", x.peek(i), i - 8);
        }
        Checks.due("poke(7, MIN)", x.poke(7, Integer.MIN_VALUE), -1);
        Checks.due("poke(7, MAX)", x.poke(7, Integer.MAX_VALUE), Integer.MIN_VALUE);
        Checks.due("peek(7)", x.peek(7), Integer.MAX_VALUE);
        Checks.due("get(7)", x.get(7), 0);
    }

    private static void variableRefusals() {
        CycleSynthesis x = new CycleSynthesis();
        int[] none = {-1, 8, 9, Integer.MAX_VALUE, Integer.MIN_VALUE};
        for (int i : none) {
            Checks.throwsIndex("get(" + i + ")", () -> x.get(i));
            Checks.throwsIndex("set(" + i + ", 5)", () -> x.set(i, 5));
        }
        for (int i = 0; i < 8; i++) {
            Checks.due("get(" + i + ")", x.get(i), 0);
        }
    }

    private static void cellRefusals() {
        CycleSynthesis x = new CycleSynthesis();
        int[] none = {-1, 16, 17, Integer.MAX_VALUE, Integer.MIN_VALUE};
        for (int i : none) {
            Checks.throwsIndex("peek(" + i + ")", () -> x.peek(i));
            Checks.throwsIndex("poke(" + i + ", 5)", () -> x.poke(i, 5));
        }
        for (int i = 0; i < 16; i++) {
            Checks.due("peek(" + i + ")", x.peek(i), 0);
        }
    }

    /** What a becomes by a = that expression, with b = 7, c = -3, d = the greatest int. */
    private static void dueValue(String expression, int want) {
        CycleSynthesis x = Checks.made("a=" + expression + ";");
        x.set(1, 7);
        x.set(2, -3);
        x.set(3, Integer.MAX_VALUE);
        x.poke(7, 70);
        x.poke(13, 130);
        x.run(5000);
        Checks.due(expression, x.get(0), want);
    }

    private static void values() {
        dueValue("2147483647", Integer.MAX_VALUE);
        dueValue("b", 7);
        dueValue("b+c", 4);
        dueValue("b-c", 10);
        dueValue("c-b", -10);
        dueValue("b*c", -21);
        dueValue("d+1", Integer.MIN_VALUE);
        dueValue("0-d-2", Integer.MAX_VALUE);
        dueValue("d*d", 1);
        dueValue("d*2", -2);
        dueValue("b<c", 0);
        dueValue("c<b", 1);
        dueValue("b<b", 0);
        dueValue("b=7", 1);
        dueValue("b=c", 0);
        dueValue("10-3-2", 5);
        dueValue("10-(3-2)", 9);
        dueValue("2+3*4", 14);
        dueValue("(2+3)*4", 20);
        dueValue("2*3+4", 10);
        dueValue("2*3*4", 24);
        dueValue("1+1<1*3", 1);
        dueValue("1+1=2", 1);
        dueValue("(1<2)+(2<1)+(3=3)", 2);
        dueValue("m[b]", 70);
        dueValue("m[b]+m[c]*2", 330);
        dueValue("m[m[7]+m[7]+1]", 130);
    }

    private static void memoryTakesTheLowestFourBits() {
        CycleSynthesis x = Checks.made("m[16]=1;m[0-1]=2;m[2147483647+3]=3;a=m[32]+m[a-1]*10+m[18]*100;");
        x.run(5000);
        Checks.due("m[0]", x.peek(0), 1);
        Checks.due("m[15]", x.peek(15), 2);
        Checks.due("m[2]", x.peek(2), 3);
        Checks.due("a", x.get(0), 321);
    }

    private static void dueChoice(String text, int a, int want) {
        CycleSynthesis x = Checks.made(text);
        x.set(0, a);
        x.run(5000);
        Checks.due(text + " with " + a, x.get(1), want);
        Checks.due(text + " with " + a + ": at()", x.at(), N);
    }

    private static void choices() {
        dueChoice("if a{b=1;}else{b=2;}", 1, 1);
        dueChoice("if a{b=1;}else{b=2;}", 0, 2);
        dueChoice("if a{b=1;}else{b=2;}", -5, 1);
        dueChoice("if a{b=1;}else{b=2;}", Integer.MIN_VALUE, 1);
        dueChoice("if a-3{b=b+1;}b=b+10;", 4, 11);
        dueChoice("if a-3{b=b+1;}b=b+10;", 3, 10);
        dueChoice("a=a+1;if a{b=1;}", -1, 0);
        dueChoice("a=a+1;if (a){b=1;}", 0, 1);
        dueChoice("if 0{b=1;}else{if 7{b=2;}}", 0, 2);
        dueChoice("while a{b=b+a;a=a-1;}", 4, 10);
        dueChoice("while a{b=b+a;a=a-1;}", 0, 0);
        dueChoice("while 0<a{c=a;while c{b=b+1;c=c-1;}a=a-1;}", 4, 10);
        dueChoice("while a<5{if a=3{b=b+100;}else{b=b+1;}a=a+1;}", 0, 104);
        dueChoice("m[3]=5;if m[3]=5{b=1;}", 0, 1);
    }

    private static void blocksAreDoneWhole() {
        CycleSynthesis x = Checks.made("a=b*b;c=a*a;while c{c=c-1;}", 1, 1, 4, 1, 1);
        x.set(1, 1);
        Checks.due("run(0)", x.run(0), 0);
        Checks.due("at()", x.at(), 0);
        Checks.due("cycles()", x.cycles(), 0);
        Checks.due("run(1)", x.run(1), 8);
        Checks.due("at()", x.at(), 1);
        Checks.due("cycles()", x.cycles(), 8);
        Checks.due("c", x.get(2), 1);
        Checks.due("run(1)", x.run(1), 1);
        Checks.due("at()", x.at(), 2);
        Checks.due("run(2)", x.run(2), 2);
        Checks.due("at()", x.at(), N);
        Checks.due("cycles()", x.cycles(), 11);
        x.restart();
        Checks.due("run(8)", x.run(8), 8);
        Checks.due("at()", x.at(), 1);
        x.restart();
        Checks.due("run(9)", x.run(9), 9);
        Checks.due("at()", x.at(), 2);
        x.restart();
        Checks.due("run(7)", x.run(7), 8);
    }

    private static void runStopsAtTheEnd() {
        CycleSynthesis x = Checks.made("a=1;");
        Checks.due("run(5000)", x.run(5000), 1);
        Checks.due("at()", x.at(), N);
        Checks.due("run(5000)", x.run(5000), 0);
        Checks.due("cycles()", x.cycles(), 1);
        x = Checks.made("if a{}");
        Checks.due("run(5000)", x.run(5000), 1);
        Checks.due("at()", x.at(), N);
    }

    private static void runRefusals() {
        CycleSynthesis x = Checks.made("a=a+1;");
        int[] wrong = {-1, 5001, Integer.MAX_VALUE, Integer.MIN_VALUE};
        for (int n : wrong) {
            Checks.throwsArgument("run(" + n + ")", () -> x.run(n));
        }
        Checks.due("at()", x.at(), 0);
        Checks.due("cycles()", x.cycles(), 0);
        Checks.due("a", x.get(0), 0);
    }

    private static void loopsWithoutEnd() {
        CycleSynthesis x = Checks.made("while 1{}");
        Checks.due("run(5000)", x.run(5000), 5000);
        Checks.due("at()", x.at(), 0);
        Checks.due("run(17)", x.run(17), 17);
        Checks.due("cycles()", x.cycles(), 5017);
        x = Checks.made("while 1{a=a*a;}", 1, 1, 3, 1, 1);
        Checks.due("run(5000)", x.run(5000), 5000);
        Checks.due("run(4998)", x.run(4998), 5000);
        Checks.due("run(4997)", x.run(4997), 4997);
    }

    private static void restart() {
        CycleSynthesis x = Checks.made("a=a+1;while a<3{a=a+1;m[a]=7;}");
        Checks.due("run(3)", x.run(3), 4);
        x.restart();
        Checks.due("at()", x.at(), 0);
        Checks.due("cycles()", x.cycles(), 0);
        Checks.due("a", x.get(0), 2);
        Checks.due("m[2]", x.peek(2), 7);
        Checks.due("run(5000)", x.run(5000), 2);
        Checks.due("at()", x.at(), N);
        x.restart();
        Checks.due("at()", x.at(), 0);
        Checks.due("told(1)", x.told(1), 4);
    }

    private static void valuesStayBetweenPrograms() {
        CycleSynthesis x = Checks.made("a=5;m[4]=a;");
        x.run(5000);
        Checks.due("compile()", Checks.compile(x, "b=m[4]+a;"), 2);
        Checks.due("at()", x.at(), 0);
        Checks.due("cycles()", x.cycles(), 0);
        Checks.due("run(5000)", x.run(5000), 2);
        Checks.due("b", x.get(1), 10);
        Checks.due("compile() again", x.compile(), 2);
        Checks.due("at()", x.at(), 0);
        Checks.due("run(5000)", x.run(5000), 2);
    }

    private static void callsBetweenBlocks() {
        CycleSynthesis x = Checks.made("while a{a=a-1;b=b+m[1];}");
        x.set(0, 3);
        x.poke(1, 10);
        Checks.due("run(1)", x.run(1), 1);
        Checks.due("set(0, 1)", x.set(0, 1), 3);
        Checks.due("run(1)", x.run(1), 2);
        Checks.due("b", x.get(1), 10);
        Checks.due("set(0, -1)", x.set(0, 2), 0);
        Checks.due("poke(1, 5)", x.poke(1, 5), 10);
        Checks.due("run(5000)", x.run(5000), 7);
        Checks.due("b", x.get(1), 20);
    }

    private static void longCycles() {
        CycleSynthesis x = Checks.made("while 1{a=a+1;}");
        for (int i = 1; i <= 400; i++) {
            Checks.due("run(5000)", x.run(5000), 5000);
        }
        Checks.due("cycles()", x.cycles(), 2000000L);
        Checks.due("a", x.get(0), 1000000);
    }
}
