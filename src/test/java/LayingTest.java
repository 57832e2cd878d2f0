/** Promises 4, 8 and 10: operations, their order, how they are laid, and units. */
public final class LayingTest {
    private static final int N = CycleSynthesis.NONE;

    public static void main(String[] args) {
        numbersAndKinds();
        heightsAndCycles();
        higherOnesFirst();
        unitsOfAKind();
        unitsStayTaken();
        movesHaveUnitsEnough();
        orderByVariables();
        orderByMemory();
        orderOnlyWithinBlocks();
        registersByTheirBegin();
        registersOfEs();
        toldNumbers();
        operationRefusals();
        toldRefusals();
        unitsLayAnew();
        unitsPutTheMachineToItsBeginning();
        unitsRefusals();
        unitsStayForProgramsToCome();
        theLongestBlock();
        Checks.finish();
    }

    private static void numbersAndKinds() {
        String each = "a=1+2-3;b=1<2;c=1=2;d=1*2;e=m[1];m[2]=3;f=(g);";
        Checks.dueOfOperations(each, Checks.made(each), 0, 0, 0, 0, 0, 1, 2, 2, 3);
        String nested = "a=m[b+1]*(c-d*e)<f;";
        Checks.dueOfOperations(nested, Checks.made(nested), 0, 0, 2, 1, 0, 1, 0);
        String write = "m[a+1]=b*m[2];";
        Checks.dueOfOperations(write, Checks.made(write), 0, 0, 2, 1, 2);
        String read = "a=m[m[(b)]];";
        Checks.dueOfOperations(read, Checks.made(read), 0, 2, 2);
        String choice = "if a{if a*2{b=1;}}while (c){c=c-1;}";
        Checks.dueOfOperations(choice, Checks.made(choice), 0, 1, 3, 0);
        Checks.dueOfOperations(choice, Checks.made(choice), 1, 1, 2, 4);
    }

    private static void heightsAndCycles() {
        String text = "a=m[b+1]*(c-d*e)<f;";
        CycleSynthesis x = Checks.made(text, 1, 1, 3, 1, 2);
        Checks.dueOfOperations(text, x, 3, 7, 6, 8, 5, 4, 1);
        Checks.dueOfOperations(text, x, 2, 0, 1, 0, 3, 4, 7);
        Checks.dueOfOperations(text, x, 4, 0, 0, 0, 0, 0, 0);
        Checks.dueOfOperations(text, x, 5, 0, 0, 1, 1, 0, N);
        Checks.dueOfBlocks(text, x, 0, 8);
        Checks.due("told(2)", x.told(2), 2);

        String ends = "a=b*c;d=1;";
        Checks.dueOfBlocks(ends, Checks.made(ends, 1, 1, 4, 1, 1), 0, 4);
        Checks.dueOfBlocks("no operation", Checks.made("while a{}"), 0, 1);
    }

    private static void higherOnesFirst() {
        String text = "a=b+c;d=e+f;g=d+d;";
        CycleSynthesis x = Checks.made(text);
        Checks.dueOfOperations(text, x, 3, 1, 2, 1);
        Checks.dueOfOperations(text, x, 2, 1, 0, 2);

        String multiplied = "a=b+c;d=e+f;g=h+h;e=g*g;";
        x = Checks.made(multiplied, 1, 1, 4, 1, 1);
        Checks.dueOfOperations(multiplied, x, 3, 1, 5, 5, 4);
        Checks.dueOfOperations(multiplied, x, 2, 2, 0, 1, 2);
    }

    private static void unitsOfAKind() {
        String text = "a=b+c;d=e+f;g=h+b;";
        CycleSynthesis x = Checks.made(text);
        Checks.dueOfOperations("1 adder", x, 2, 0, 1, 2);
        Checks.dueOfOperations("1 adder", x, 4, 0, 0, 0);
        x.units(0, 2, 1);
        Checks.dueOfOperations("2 adders", x, 2, 0, 0, 1);
        Checks.dueOfOperations("2 adders", x, 4, 0, 1, 0);
        x.units(0, 4, 1);
        Checks.dueOfOperations("4 adders", x, 2, 0, 0, 0);
        Checks.dueOfOperations("4 adders", x, 4, 0, 1, 2);
        Checks.due("told(3)", x.told(3), 3);
    }

    private static void unitsStayTaken() {
        String text = "a=b*c;d=e+f;g=d*d;h=b*b;";
        CycleSynthesis x = Checks.made(text, 1, 2, 3, 1, 1);
        Checks.dueOfOperations("2 multipliers", x, 3, 3, 4, 3, 3);
        Checks.dueOfOperations("2 multipliers", x, 2, 0, 0, 3, 0);
        Checks.dueOfOperations("2 multipliers", x, 4, 0, 0, 0, 1);
        x.units(1, 3, 3);
        Checks.dueOfOperations("3 multipliers", x, 2, 0, 0, 1, 0);
        Checks.dueOfOperations("3 multipliers", x, 4, 0, 0, 2, 1);
        Checks.due("told(4)", x.told(4), 3);

        String later = "a=b*c;d=e+f;g=d*d;h=g+g;b=h*h;";
        x = Checks.made(later, 1, 2, 3, 1, 1);
        Checks.dueOfOperations(later, x, 3, 6, 8, 7, 4, 3);
        Checks.dueOfOperations(later, x, 2, 0, 0, 1, 4, 5);
        Checks.dueOfOperations(later, x, 4, 0, 0, 1, 0, 0);
    }

    private static void movesHaveUnitsEnough() {
        String text = "a=1;b=2;c=3;a=4;d=b;";
        CycleSynthesis x = Checks.made(text);
        Checks.dueOfOperations(text, x, 3, 2, 2, 1, 1, 1);
        Checks.dueOfOperations(text, x, 2, 0, 0, 0, 1, 1);
        Checks.dueOfOperations(text, x, 4, 0, 1, 2, 0, 1);
        Checks.due("told(6)", x.told(6), 3);

        String higher = "c=3;a=1;b=a;";
        x = Checks.made(higher);
        Checks.dueOfOperations(higher, x, 2, 0, 0, 1);
        Checks.dueOfOperations(higher, x, 4, 1, 0, 0);

        String all = "a=1;b=1;c=1;d=1;e=1;f=1;g=1;h=1;";
        x = Checks.made(all);
        Checks.dueOfOperations(all, x, 4, 0, 1, 2, 3, 4, 5, 6, 7);
        Checks.due("told(6)", x.told(6), 8);
    }

    private static void dueBegins(String text, int... want) {
        Checks.dueOfOperations(text, Checks.made(text, 4, 4, 4, 4, 3), 2, want);
    }

    private static void orderByVariables() {
        dueBegins("a=b*c;d=a;", 0, 4);
        dueBegins("a=b*c;d=e+a;", 0, 4);
        dueBegins("a=b*c;d=m[a];", 0, 4);
        dueBegins("a=b*c;m[a]=1;", 0, 4);
        dueBegins("a=b*c;m[1]=a;", 0, 4);
        dueBegins("a=b*c;a=1;", 0, 4);
        dueBegins("a=b*c;a=d+e;", 0, 4);
        dueBegins("a=b*c;b=1;", 0, 4);
        dueBegins("a=b*c;c=1;", 0, 4);
        dueBegins("a=m[b];b=1;", 0, 3);
        dueBegins("m[b]=a;b=1;", 0, 3);
        dueBegins("m[a]=b;b=1;", 0, 3);
        dueBegins("a=a+1;a=a+1;", 0, 1);
        dueBegins("a=b;b=c;c=a;", 0, 1, 2);
        dueBegins("a=1;b=1;", 0, 0);
        dueBegins("a=b*c;d=b*c;", 0, 0);
        dueBegins("a=b*c;d=0;e=c;", 0, 0, 0);
        dueBegins("a=(b*c)*d;b=1;", 0, 4, 4);
        dueBegins("a=(b*c)*d;d=1;", 0, 4, 8);
        dueBegins("a=(b*c)*d;e=a;", 0, 4, 8);
        dueBegins("a=a*a;b=b*b;", 0, 0);
    }

    private static void orderByMemory() {
        dueBegins("a=m[1];b=m[1];", 0, 0);
        dueBegins("a=m[1];m[2]=b;", 0, 3);
        dueBegins("m[1]=a;b=m[2];", 0, 3);
        dueBegins("m[1]=a;m[2]=b;", 0, 3);
        dueBegins("m[1]=a;b=1;", 0, 0);
        dueBegins("a=m[1];m[2]=b;c=m[3];d=m[4];m[5]=e;", 0, 3, 6, 6, 9);
        dueBegins("m[m[1]]=m[2];", 0, 0, 3);
        CycleSynthesis x = Checks.made("m[1]=a;b=m[2];c=m[3];", 1, 1, 1, 1, 3);
        Checks.dueOfOperations("1 port", x, 2, 0, 3, 6);
        Checks.dueOfOperations("1 port", x, 3, 6, 3, 3);
        Checks.due("told(5)", x.told(5), 1);
        x.units(2, 2, 3);
        Checks.dueOfOperations("2 ports", x, 2, 0, 3, 3);
        Checks.dueOfOperations("2 ports", x, 4, 0, 0, 1);
    }

    private static void orderOnlyWithinBlocks() {
        String text = "a=b*c;while a*a{a=a*2;}";
        CycleSynthesis x = Checks.made(text, 1, 1, 4, 1, 1);
        Checks.dueOfOperations(text, x, 2, 0, 0, 0);
        Checks.dueOfOperations(text, x, 3, 4, 4, 4);
        Checks.dueOfOperations(text, x, 4, 0, 0, 0);
        Checks.dueOfBlocks(text, x, 0, 4, 4, 4);
        String choice = "a=b*c;if a{}";
        Checks.dueOfBlocks(choice, Checks.made(choice, 1, 1, 4, 1, 1), 0, 4);
    }

    private static void registersByTheirBegin() {
        String later = "a=(b*c)<(d+e);";
        Checks.dueOfOperations(later, Checks.made(later, 1, 1, 4, 1, 1), 5, 1, 0, N);
        String same = "a=(b+c)*(d<e);";
        Checks.dueOfOperations(same, Checks.made(same, 2, 1, 4, 1, 1), 5, 0, 1, N);
        String chain = "a=b+c+d+e;";
        Checks.dueOfOperations(chain, Checks.made(chain), 5, 0, 0, N);
        String write = "m[a+1]=b+c;";
        CycleSynthesis x = Checks.made(write);
        Checks.dueOfOperations(write, x, 5, 0, 1, N);
        Checks.due("told(2)", x.told(2), 2);
        String none = "a=b+c;d=m[1];e=1;m[2]=f;";
        x = Checks.made(none);
        Checks.dueOfOperations(none, x, 5, N, N, N, N);
        Checks.due("told(2)", x.told(2), 0);
        // The adder's value begins to be held behind the multiplier's, though it has begun later.
        String crossed = "a=(b*c)*((d*e)+f);";
        x = Checks.made(crossed, 1, 2, 2, 1, 1);
        Checks.dueOfOperations(crossed, x, 2, 0, 0, 2, 3);
        Checks.dueOfOperations(crossed, x, 5, 0, 1, 1, N);
    }

    private static void registersOfEs() {
        String last = "if a<3{}";
        CycleSynthesis x = Checks.made(last);
        Checks.dueOfOperations(last, x, 5, 0);
        Checks.due("told(2)", x.told(2), 1);
        String held = "m[1]=5;if a<3{}";
        x = Checks.made(held, 1, 1, 1, 1, 4);
        Checks.dueOfOperations(held, x, 5, N, 0);
        // The E of the block is held beside the index, up to the last cycle.
        String beside = "m[b+c]=d*e;if a<3{}";
        x = Checks.made(beside, 3, 1, 2, 1, 4);
        Checks.dueOfOperations(beside, x, 2, 0, 0, 2, 0);
        Checks.dueOfOperations(beside, x, 5, 0, 2, N, 1);
        Checks.dueOfBlocks(beside, x, 0, 6);
        Checks.due("told(2)", x.told(2), 3);
        String loop = "while (a+b)*(a-b){a=a+1;}";
        x = Checks.made(loop, 2, 1, 1, 1, 1);
        Checks.dueOfOperations(loop, x, 5, 0, 1, 0, N);
        // A variable as E holds no register, and neither does a number.
        Checks.due("told(2)", Checks.made("a=b+c;if a{}while 1{}").told(2), 0);
    }

    private static void toldNumbers() {
        CycleSynthesis x = Checks.made("if a<3{b=b+1;c=c+1;d=d*2;}else{e=m[1];f=m[2];g=1;h=2;}");
        x.units(0, 4, 1);
        x.units(2, 4, 2);
        int[] want = {3, 4, 1, 2, 1, 2, 2};
        for (int what = 0; what <= 6; what++) {
            Checks.due("told(" + what + ")", x.told(what), want[what]);
        }
        x.units(0, 1, 1);
        int[] with = {3, 5, 1, 1, 1, 2, 2};
        for (int what = 0; what <= 6; what++) {
            Checks.due("1 adder: told(" + what + ")", x.told(what), with[what]);
        }
        x.wipe();
        x.compile();
        for (int what = 0; what <= 6; what++) {
            Checks.due("nothing: told(" + what + ")", x.told(what), 0);
        }
    }

    private static void operationRefusals() {
        CycleSynthesis x = Checks.made("a=1+2;b=m[a]*3;");
        int[] noOperations = {-1, 3, 200, Integer.MAX_VALUE, Integer.MIN_VALUE};
        for (int i : noOperations) {
            Checks.throwsIndex("operation(" + i + ", 0)", () -> x.operation(i, 0));
            Checks.throwsIndex("operation(" + i + ", 6)", () -> x.operation(i, 6));
        }
        int[] noWhats = {-1, 6, 7, Integer.MAX_VALUE, Integer.MIN_VALUE};
        for (int what : noWhats) {
            Checks.throwsArgument("operation(2, " + what + ")", () -> x.operation(2, what));
        }
        Checks.due("operation(2, 0)", x.operation(2, 0), 1);
    }

    private static void toldRefusals() {
        CycleSynthesis x = Checks.made("a=1;");
        int[] noWhats = {-1, 7, 8, Integer.MAX_VALUE, Integer.MIN_VALUE};
        for (int what : noWhats) {
            Checks.throwsArgument("told(" + what + ")", () -> x.told(what));
        }
        Checks.due("told(6)", x.told(6), 1);
    }

    private static void unitsLayAnew() {
        String text = "a=b*c+d*e;f=m[a]*m[b];";
        CycleSynthesis x = Checks.made(text);
        Checks.dueOfOperations(text, x, 3, 4, 4, 3, 2, 2, 1);
        Checks.dueOfOperations(text, x, 2, 0, 1, 2, 3, 0, 4);
        x.units(1, 2, 4);
        Checks.dueOfOperations("slow", x, 3, 10, 10, 6, 5, 5, 4);
        Checks.dueOfOperations("slow", x, 2, 0, 0, 4, 5, 0, 6);
        Checks.due("slow: told(1)", x.told(1), 10);
        x.units(1, 1, 1);
        Checks.dueOfOperations("again", x, 2, 0, 1, 2, 3, 0, 4);
        Checks.due("again: told(1)", x.told(1), 5);
    }

    private static void unitsPutTheMachineToItsBeginning() {
        CycleSynthesis x = Checks.made("a=a+1;while a<9{a=a+1;m[a]=a;}");
        Checks.due("run(4)", x.run(4), 4);
        Checks.due("at()", x.at(), 1);
        Checks.due("a", x.get(0), 2);
        x.units(0, 1, 1);
        Checks.due("at()", x.at(), 0);
        Checks.due("cycles()", x.cycles(), 0);
        Checks.due("a stays", x.get(0), 2);
        Checks.due("m[2] stays", x.peek(2), 2);
        Checks.due("run(1)", x.run(1), 1);
        Checks.due("a", x.get(0), 3);
    }

    private static void unitsRefusals() {
        CycleSynthesis x = Checks.made("a=b*c;d=e*f;");
        x.run(1);
        int[][] wrong = {{3, 1, 1}, {-1, 1, 1}, {0, 0, 1}, {0, 5, 1}, {0, 1, 2}, {0, 1, 0}, {1, 0, 1},
            {1, 5, 1}, {1, -1, 1}, {1, 1, 0}, {1, 1, 5}, {2, 0, 1}, {2, 5, 4}, {2, 4, 5}, {2, 1, -1},
            {1, Integer.MAX_VALUE, 1}, {1, 1, Integer.MAX_VALUE}, {Integer.MIN_VALUE, 2, 2}};
        for (int[] row : wrong) {
            Checks.throwsArgument("units(" + row[0] + ", " + row[1] + ", " + row[2] + ")",
                () -> x.units(row[0], row[1], row[2]));
        }
        Checks.dueOfOperations("as before", x, 2, 0, 1);
        Checks.due("at()", x.at(), N);
        Checks.due("cycles()", x.cycles(), 2);
        for (int kind = 0; kind <= 2; kind++) {
            x.units(kind, 4, kind == 0 ? 1 : 4);
            x.units(kind, 1, 1);
        }
    }

    private static void unitsStayForProgramsToCome() {
        CycleSynthesis x = new CycleSynthesis();
        x.units(0, 2, 1);
        x.units(1, 2, 3);
        x.units(2, 2, 2);
        String text = "a=b*c;d=e*f;g=m[1];h=m[2];m[3]=b+c;b=d+e;";
        Checks.due("compile()", Checks.compile(x, text), 7);
        Checks.dueOfOperations(text, x, 2, 0, 0, 0, 0, 0, 2, 3);
        Checks.dueOfOperations(text, x, 3, 4, 4, 4, 4, 3, 2, 1);
        Checks.due("compile()", Checks.compile(x, "a=b*c;d=a;"), 2);
        Checks.dueOfOperations("the second", x, 2, 0, 3);
    }

    private static void theLongestBlock() {
        CycleSynthesis x = Checks.made("a=" + "m[".repeat(20) + "1" + "]".repeat(20) + ";"
            + "a=a" + "*a".repeat(180) + ";", 1, 1, 4, 1, 4);
        Checks.due("told(1)", x.told(1), 800);
        Checks.due("operation(0, 3)", x.operation(0, 3), 800);
        Checks.due("operation(199, 2)", x.operation(199, 2), 796);
        Checks.due("run(1)", x.run(1), 800);
    }
}
