import java.util.function.Consumer;

/**
 * "Methods throw what their comments name ...; a call that throws, or answers NONE, changes nothing (but
 * for compile(), set() and poke())": each such call on one of two objects that stand alike, which must
 * then go on alike, call for call.
 */
public final class CallEdgesTest {
    private static final int N = CycleSynthesis.NONE;
    private static final int MIN = Integer.MIN_VALUE;
    private static final int MAX = Integer.MAX_VALUE;
    private static final String PROGRAM = "a=a+1;b=a*a*b;while a<4{a=a+1;m[a]=b*a;if b{c=m[a]*c+1;}}d=5;";

    public static void main(String[] args) {
        callsThatThrow();
        callsThatAnswerNone();
        callsThatOnlyTell();
        compileThatAnswersNone();
        setAndPokeThatAnswerNone();
        refusalsOfANewObject();
        Checks.finish();
    }

    /** In the midst of a run, with a faulty tape that has not been compiled to its end. */
    private static CycleSynthesis standing() {
        CycleSynthesis x = Checks.made(PROGRAM, 2, 2, 3, 1, 2);
        x.set(1, 3);
        x.poke(7, -1);
        x.set(6, -1);
        x.run(12);
        Checks.compile(x, "b=1;c=2147483648;");
        x.feed(2, Checks.packed("d="));
        return x;
    }

    /** All that two objects that stand alike must go on to answer alike: none of it may have changed. */
    private static String goneOn(CycleSynthesis x) {
        StringBuilder told = new StringBuilder(Standing.of(x));
        told.append(x.feed(2, Checks.packed("8;"))).append(' ');
        told.append(x.compile()).append(' ').append(x.place()).append(' ');
        told.append(x.run(7)).append(' ').append(x.at()).append(' ').append(x.cycles()).append(' ');
        told.append(x.wipe()).append(' ');
        for (int from = 0; from < PROGRAM.length(); from += 8) {
            String part = PROGRAM.substring(from, Math.min(PROGRAM.length(), from + 8));
            told.append(x.feed(part.length(), Checks.packed(part))).append(' ');
        }
        told.append(x.compile()).append(' ').append(x.run(20)).append(' ');
        return told.append(Standing.of(x)).toString();
    }

    private static void changesNothing(String named, Consumer<CycleSynthesis> call) {
        CycleSynthesis x = standing();
        CycleSynthesis alike = standing();
        call.accept(x);
        Checks.same("all behind " + named, goneOn(x), goneOn(alike));
    }

    private static void throwsArgument(String named, Consumer<CycleSynthesis> call) {
        changesNothing(named, x -> Checks.throwsArgument(named, () -> call.accept(x)));
    }

    private static void throwsIndex(String named, Consumer<CycleSynthesis> call) {
        changesNothing(named, x -> Checks.throwsIndex(named, () -> call.accept(x)));
    }

    private static void callsThatThrow() {
        for (int n : new int[] {0, -1, 9, MIN, MAX}) {
            throwsArgument("feed(" + n + ")", x -> x.feed(n, Checks.packed("}}}}}}}}")));
        }
        int[][] units = {{-1, 2, 1}, {3, 2, 1}, {0, 0, 1}, {0, 5, 1}, {0, 1, 0}, {0, 1, 2}, {1, 0, 1}, {1, 5, 1},
            {1, 1, 0}, {1, 1, 5}, {2, 0, 4}, {2, 5, 4}, {2, 4, 0}, {2, 4, 5}};
        for (int[] row : units) {
            throwsArgument("units(" + row[0] + ", " + row[1] + ", " + row[2] + ")",
                x -> x.units(row[0], row[1], row[2]));
        }
        throwsArgument("told(-1)", x -> x.told(-1));
        throwsArgument("told(7)", x -> x.told(7));
        throwsIndex("block(-1, 0)", x -> x.block(-1, 0));
        throwsIndex("block(5, 0)", x -> x.block(5, 0));
        throwsIndex("block(5, 5)", x -> x.block(5, 5));
        throwsArgument("block(4, 5)", x -> x.block(4, 5));
        throwsArgument("block(0, -1)", x -> x.block(0, -1));
        throwsIndex("operation(-1, 0)", x -> x.operation(-1, 0));
        throwsIndex("operation(11, 0)", x -> x.operation(11, 0));
        throwsIndex("operation(11, 6)", x -> x.operation(11, 6));
        throwsArgument("operation(10, 6)", x -> x.operation(10, 6));
        throwsArgument("operation(0, -1)", x -> x.operation(0, -1));
        throwsIndex("set(-1, 9)", x -> x.set(-1, 9));
        throwsIndex("set(8, 9)", x -> x.set(8, 9));
        throwsIndex("get(-1)", x -> x.get(-1));
        throwsIndex("get(8)", x -> x.get(8));
        throwsIndex("poke(-1, 9)", x -> x.poke(-1, 9));
        throwsIndex("poke(16, 9)", x -> x.poke(16, 9));
        throwsIndex("peek(-1)", x -> x.peek(-1));
        throwsIndex("peek(16)", x -> x.peek(16));
        throwsArgument("run(-1)", x -> x.run(-1));
        throwsArgument("run(5001)", x -> x.run(5001));
    }

    private static void callsThatAnswerNone() {
        changesNothing("block(0, 4)", x -> Checks.due("block(0, 4)", x.block(0, 4), N));
        changesNothing("operation(0, 5)", x -> Checks.due("operation(0, 5)", x.operation(0, 5), N));
        changesNothing("get(6)", x -> Checks.due("get(6)", x.get(6), N));
        changesNothing("peek(7)", x -> Checks.due("peek(7)", x.peek(7), N));
        CycleSynthesis x = Checks.made("a=1;");
        x.run(1);
        String before = Standing.of(x);
        Checks.due("at()", x.at(), N);
        Checks.due("place()", x.place(), N);
        Checks.due("run(3)", x.run(3), 0);
        Checks.same("all behind them", Standing.of(x), before);
        Checks.feedBehind(x, " ".repeat(694));
        for (int n = 3; n <= 8; n++) {
            Checks.due("feed(" + n + ") onto 698", x.feed(n, Checks.packed("}}}}}}}}")), N);
        }
        Checks.same("all behind them", Standing.of(x), before);
        Checks.due("compile()", x.compile(), 1);
        Checks.due("wipe()", x.wipe(), 698);
    }

    private static void callsThatOnlyTell() {
        changesNothing("all that tell", x -> Standing.of(x));
        changesNothing("run(0)", x -> Checks.due("run(0)", x.run(0), 0));
    }

    /** "but for compile()": fault and place change, and nothing else. */
    private static void compileThatAnswersNone() {
        CycleSynthesis x = standing();
        CycleSynthesis alike = standing();
        Checks.due("fault()", x.fault(), 2);
        Checks.due("place()", x.place(), 6);
        Checks.due("compile()", x.compile(), N);
        Checks.due("fault()", x.fault(), 2);
        x.wipe();
        Checks.feed(x, "b=1;c=");
        Checks.due("compile()", x.compile(), N);
        Checks.due("fault()", x.fault(), 1);
        Checks.due("place()", x.place(), 6);
        Checks.same("all but the fault", Standing.ofMachine(x), Standing.ofMachine(alike));
        Checks.due("wipe()", x.wipe(), 6);
    }

    /** "set() and poke()": what they answer is what was there, and that may be NONE. */
    private static void setAndPokeThatAnswerNone() {
        CycleSynthesis x = standing();
        Checks.due("set(6, 4)", x.set(6, 4), N);
        Checks.due("get(6)", x.get(6), 4);
        Checks.due("poke(7, 4)", x.poke(7, 4), N);
        Checks.due("peek(7)", x.peek(7), 4);
    }

    private static void refusalsOfANewObject() {
        CycleSynthesis x = new CycleSynthesis();
        String made = Standing.of(x);
        Checks.throwsArgument("feed(0)", () -> x.feed(0, 0));
        Checks.throwsArgument("units(3, 1, 1)", () -> x.units(3, 1, 1));
        Checks.throwsArgument("told(7)", () -> x.told(7));
        Checks.throwsIndex("block(0, 0)", () -> x.block(0, 0));
        Checks.throwsIndex("operation(0, 0)", () -> x.operation(0, 0));
        Checks.throwsIndex("set(8, 1)", () -> x.set(8, 1));
        Checks.throwsIndex("poke(16, 1)", () -> x.poke(16, 1));
        Checks.throwsArgument("run(5001)", () -> x.run(5001));
        Checks.due("feed(1)", x.feed(1, '}'), 1);
        Checks.due("compile()", x.compile(), N);
        Checks.due("wipe()", x.wipe(), 1);
        Checks.due("compile()", x.compile(), 0);
        Checks.same("all behind them", Standing.of(x), made);
    }
}
