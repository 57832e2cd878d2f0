/** The boundaries of registers, promises 8 and 10, each under the sentence of the document that names it. */
public final class RegisterEdgesTest {
    private static final int N = CycleSynthesis.NONE;

    public static void main(String[] args) {
        whatGivesAVariableItsValueHasNone();
        writesAndMovesHaveNone();
        whatIsUsedHasOne();
        whatIsTheEHasOne();
        fromTheCycleBehindItsLast();
        toTheCycleInWhichTheUserBegins();
        free1CycleAfterTheUserBegan();
        toTheLastOneThatUsesIt();
        theEToTheLastCycle();
        theEEndedWithTheLastCycle();
        byTheCycleInWhichThatBegins();
        ofTheSameByTheirNumbers();
        theLeastThatHoldsNone();
        registersAreOfABlock();
        registersThatAreUsed();
        registersAreGivenAnew();
        asManyAsOperations();
        Checks.finish();
    }

    private static void dueRegisters(CycleSynthesis x, String named, int... want) {
        Checks.dueOfOperations(named, x, 5, want);
        int used = 0;
        for (int register : want) {
            used = Math.max(used, register + 1);
        }
        Checks.due(named + ": told(2)", x.told(2), used);
    }

    private static void due(String text, int... want) {
        dueRegisters(Checks.made(text), text, want);
    }

    /** "REGISTERS hold values of operations that give no variable its value". */
    private static void whatGivesAVariableItsValueHasNone() {
        due("a=b+c;", N);
        due("a=b*c;", N);
        due("a=m[b];", N);
        due("a=b+c;d=a;", N, N);
        due("a=b+c;if a{}", N);
        due("a=b+c;m[a]=a;", N, N);
        due("a=b+c+d;", 0, N);
    }

    private static void writesAndMovesHaveNone() {
        due("m[a]=b;", N);
        due("a=b;", N);
        due("m[a]=b;c=d;if a{}", N, N);
    }

    /** "and are used in the block". */
    private static void whatIsUsedHasOne() {
        due("a=b+c+d;", 0, N);
        due("a=b*c*d;", 0, N);
        due("a=m[m[b]];", 0, N);
        due("m[b+c]=d;", 0, N);
        due("m[b]=c+d;", 0, N);
        due("a=b<c;", N);
        due("a=b<c+d;", 0, N);
    }

    /** "or as its E". */
    private static void whatIsTheEHasOne() {
        due("if a+b{}", 0);
        due("while a*b{}", 0);
        due("while m[b]{}", 0);
        due("if a<b+c{}", 0, 0);
        due("if a{}");
        due("if 1{}");
    }

    /**
     * "from the cycle behind the last one of the operation": of two multiplications, one in cycles
     * 0 .. latency - 1, the other directly behind it, the second one's value comes just too late.
     */
    private static void fromTheCycleBehindItsLast() {
        for (int latency = 1; latency <= 4; latency++) {
            // b*c is held from latency on, d+e up to the cycle in which +f begins.
            String text = "a=(b*c)*((d+e)+f);";
            CycleSynthesis x = Checks.made(text, 1, 1, latency, 1, 1);
            Checks.dueOfOperations(text, x, 2, 0, 0, 1, Math.max(latency, 2));
            if (latency == 1) {
                // Both are held in cycle 1, the sum behind them in cycle 2.
                dueRegisters(x, text, 0, 1, 1, N);
            } else if (latency == 2) {
                // d+e is held in cycle 1 alone, and the others from cycle 2.
                dueRegisters(x, text, 0, 0, 1, N);
            } else {
                // The sum is held from cycle 2, b*c only from cycle 3 or 4.
                dueRegisters(x, text, 1, 0, 0, N);
            }
        }
    }

    /** "to that in which the last one begins that uses it": in that cycle it is still held. */
    private static void toTheCycleInWhichTheUserBegins() {
        // b+c is held in cycles 1 and 2, d+e in cycle 2, in which the last one begins.
        String text = "a=(b+c)*(d+e);";
        CycleSynthesis x = Checks.made(text);
        Checks.dueOfOperations(text, x, 2, 0, 1, 2);
        dueRegisters(x, text, 0, 1, N);
        String chain = "a=(b+c+d)*(e+f);";
        x = Checks.made(chain);
        Checks.dueOfOperations(chain, x, 2, 0, 1, 2, 3);
        dueRegisters(x, chain, 0, 0, 1, N);
    }

    /** The same: one cycle later it is free. */
    private static void free1CycleAfterTheUserBegan() {
        due("a=b+c+d+e;", 0, 0, N);
        // b+c is held in cycle 1 alone: with one adder e+f comes in cycle 2, with two in cycle 1.
        String text = "a=(b+c)*d+(e+f);";
        CycleSynthesis x = Checks.made(text);
        Checks.dueOfOperations(text, x, 2, 0, 1, 1, 2);
        dueRegisters(x, text, 0, 0, 1, N);
        x.units(0, 2, 1);
        Checks.dueOfOperations(text, x, 2, 0, 1, 0, 2);
        dueRegisters(x, text, 0, 0, 1, N);
        // With a multiplier of two cycles b+c is free long before its product comes.
        x.units(1, 1, 2);
        Checks.dueOfOperations(text, x, 2, 0, 1, 0, 3);
        dueRegisters(x, text, 0, 0, 1, N);
        x.units(0, 1, 1);
        Checks.dueOfOperations(text, x, 2, 0, 1, 1, 3);
        dueRegisters(x, text, 0, 1, 0, N);
    }

    /** "the last one ... that uses it": a user that waits for a unit holds it for longer. */
    private static void toTheLastOneThatUsesIt() {
        String text = "a=(b+c)*d;e=(f+g)*h;";
        CycleSynthesis x = Checks.made(text, 2, 1, 2, 1, 1);
        Checks.dueOfOperations(text, x, 2, 0, 1, 0, 3);
        dueRegisters(x, text, 0, N, 1, N);
        x.units(0, 1, 1);
        Checks.dueOfOperations(text, x, 2, 0, 1, 1, 3);
        dueRegisters(x, text, 0, N, 0, N);
        // f+g could be used in cycle 1, but is only in the one in which the first product comes.
        for (String waits : new String[] {"e=(f+g)*h;a=(b+c)*d*d;", "e=h*(f+g);a=d*(b+c)*d;"}) {
            x = Checks.made(waits, 2, 1, 2, 1, 1);
            Checks.dueOfOperations(waits, x, 2, 0, 3, 0, 1, 5);
            dueRegisters(x, waits, 0, N, 1, 1, N);
            x.units(1, 1, 1);
            Checks.dueOfOperations(waits, x, 2, 0, 2, 0, 1, 3);
            dueRegisters(x, waits, 0, N, 1, 1, N);
            x.units(1, 2, 1);
            Checks.dueOfOperations(waits, x, 2, 0, 1, 0, 1, 2);
            dueRegisters(x, waits, 0, N, 1, 0, N);
        }
    }

    /** "as E to the block's last cycle". */
    private static void theEToTheLastCycle() {
        // a<3 is held from cycle 1 to the last one, 5, beside both that the write uses in cycle 2.
        String text = "m[b+c]=d*e;if a<3{}";
        CycleSynthesis x = Checks.made(text, 3, 1, 2, 1, 4);
        Checks.dueOfOperations(text, x, 2, 0, 0, 2, 0);
        Checks.due("cycles", x.block(0, 0), 6);
        dueRegisters(x, text, 0, 2, N, 1);
        // b+c comes in the E's only cycle, the last one.
        String last = "m[b+c]=d;if a<3{}";
        x = Checks.made(last, 2, 1, 1, 1, 1);
        Checks.dueOfOperations(last, x, 2, 0, 1, 0);
        Checks.due("cycles", x.block(0, 0), 2);
        dueRegisters(x, last, 0, N, 1);
        // The E comes first, and is held up to the cycle in which the write begins, the last one.
        String first = "m[f*g]=d;if a<3{}";
        for (int latency = 1; latency <= 4; latency++) {
            x = Checks.made(first, 1, 1, latency, 1, 1);
            Checks.due("cycles", x.block(0, 0), latency + 1);
            dueRegisters(x, first, latency == 1 ? 0 : 1, N, latency == 1 ? 1 : 0);
        }
    }

    /** "(0, if these are none: as E, ended with the last cycle)". */
    private static void theEEndedWithTheLastCycle() {
        due("if a<3{}", 0);
        due("if a+b<3{}", 0, 0);
        // The write's index is held in the last cycle, in which the E is worked out.
        String text = "m[b+c]=d;if a<3{}";
        CycleSynthesis x = Checks.made(text);
        Checks.dueOfOperations(text, x, 2, 0, 1, 1);
        Checks.due("cycles", x.block(0, 0), 2);
        dueRegisters(x, text, 0, N, 0);
        // One cycle more of the write, and the E is held in it.
        x.units(2, 1, 2);
        Checks.due("cycles", x.block(0, 0), 3);
        dueRegisters(x, text, 0, N, 0);
        // Three values are held in the last cycle: the E, not held in any, has 0 all the same.
        String held = "m[b+c]=d+e;m[f]=g+h;if a*3{}";
        x = Checks.made(held, 3, 1, 3, 2, 1);
        Checks.dueOfOperations(held, x, 2, 0, 0, 1, 0, 2, 0);
        Checks.due("cycles", x.block(0, 0), 3);
        dueRegisters(x, held, 0, 1, N, 2, N, 0);
        x.units(1, 1, 2);
        Checks.due("cycles", x.block(0, 0), 3);
        dueRegisters(x, held, 0, 1, N, 2, N, 0);
        x.units(1, 1, 1);
        Checks.due("cycles", x.block(0, 0), 3);
        dueRegisters(x, held, 0, 1, N, 2, N, 3);
        x.units(1, 1, 4);
        Checks.due("cycles", x.block(0, 0), 4);
        dueRegisters(x, held, 0, 1, N, 2, N, 0);
    }

    /** "By the cycle in which that begins": whose number is greater may come first. */
    private static void byTheCycleInWhichThatBegins() {
        String text = "a=(b*c)<(d+e);";
        dueRegisters(Checks.made(text, 1, 1, 1, 1, 1), "both at once", 0, 1, N);
        dueRegisters(Checks.made(text, 1, 1, 2, 1, 1), "the second one first", 1, 0, N);
        dueRegisters(Checks.made(text, 1, 1, 4, 1, 1), "the second one first", 1, 0, N);
        // Both begin to be held in the same cycle, though the second one has begun later.
        String together = "a=(b*c)*((d*e)+f);";
        CycleSynthesis x = Checks.made(together, 1, 2, 2, 1, 1);
        Checks.dueOfOperations(together, x, 2, 0, 0, 2, 3);
        dueRegisters(x, together, 0, 1, 1, N);
    }

    /** "of the same by their numbers". */
    private static void ofTheSameByTheirNumbers() {
        String text = "a=(b+c)*(d<e)*(f-g)*(h=1);";
        CycleSynthesis x = Checks.made(text, 4, 1, 1, 1, 1);
        Checks.dueOfOperations(text, x, 2, 0, 0, 1, 0, 2, 0, 3);
        dueRegisters(x, text, 0, 1, 0, 2, 0, 3, N);
        // Ended together: the one that has begun first has the greater number, and the greater register.
        String ended = "a=((b+c)+d)*(e*f);";
        x = Checks.made(ended, 1, 1, 2, 1, 1);
        Checks.dueOfOperations(ended, x, 2, 0, 1, 0, 2);
        dueRegisters(x, ended, 0, 0, 1, N);
        String mixed = "a=(b*c)<m[d];";
        dueRegisters(Checks.made(mixed, 1, 1, 3, 1, 3), mixed, 0, 1, N);
        dueRegisters(Checks.made(mixed, 1, 1, 3, 1, 2), mixed, 1, 0, N);
        dueRegisters(Checks.made(mixed, 1, 1, 2, 1, 3), mixed, 0, 1, N);
    }

    /** "each gets the least register that holds none in these cycles". */
    private static void theLeastThatHoldsNone() {
        due("a=b+c+d+e+f;", 0, 0, 0, N);
        // Three are held at once; the first two that end leave 0 and 1, and 0 is taken first.
        String text = "a=(b+c)*(d-e);f=(g<h)*1;c=a*a*f;";
        CycleSynthesis x = Checks.made(text, 4, 4, 1, 1, 1);
        Checks.dueOfOperations(text, x, 2, 0, 0, 1, 0, 1, 2, 3);
        dueRegisters(x, text, 0, 1, N, 2, N, 0, N);
        // Register 0 is held for longer than 1, so 1 is the least that is free then.
        String longer = "m[b+c]=(d-e)*f*g;";
        x = Checks.made(longer, 2, 1, 1, 1, 1);
        Checks.dueOfOperations(longer, x, 2, 0, 0, 1, 2, 3);
        dueRegisters(x, longer, 0, 1, 1, 1, N);
    }

    /** Registers are told by block: each begins with all of them free. */
    private static void registersAreOfABlock() {
        due("a=b+c+d;while e+f-g{h=a*b*c;}", 0, N, 0, 0, 0, N);
        due("if a+b{c=d*e*f;}else{m[a+b]=c+d;}", 0, 0, N, 0, 1, N);
    }

    /** "registers (2)...: of these the greatest number, and 1." */
    private static void registersThatAreUsed() {
        Checks.due("none", Checks.made("a=b+c;m[d]=e;").told(2), 0);
        Checks.due("one", Checks.made("a=b+c+d;").told(2), 1);
        Checks.due("two", Checks.made("a=(b+c)*(d+e);").told(2), 2);
        Checks.due("three", Checks.made("a=(b+c)*((d+e)*(f+g));", 3, 1, 1, 1, 1).told(2), 3);
        Checks.due("of one block", Checks.made("a=(b+c)*(d+e);while f{a=b+c+d;}").told(2), 2);
        Checks.due("of the other", Checks.made("a=b+c+d;while f{a=(b+c)*(d+e);}").told(2), 2);
        Checks.due("an E without cycles", Checks.made("if a+b{}").told(2), 1);
        Checks.due("an E without operations", Checks.made("if a{}").told(2), 0);
    }

    /** "blocks are laid anew": registers too, and none stays held. */
    private static void registersAreGivenAnew() {
        String text = "a=(b*c)<(d+e);m[f+g]=h;if a=b{}";
        CycleSynthesis x = Checks.made(text);
        String first = Standing.of(x);
        for (int latency = 4; latency >= 1; latency--) {
            x.units(1, 1, latency);
        }
        Checks.same("laid anew", Standing.of(x), first);
        for (int i = 0; i < 5; i++) {
            x.compile();
        }
        Checks.same("compiled anew", Standing.of(x), first);
    }

    /** Many registers held at once, and as many operations as there may be. */
    private static void asManyAsOperations() {
        // Four products a cycle from within: in cycle 5 the last 16 of them are held, and a sum.
        String nested = "1*1+(".repeat(20) + "1" + ")".repeat(20);
        CycleSynthesis x = Checks.made("a=" + nested + ";", 1, 4, 1, 1, 1);
        Checks.due("operations", x.block(0, 2), 40);
        Checks.due("told(2)", x.told(2), 17);
        x = Checks.made("a=" + ("(" + "1*1+".repeat(99) + "1*1)") + ";", 1, 4, 1, 1, 1);
        Checks.due("operations", x.block(0, 2), 199);
        Checks.due("operation(198, 5)", x.operation(198, 5), N);
    }
}
