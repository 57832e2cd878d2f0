/** Promises 1 to 3: a new object, feed and wipe. */
public final class TapeTest {
    private static final int NONE = CycleSynthesis.NONE;

    public static void main(String[] args) {
        newObject();
        newObjectHasOneUnitOfEachKind();
        feedTakesLowestBytesFirst();
        feedTakesBytesAboveTheAscii();
        feedStopsAt700();
        feedRefusesOtherNumbers();
        wipeEmptiesTheTape();
        Checks.finish();
    }

    private static void newObject() {
        CycleSynthesis x = new CycleSynthesis();
        Checks.due("NONE", NONE, -1);
        for (int what = 0; what <= 6; what++) {
            Checks.due("told(" + what + ")", x.told(what), 0);
        }
        for (int i = 0; i < 8; i++) {
            Checks.due("get(" + i + ")", x.get(i), 0);
        }
        for (int i = 0; i < 16; i++) {
            Checks.due("peek(" + i + ")", x.peek(i), 0);
        }
        Checks.due("at()", x.at(), NONE);
        Checks.due("cycles()", x.cycles(), 0);
        Checks.due("run(5000)", x.run(5000), 0);
        Checks.due("fault()", x.fault(), 0);
        Checks.due("place()", x.place(), NONE);
        Checks.throwsIndex("block(0, 0)", () -> x.block(0, 0));
        Checks.throwsIndex("operation(0, 0)", () -> x.operation(0, 0));
        x.restart();
        Checks.due("at() after restart()", x.at(), NONE);
        x.units(1, 2, 2);
        Checks.due("at() after units()", x.at(), NONE);
        Checks.due("wipe()", x.wipe(), 0);
        Checks.due("compile()", x.compile(), 0);
    }

    private static void newObjectHasOneUnitOfEachKind() {
        CycleSynthesis x = Checks.made("a=b+c;d=b+c;e=b*c;f=b*c;g=m[1];h=m[2];");
        Checks.dueOfOperations("one unit, latency 1", x, 2, 0, 1, 0, 1, 0, 1);
        Checks.dueOfOperations("one unit, latency 1", x, 3, 1, 1, 1, 1, 1, 1);
        Checks.dueOfOperations("one unit, latency 1", x, 4, 0, 0, 0, 0, 0, 0);
    }

    private static void feedTakesLowestBytesFirst() {
        CycleSynthesis x = new CycleSynthesis();
        Checks.due("feed(1, ..a)", x.feed(1, 0x3b313d3b313d0061L), 1);
        Checks.due("feed(3, ..=1;)", x.feed(3, 0x7f7f7f3b313dL), 4);
        Checks.due("feed(8, b=22222;)", x.feed(8, 0x3b32323232323d62L), 12);
        Checks.due("compile()", x.compile(), 2);
        x.run(5);
        Checks.due("a", x.get(0), 1);
        Checks.due("b", x.get(1), 22222);
    }

    private static void feedTakesBytesAboveTheAscii() {
        CycleSynthesis x = new CycleSynthesis();
        Checks.due("feed(8, -1)", x.feed(8, -1L), 8);
        Checks.due("compile()", x.compile(), NONE);
        Checks.due("place()", x.place(), 0);
        x.wipe();
        Checks.due("feed(2, 0x8020)", x.feed(2, 0x8020L), 2);
        Checks.due("compile()", x.compile(), NONE);
        Checks.due("place()", x.place(), 1);
    }

    private static void feedStopsAt700() {
        CycleSynthesis x = new CycleSynthesis();
        for (int i = 1; i <= 87; i++) {
            Checks.due("feed(8, blanks)", x.feed(8, 0x2020202020202020L), 8 * i);
        }
        Checks.due("feed(5) onto 696", x.feed(5, 0x3b313d6120L), NONE);
        Checks.due("feed(8) onto 696", x.feed(8, 0L), NONE);
        Checks.due("feed(4) onto 696", x.feed(4, 0x3b313d61L), 700);
        Checks.due("feed(1) onto 700", x.feed(1, 0x20L), NONE);
        Checks.throwsArgument("feed(9) onto 700", () -> x.feed(9, 0L));
        Checks.due("compile()", x.compile(), 1);
        Checks.due("wipe()", x.wipe(), 700);
        Checks.due("feed(1) after wipe()", x.feed(1, 0x20L), 1);
    }

    private static void feedRefusesOtherNumbers() {
        CycleSynthesis x = new CycleSynthesis();
        x.feed(3, 0x313d61L);
        int[] wrong = {0, 9, -1, 64, Integer.MIN_VALUE, Integer.MAX_VALUE};
        for (int n : wrong) {
            Checks.throwsArgument("feed(" + n + ")", () -> x.feed(n, 0x3bL));
        }
        Checks.due("feed(1) behind them", x.feed(1, 0x3bL), 4);
        Checks.due("compile()", x.compile(), 1);
    }

    private static void wipeEmptiesTheTape() {
        CycleSynthesis x = new CycleSynthesis();
        Checks.feed(x, "a=1;b=2;c");
        Checks.due("compile()", x.compile(), NONE);
        Checks.due("wipe()", x.wipe(), 9);
        Checks.due("place() stays", x.place(), 9);
        Checks.due("wipe() again", x.wipe(), 0);
        Checks.feed(x, "a=1;");
        Checks.due("compile()", x.compile(), 1);
        Checks.due("wipe()", x.wipe(), 4);
        Checks.due("told(0) stays", x.told(0), 1);
        Checks.due("run(9) stays", x.run(9), 1);
        Checks.due("a", x.get(0), 1);
    }
}
