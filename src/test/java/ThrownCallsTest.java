/**
 * All promises' exceptions over objects that get calls thrown by dice, near every boundary and far
 * from it: each call throws exactly what the document says, or nothing, whatever came before it.
 */
public final class ThrownCallsTest {
    private static final int OBJECTS = 8000;
    // Each takes seven calls at most, and an object has 512.
    private static final int STEPS = 73;
    private static final int[] NUMBERS = {Integer.MIN_VALUE, -2, -1, 0, 1, 2, 3, 4, 5, 6, 7, 8, 9, 15, 16, 17, 199, 200,
        4999, 5000, 5001, Integer.MAX_VALUE};
    private static final String[] PIECES = {"a=b+c;", "if a{", "}", "}else{", "while a{", "m[a]=b*c;", "a=m[b];", "a=1;",
        "b=a*2;", "  \n ", "a=(1+2)", "c=c-1;", ";", "m[", "zz", "\377", "99999999", "a<b;", "if 1{", "b=((((", "+1+1+1+1"};

    private static final String[] PROGRAMS = {"if a{b=1;}else{c=a*b;}", "while b{m[b]=c;b=b-1;}",
        "a=m[b]*c;if a{d=1;}e=2;", "while 1{if a<3{a=a+1;}}", "a=1+2*3-m[4];", "if a{while b{}if c{}}", ""};

    private final Dice dice;
    private final CycleSynthesis x = new CycleSynthesis();
    private int length;
    private int operations;
    private int blocks;

    private ThrownCallsTest(Dice dice) {
        this.dice = dice;
    }

    public static void main(String[] args) {
        Dice dice = new Dice(99);
        int programs = 0;
        for (int i = 0; i < OBJECTS; i++) {
            ThrownCallsTest one = new ThrownCallsTest(dice);
            for (int step = 0; step < STEPS; step++) {
                one.call();
                programs += one.blocks > 2 ? 1 : 0;
            }
        }
        Checks.due("programs with 3 blocks at least came often", programs > OBJECTS * STEPS / 10 ? 1 : 0, 1);
        Checks.finish();
    }

    private int number() {
        return dice.oneIn(3) ? dice.next(20) - 5 : NUMBERS[dice.next(NUMBERS.length)];
    }

    private static boolean within(int number, int least, int most) {
        return least <= number && number <= most;
    }

    private static Class<? extends RuntimeException> argument(boolean good) {
        return good ? null : IllegalArgumentException.class;
    }

    private static Class<? extends RuntimeException> index(boolean good) {
        return good ? null : IndexOutOfBoundsException.class;
    }

    private void call() {
        int thrown = dice.next(24);
        if (thrown < 8) {
            feedOrCompile(thrown);
        } else if (thrown < 13) {
            ask();
        } else if (thrown < 18) {
            touch();
        } else {
            drive();
        }
    }

    private void feedOrCompile(int thrown) {
        if (thrown < 6) {
            String piece = PIECES[dice.next(PIECES.length)];
            feed(dice.oneIn(4) ? number() : Math.min(8, piece.length()), Checks.packed(piece));
        } else if (thrown == 6 && dice.oneIn(2)) {
            x.wipe();
            String program = PROGRAMS[dice.next(PROGRAMS.length)];
            Checks.feed(x, program);
            length = program.length();
            compile();
        } else if (thrown == 6) {
            compile();
        } else if (dice.oneIn(2)) {
            Checks.due("wipe()", x.wipe(), length);
            length = 0;
        }
    }

    private void compile() {
        int answer = x.compile();
        Checks.due("compile() and fault()", x.fault() == 0 ? 1 : 0, answer == CycleSynthesis.NONE ? 0 : 1);
        if (answer != CycleSynthesis.NONE) {
            operations = answer;
            blocks = x.told(0);
        }
    }

    private void feed(int n, long bytes) {
        int due = length + n > 700 ? CycleSynthesis.NONE : length + n;
        Checks.throwing("feed(" + n + ")", argument(within(n, 1, 8)), () -> Checks.due("feed", x.feed(n, bytes), due));
        if (within(n, 1, 8) && due != CycleSynthesis.NONE) {
            length = due;
        }
    }

    private void ask() {
        int first = number();
        int what = dice.oneIn(2) ? dice.next(8) - 1 : number();
        switch (dice.next(3)) {
            case 0:
                Checks.throwing("told(" + what + ")", argument(within(what, 0, 6)), () -> x.told(what));
                break;
            case 1:
                Checks.throwing("block(" + first + ", " + what + ") of " + blocks,
                    within(first, 0, blocks - 1) ? argument(within(what, 0, 4)) : index(false), () -> x.block(first, what));
                break;
            default:
                Checks.throwing("operation(" + first + ", " + what + ") of " + operations,
                    within(first, 0, operations - 1) ? argument(within(what, 0, 5)) : index(false),
                    () -> x.operation(first, what));
                break;
        }
    }

    private void touch() {
        int place = number();
        int value = number();
        switch (dice.next(4)) {
            case 0:
                Checks.throwing("set(" + place + ")", index(within(place, 0, 7)), () -> x.set(place, value));
                break;
            case 1:
                Checks.throwing("get(" + place + ")", index(within(place, 0, 7)), () -> x.get(place));
                break;
            case 2:
                Checks.throwing("poke(" + place + ")", index(within(place, 0, 15)), () -> x.poke(place, value));
                break;
            default:
                Checks.throwing("peek(" + place + ")", index(within(place, 0, 15)), () -> x.peek(place));
                break;
        }
    }

    private void drive() {
        int n = dice.oneIn(3) ? number() : dice.next(40);
        if (dice.oneIn(3)) {
            int kind = dice.next(5) - 1;
            int many = dice.next(6);
            int latency = dice.next(6);
            boolean good = within(kind, 0, 2) && within(many, 1, 4) && within(latency, 1, kind == 0 ? 1 : 4);
            Checks.throwing("units(" + kind + ", " + many + ", " + latency + ")", argument(good),
                () -> x.units(kind, many, latency));
        } else if (dice.oneIn(5)) {
            x.restart();
            Checks.due("at() behind restart()", x.at(), blocks == 0 ? CycleSynthesis.NONE : 0);
            Checks.due("cycles() behind restart()", x.cycles(), 0);
        } else {
            Checks.throwing("run(" + n + ")", argument(within(n, 0, 5000)), () -> x.run(n));
            Checks.due("at() within the program", within(x.at(), -1, blocks - 1) ? 1 : 0, 1);
        }
    }
}
