import java.util.ArrayDeque;
import java.util.Deque;

/**
 * All promises over runs of 512 calls thrown by dice, in any order: each call answers, or throws,
 * what it does of the plain reference that gets the same calls.
 */
public final class ThrownRunsTest {
    private static final int RUNS = 3000;
    private static final int CALLS = 512;
    private static final String SIGNS = "abhim=+-*<()[]{};09 ";
    private static final int[] NUMBERS = {Integer.MIN_VALUE, -17, -1, 0, 1, 2, 3, 7, 15, 16, 255, 65536,
        1000003, Integer.MAX_VALUE};

    /** A call, made once to the object and once to the reference. */
    private interface Call {
        long answer();
    }

    private static long ranFar = 0;

    private final Dice dice;
    private final CycleSynthesis x = new CycleSynthesis();
    private final Reference due = new Reference();
    private final StringBuilder calls = new StringBuilder();
    private int made;
    /** Calls that stand before all others, so that whole tapes are fed. */
    private final Deque<Runnable> waiting = new ArrayDeque<>();

    private ThrownRunsTest(Dice dice) {
        this.dice = dice;
    }

    public static void main(String[] args) {
        Dice dice = new Dice(512);
        for (int i = 0; i < RUNS; i++) {
            ThrownRunsTest one = new ThrownRunsTest(dice);
            while (one.made < CALLS) {
                one.call();
            }
        }
        Checks.due("runs within programs of 3 blocks came often", ranFar > 5L * RUNS ? 1 : 0, 1);
        Checks.finish();
    }

    private static String told(Call call) {
        try {
            return "" + call.answer();
        } catch (RuntimeException e) {
            return e.getClass().getSimpleName();
        }
    }

    private void same(String call, Call got, Call want) {
        if (made == CALLS) {
            return;
        }
        made++;
        String answered = told(got);
        String wanted = told(want);
        Checks.same(answered.equals(wanted) ? call : call + " behind " + calls, answered, wanted);
        calls.append(call).append(' ');
    }

    private void call() {
        if (!waiting.isEmpty()) {
            waiting.pop().run();
        } else if (dice.oneIn(24)) {
            tape();
        } else if (dice.oneIn(3)) {
            ask();
        } else if (dice.oneIn(2)) {
            touch();
        } else {
            drive();
        }
    }

    private void tape() {
        if (!dice.oneIn(6)) {
            waiting.add(() -> same("wipe()", x::wipe, due::wipe));
        }
        String text = new Tree.Writer(dice).write(new Tree.Thrower(dice, 6 + dice.next(50)).statements(0));
        StringBuilder bytes = new StringBuilder(text);
        for (int i = dice.oneIn(3) ? 1 + dice.next(2) : 0; i > 0; i--) {
            int place = dice.next(bytes.length() + 1);
            bytes.replace(place, Math.min(bytes.length(), place + dice.next(2)),
                "" + SIGNS.charAt(dice.next(SIGNS.length())));
        }
        for (int from = 0; from < bytes.length(); from += 8) {
            String part = bytes.substring(from, Math.min(from + 8, bytes.length()));
            // What stands in the bytes that are not fed counts nothing.
            long above = part.length() < 8 && dice.oneIn(2) ? -1L << (8 * part.length()) : 0;
            waiting.add(() -> feed(part.length(), Checks.packed(part) | above));
        }
        waiting.add(this::compile);
    }

    private void feed(int n, long bytes) {
        same("feed(" + n + ", " + bytes + ")", () -> x.feed(n, bytes), () -> due.feed(n, bytes));
    }

    private void compile() {
        same("compile()", x::compile, due::compile);
        same("fault()", x::fault, due::fault);
        same("place()", x::place, due::place);
    }

    private int number() {
        return dice.oneIn(2) ? dice.next(21) - 3 : NUMBERS[dice.next(NUMBERS.length)];
    }

    /** One of 0 .. many - 1, seldom one beside these. */
    private int near(int many) {
        return dice.oneIn(12) ? number() : dice.next(many);
    }

    private void ask() {
        int what = near(7);
        int block = near(due.told(0) + 1);
        int i = near(due.told(0) * 3 + 3);
        switch (dice.next(6)) {
            case 0:
                same("told(" + what + ")", () -> x.told(what), () -> due.told(what));
                break;
            case 1:
            case 2:
                same("block(" + block + ", " + what + ")", () -> x.block(block, what), () -> due.block(block, what));
                break;
            default:
                same("operation(" + i + ", " + what + ")", () -> x.operation(i, what), () -> due.operation(i, what));
                break;
        }
    }

    private void touch() {
        int place = near(dice.oneIn(2) ? 4 : 16);
        int v = number();
        switch (dice.next(6)) {
            case 0:
                same("set(" + place + ", " + v + ")", () -> x.set(place, v), () -> due.set(place, v));
                break;
            case 1:
                same("get(" + place + ")", () -> x.get(place), () -> due.get(place));
                break;
            case 2:
                same("poke(" + place + ", " + v + ")", () -> x.poke(place, v), () -> due.poke(place, v));
                break;
            case 3:
                same("peek(" + place + ")", () -> x.peek(place), () -> due.peek(place));
                break;
            case 4:
                same("at()", x::at, due::at);
                break;
            default:
                same("cycles()", x::cycles, due::cycles);
                break;
        }
    }

    private void drive() {
        int n = dice.oneIn(5) ? number() : dice.next(dice.oneIn(6) ? 300 : 30);
        int thrown = dice.next(16);
        if (thrown == 0) {
            int kind = near(3);
            int many = near(5);
            int latency = kind == 0 && !dice.oneIn(4) ? 1 : near(5);
            same("units(" + kind + ", " + many + ", " + latency + ")", () -> {
                x.units(kind, many, latency);
                return 0;
            }, () -> {
                due.units(kind, many, latency);
                return 0;
            });
        } else if (thrown == 1) {
            same("restart()", () -> {
                x.restart();
                return 0;
            }, () -> {
                due.restart();
                return 0;
            });
        } else if (thrown == 2) {
            compile();
        } else if (thrown == 3) {
            feed(near(9), number() * 1000003L);
        } else {
            same("run(" + n + ")", () -> x.run(n), () -> due.run(n));
            ranFar += due.told(0) > 2 && due.cycles() > 10 ? 1 : 0;
        }
    }
}
