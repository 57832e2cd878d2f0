/** What all tests share: due answers, due exceptions, and tapes written as texts. */
final class Checks {
    private static final int NONE = CycleSynthesis.NONE;
    private static int done = 0;
    private static int wrong = 0;

    private Checks() {
    }

    static void due(String what, long got, long want) {
        done++;
        if (got != want) {
            wrong++;
            System.out.println(what + " answered " + got + ", due is " + want);
        }
    }

    static void same(String what, String got, String want) {
        done++;
        if (!got.equals(want)) {
            wrong++;
            System.out.println(what + ": '" + got + "', due is '" + want + "'");
        }
    }

    static void throwing(String what, Class<? extends RuntimeException> want, Runnable call) {
        done++;
        Class<?> got = null;
        try {
            call.run();
        } catch (RuntimeException e) {
            got = e.getClass();
        }
        if (got != want) {
            wrong++;
            System.out.println(what + " threw " + got + ", due is " + want);
        }
    }

    static void throwsArgument(String what, Runnable call) {
        throwing(what, IllegalArgumentException.class, call);
    }

    static void throwsIndex(String what, Runnable call) {
        throwing(what, IndexOutOfBoundsException.class, call);
    }

    /** Feeds a text onto an empty tape, each of its characters as one byte. */
    static void feed(CycleSynthesis x, String text) {
        for (int from = 0; from < text.length(); from += 8) {
            String part = text.substring(from, Math.min(from + 8, text.length()));
            due("feed of '" + part + "'", x.feed(part.length(), packed(part)), from + part.length());
        }
    }

    /** Feeds a text onto a tape that has something. */
    static void feedBehind(CycleSynthesis x, String text) {
        for (int from = 0; from < text.length(); from += 8) {
            String part = text.substring(from, Math.min(from + 8, text.length()));
            x.feed(part.length(), packed(part));
        }
    }

    /** Up to eight characters as the bytes of a long, the first one as the lowest. */
    static long packed(String text) {
        long bytes = 0;
        for (int i = 0; i < text.length(); i++) {
            bytes |= (text.charAt(i) & 255L) << (8 * i);
        }
        return bytes;
    }

    static int compile(CycleSynthesis x, String text) {
        x.wipe();
        feed(x, text);
        return x.compile();
    }

    /** A new object with that program, which must have no fault. */
    static CycleSynthesis made(String text) {
        CycleSynthesis x = new CycleSynthesis();
        compile(x, text);
        due("fault of " + text, x.fault(), 0);
        return x;
    }

    /** A new object with that program, units of each kind and latencies of multipliers and ports. */
    static CycleSynthesis made(String text, int adders, int multipliers, int times, int ports, int access) {
        CycleSynthesis x = made(text);
        x.units(0, adders, 1);
        x.units(1, multipliers, times);
        x.units(2, ports, access);
        return x;
    }

    static void dueFault(String text, int fault, int place) {
        CycleSynthesis x = new CycleSynthesis();
        due("compile() of " + text, compile(x, text), NONE);
        due("fault() of " + text, x.fault(), fault);
        due("place() of " + text, x.place(), place);
    }

    static void dueOperations(String text, int operations) {
        CycleSynthesis x = new CycleSynthesis();
        due("compile() of " + text, compile(x, text), operations);
        due("fault() of " + text, x.fault(), 0);
        due("place() of " + text, x.place(), NONE);
    }

    /** One answer of operation(i, what) for each operation, in their order, and no more operations. */
    static void dueOfOperations(String told, CycleSynthesis x, int what, int... want) {
        for (int i = 0; i < want.length; i++) {
            due(told + ": operation(" + i + ", " + what + ")", x.operation(i, what), want[i]);
        }
        throwsIndex(told + ": operation(" + want.length + ", " + what + ")",
            () -> x.operation(want.length, what));
    }

    /** One answer of block(i, what) for each block, in their order, and no more blocks. */
    static void dueOfBlocks(String told, CycleSynthesis x, int what, int... want) {
        due(told + ": told(0)", x.told(0), want.length);
        for (int i = 0; i < want.length; i++) {
            due(told + ": block(" + i + ", " + what + ")", x.block(i, what), want[i]);
        }
        throwsIndex(told + ": block(" + want.length + ", " + what + ")",
            () -> x.block(want.length, what));
    }

    static void finish() {
        System.out.println(wrong == 0 ? done + " answers are as due" : wrong + " answers are not as due");
        if (wrong != 0) {
            System.exit(1);
        }
    }
}
