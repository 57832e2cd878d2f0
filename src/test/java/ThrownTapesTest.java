import java.util.List;

/** Promises 5 to 7 over many tapes with faults thrown into them, against a scan of another make. */
public final class ThrownTapesTest {
    private static final int TAPES = 60000;
    private static final String SIGNS = "abchim=+-*<()[]{};0189 \n";
    private static final String[] PIECES = {"if", "while", "else", "else{}", "if a{", "while b{", "}", "m[",
        "a=b;", "2147483648", "2147483647", "a*b*c+", "((((", "m[m[m[", "1+1+1+1+1+1+1+1+1+1+", "b=1;c=1;d=1;",
        "m[1]=2;", "=a", "<a", "A", "~", "\200", "(a", "a)", "]"};

    private static final int[] met = new int[4];

    public static void main(String[] args) {
        Dice dice = new Dice(7);
        for (int i = 0; i < TAPES; i++) {
            String tape = thrown(dice);
            if (tape.length() <= 700) {
                check(tape);
            }
        }
        for (int fault = 0; fault <= 3; fault++) {
            Checks.due("fault " + fault + " came often", met[fault] > TAPES / 100 ? 1 : 0, 1);
        }
        Checks.finish();
    }

    private static String thrown(Dice dice) {
        List<Tree.Statement> program = new Tree.Thrower(dice, 10 + dice.next(40)).statements(0);
        String text = new Tree.Writer(dice).write(program);
        StringBuilder tape = new StringBuilder(text);
        if (dice.oneIn(4)) {
            tape.insert(0, "a=" + "1*".repeat(185 + dice.next(16)) + "1;");
        }
        if (dice.oneIn(6)) {
            tape.append("b=").append("(".repeat(15 + dice.next(7))).append(dice.oneIn(2) ? "m[1" : "1");
        }
        if (dice.oneIn(6)) {
            tape.append("if a{".repeat(7 + dice.next(6)));
        }
        for (int i = dice.next(4); i > 0; i--) {
            mutate(tape, dice);
        }
        return tape.toString();
    }

    private static void mutate(StringBuilder tape, Dice dice) {
        int place = dice.next(tape.length() + 1);
        switch (dice.next(5)) {
            case 0:
                tape.delete(place, Math.min(tape.length(), place + 1 + dice.next(3)));
                break;
            case 1:
                tape.insert(place, SIGNS.charAt(dice.next(SIGNS.length())));
                break;
            case 2:
                tape.insert(place, PIECES[dice.next(PIECES.length)]);
                break;
            case 3:
                tape.insert(tape.indexOf("=") + 1, dice.oneIn(2) ? "2147483648" : "99999999999+");
                break;
            default:
                tape.setLength(place);
                break;
        }
    }

    private static void check(String tape) {
        Scan scan = new Scan(tape);
        met[scan.fault]++;
        CycleSynthesis x = new CycleSynthesis();
        Checks.due("compile() of " + tape, Checks.compile(x, tape), scan.fault == 0 ? scan.operations : -1);
        Checks.due("fault() of " + tape, x.fault(), scan.fault);
        Checks.due("place() of " + tape, x.place(), scan.faultPlace);
    }
}
