/**
 * The boundaries of signs, words and numbers on the tape, with faults 1 and 2 of promises 5 to 7, each
 * under the sentence of the document that names it.
 */
public final class SignEdgesTest {
    private static final int STRAY = 1;
    private static final int TOO_GREAT = 2;
    private static final int GOOD = -2;

    private static final String LETTERS = "abcdefghijklmnopqrstuvwxyz";
    private static final String FIGURES = "0123456789";
    private static final String SIGNS = "+-*<=";

    public static void main(String[] args) {
        anyByteBeforeAStatement();
        anyByteBehindAStatement();
        anyByteBehindAVariable();
        anyByteBehindEquals();
        anyByteBehindAFactor();
        anyByteBehindANumber();
        anyByteAsAFactor();
        anyByteAroundBrackets();
        anyByteAroundMemory();
        anyByteBehindWords();
        anyByteAroundBraces();
        blanksUpTo32StandAnywhere();
        blanksWithinNumbersAndWords();
        wordsOfOneLetterMoreOrLess();
        variablesFromAToH();
        oneLetterWithNoLetterBesideIt();
        oneOrTwoSums();
        theFirstByteOfAWord();
        theTapesEnd();
        numbersUpToTheGreatest();
        numbersBeyondInts();
        figuresUpToTheTapesEnd();
        theFirstByteOfANumber();
        theFirstFromTheBeginningOn();
        Checks.finish();
    }

    private static boolean isOf(String signs, int sign) {
        return signs.indexOf(sign) >= 0;
    }

    /** The tape with that byte between the two texts has no fault, or a fault 1 at that place. */
    private static void dueOf(String before, int sign, String behind, int place) {
        String tape = before + (char) sign + behind;
        CycleSynthesis x = new CycleSynthesis();
        Checks.compile(x, tape);
        String named = before + "(" + sign + ")" + behind;
        Checks.due("fault() of " + named, x.fault(), place == GOOD ? 0 : STRAY);
        Checks.due("place() of " + named, x.place(), place == GOOD ? CycleSynthesis.NONE : place);
    }

    /** "FAULTS ... 1 a byte that can't come there (at it, a word's first one, or the tape's end)." */
    private static void anyByteBeforeAStatement() {
        for (int b = 0; b <= 255; b++) {
            dueOf("", b, "a=1;", b <= 32 ? GOOD : 0);
            dueOf("b=2;", b, "a=1;", b <= 32 ? GOOD : 4);
            dueOf("b=2; ", b, "if a{}", b <= 32 ? GOOD : 5);
            dueOf("", b, "m[1]=1;", b <= 32 ? GOOD : 0);
            dueOf("", b, "while 1{}", b <= 32 ? GOOD : 0);
        }
    }

    /** The same: what begins a statement has its fault only behind it. */
    private static void anyByteBehindAStatement() {
        for (int b = 0; b <= 255; b++) {
            boolean begins = isOf("abcdefghm", b);
            dueOf("a=1;", b, "", b <= 32 ? GOOD : begins ? 5 : 4);
            dueOf("", b, "", b <= 32 ? GOOD : begins ? 1 : 0);
            dueOf("if 1{}", b, "", b <= 32 ? GOOD : begins ? 7 : 6);
        }
    }

    private static void anyByteBehindAVariable() {
        for (int b = 0; b <= 255; b++) {
            dueOf("a", b, "=1;", b <= 32 ? GOOD : isOf(LETTERS, b) ? 0 : b == '=' ? 2 : 1);
        }
    }

    private static void anyByteBehindEquals() {
        for (int b = 0; b <= 255; b++) {
            boolean figure = isOf(FIGURES, b);
            dueOf("a=", b, "b;", b <= 32 ? GOOD : figure ? 3 : b == '(' ? 4 : 2);
            dueOf("a=b+", b, "b;", b <= 32 ? GOOD : figure ? 5 : b == '(' ? 6 : 4);
        }
    }

    private static void anyByteBehindAFactor() {
        for (int b = 0; b <= 255; b++) {
            boolean goesOn = isOf(SIGNS, b) || b == ';';
            dueOf("a=b", b, ";", b <= 32 ? GOOD : goesOn ? 4 : isOf(LETTERS, b) ? 2 : 3);
            dueOf("a=m[1]", b, ";", b <= 32 ? GOOD : goesOn ? 7 : 6);
            dueOf("a=(1)", b, ";", b <= 32 ? GOOD : goesOn ? 6 : 5);
            dueOf("m[1]=b", b, ";", b <= 32 ? GOOD : goesOn ? 7 : isOf(LETTERS, b) ? 5 : 6);
        }
    }

    private static void anyByteBehindANumber() {
        for (int b = 0; b <= 255; b++) {
            boolean good = b <= 32 || isOf(FIGURES, b);
            dueOf("a=1", b, ";", good ? GOOD : isOf(SIGNS, b) || b == ';' ? 4 : 3);
        }
    }

    private static void anyByteAsAFactor() {
        for (int b = 0; b <= 255; b++) {
            boolean good = isOf(FIGURES, b) || isOf("abcdefgh", b);
            boolean opens = b <= 32 || b == 'm' || b == '(';
            dueOf("a=", b, ";", good ? GOOD : opens ? 3 : 2);
            dueOf("a=1*", b, ";", good ? GOOD : opens ? 5 : 4);
        }
    }

    private static void anyByteAroundBrackets() {
        for (int b = 0; b <= 255; b++) {
            boolean figure = isOf(FIGURES, b);
            boolean sign = isOf(SIGNS, b);
            dueOf("a=(", b, "1);", b <= 32 || figure ? GOOD : b == '(' ? 6 : isOf("abcdefgh", b) || b == 'm' ? 4 : 3);
            dueOf("a=(1", b, ");", b <= 32 || figure ? GOOD : sign || b == ')' ? 5 : 4);
        }
    }

    private static void anyByteAroundMemory() {
        for (int b = 0; b <= 255; b++) {
            boolean letter = isOf(LETTERS, b);
            boolean sign = isOf(SIGNS, b);
            dueOf("m", b, "[1]=1;", b <= 32 ? GOOD : letter ? 0 : b == '[' ? 2 : 1);
            dueOf("m[1", b, "]=1;", b <= 32 || isOf(FIGURES, b) ? GOOD : sign || b == ']' ? 4 : 3);
            dueOf("m[1]", b, "=1;", b <= 32 ? GOOD : b == '=' ? 5 : 4);
            dueOf("a=m", b, "[1];", b <= 32 ? GOOD : letter ? 2 : b == '[' ? 4 : 3);
        }
    }

    private static void anyByteBehindWords() {
        for (int b = 0; b <= 255; b++) {
            boolean letter = isOf(LETTERS, b);
            boolean figure = isOf(FIGURES, b);
            dueOf("if", b, "a{}", b <= 32 ? GOOD : letter ? 0 : figure ? 3 : b == '(' ? 4 : 2);
            dueOf("while", b, "1{}", b <= 32 || figure ? GOOD : letter ? 0 : b == '(' ? 7 : 5);
            dueOf("if a{}else", b, "{}", b <= 32 ? GOOD : letter ? 6 : b == '{' ? 11 : 10);
            dueOf("if a{}", b, "else{}", b <= 32 ? GOOD : 6);
        }
    }

    private static void anyByteAroundBraces() {
        for (int b = 0; b <= 255; b++) {
            boolean goesOn = isOf(SIGNS, b) || b == '{';
            dueOf("if a", b, "{}", b <= 32 ? GOOD : goesOn ? 5 : isOf(LETTERS, b) ? 3 : 4);
            dueOf("if a{", b, "}", b <= 32 ? GOOD : isOf("abcdefghm", b) || b == '}' ? 6 : 5);
            dueOf("while 1{}", b, "a=1;", b <= 32 ? GOOD : 9);
        }
    }

    /** "bytes not above 32 may stand anywhere but within numbers and words, and count nothing". */
    private static void blanksUpTo32StandAnywhere() {
        String[] parts = {"if", "a", "<", "3", "{", "m", "[", "b", "]", "=", "(", "12", ")", "*", "c", ";", "}",
            "else", "{", "while", "(", "f", ")", "{", "d", "=", "2", "-", "e", ";", "}", "}"};
        Checks.dueOperations("if a" + String.join("", parts).substring(3), 4);
        for (int blank = 0; blank <= 34; blank++) {
            StringBuilder tape = new StringBuilder();
            for (String part : parts) {
                tape.append(part).append((char) blank);
            }
            if (blank <= 32) {
                Checks.dueOperations((char) blank + tape.toString(), 4);
                Checks.dueOperations(tape.toString().replace("" + (char) blank, "" + (char) blank + (char) blank), 4);
            } else {
                Checks.dueFault((char) blank + tape.toString(), STRAY, 0);
                Checks.dueFault(tape.toString(), STRAY, 2);
            }
        }
    }

    /** "but within numbers and words": what stands behind the blank can't come there. */
    private static void blanksWithinNumbersAndWords() {
        for (int blank = 0; blank <= 32; blank++) {
            char s = (char) blank;
            Checks.dueFault("a=1" + s + "2;", STRAY, 4);
            Checks.dueFault("a=214748364" + s + "8;", STRAY, 12);
            Checks.dueFault("i" + s + "f 1{}", STRAY, 0);
            Checks.dueFault("w" + s + "hile 1{}", STRAY, 0);
            Checks.dueFault("whil" + s + "e 1{}", STRAY, 0);
            Checks.dueFault("if 1{}e" + s + "lse{}", STRAY, 8);
            Checks.dueFault("if 1{}els" + s + "e{}", STRAY, 6);
        }
    }

    /** "if, else, while are words". */
    private static void wordsOfOneLetterMoreOrLess() {
        Checks.dueFault("i 1{}", STRAY, 0);
        Checks.dueOperations("if 1{}", 0);
        Checks.dueFault("iff 1{}", STRAY, 0);
        Checks.dueFault("aif 1{}", STRAY, 0);
        Checks.dueFault("f 1{}", STRAY, 2);
        Checks.dueFault("whil 1{}", STRAY, 0);
        Checks.dueOperations("while 1{}", 0);
        Checks.dueFault("whilee 1{}", STRAY, 0);
        Checks.dueFault("awhile 1{}", STRAY, 0);
        Checks.dueFault("hile 1{}", STRAY, 0);
        Checks.dueFault("if 1{}els{}", STRAY, 6);
        Checks.dueOperations("if 1{}else{}", 0);
        Checks.dueFault("if 1{}elsee{}", STRAY, 6);
        Checks.dueFault("if 1{}aelse{}", STRAY, 6);
        Checks.dueFault("if 1{}lse{}", STRAY, 6);
        Checks.dueFault("if 1{} else else{}", STRAY, 12);
        for (String alike : new String[] {"ig", "hf", "jf", "ie", "fi"}) {
            Checks.dueFault(alike + " 1{}", STRAY, 0);
        }
        for (String alike : new String[] {"vhile", "xhile", "wgile", "whjle", "whike", "whild", "whilf"}) {
            Checks.dueFault(alike + " 1{}", STRAY, 0);
        }
        for (String alike : new String[] {"dlse", "flse", "ekse", "elre", "elsd", "elsf"}) {
            Checks.dueFault("if 1{}" + alike + "{}", STRAY, 6);
        }
    }

    /** "VARIABLES a .. h": each is the one of its number, and no other letter is one. */
    private static void variablesFromAToH() {
        for (char letter = 'a'; letter <= 'z'; letter++) {
            int variable = letter - 'a';
            if (variable < 8) {
                CycleSynthesis x = Checks.made(letter + "=7;m[" + letter + "-6]=" + letter + "*2;");
                x.run(5000);
                Checks.due("the variable " + letter, x.get(variable), 7);
                Checks.due("what was written", x.peek(1), 14);
                for (int other = 0; other < 8; other++) {
                    Checks.due("variable " + other, x.get(other), other == variable ? 7 : 0);
                }
            } else if (letter == 'm') {
                Checks.dueFault("m=7;", STRAY, 1);
                Checks.dueFault("a=m;", STRAY, 3);
            } else {
                Checks.dueFault(letter + "=7;", STRAY, 0);
                Checks.dueFault(letter + "[1]=7;", STRAY, 0);
                Checks.dueFault("a=" + letter + ";", STRAY, 2);
                Checks.dueFault("a=" + letter + "[1];", STRAY, 2);
                Checks.dueFault("if " + letter + "{}", STRAY, 3);
            }
        }
    }

    /** "a variable is one letter with no letter beside it". */
    private static void oneLetterWithNoLetterBesideIt() {
        for (char letter = 'a'; letter <= 'z'; letter++) {
            Checks.dueFault("b" + letter + "=1;", STRAY, 0);
            Checks.dueFault(letter + "b=1;", STRAY, 0);
            Checks.dueFault("a=1+b" + letter + ";", STRAY, 4);
            Checks.dueFault("a=1+" + letter + "b;", STRAY, 4);
        }
        Checks.dueOperations("a=b;", 1);
        Checks.dueFault("a=1b;", STRAY, 3);
        Checks.dueFault("a=b1;", STRAY, 3);
        Checks.dueFault("a=b c;", STRAY, 4);
        Checks.dueOperations("if(b)=(c){}", 1);
    }

    /** "E: one or two SUMS, with < or = between". */
    private static void oneOrTwoSums() {
        for (String sign : new String[] {"<", "="}) {
            Checks.dueFault("a=;", STRAY, 2);
            Checks.dueOperations("a=b;", 1);
            Checks.dueOperations("a=b" + sign + "c;", 1);
            Checks.dueFault("a=b" + sign + "c<d;", STRAY, 5);
            Checks.dueFault("a=b" + sign + "c=d;", STRAY, 5);
            Checks.dueFault("a=b+c" + sign + "d+e<f;", STRAY, 9);
            Checks.dueOperations("a=(b" + sign + "c)=d;", 2);
            Checks.dueOperations("a=b<(c" + sign + "d);", 2);
            Checks.dueFault("a=b" + sign + sign + "c;", STRAY, 4);
            Checks.dueFault("a=b" + sign + ";", STRAY, 4);
            Checks.dueFault("if b" + sign + "c<d{}", STRAY, 6);
            Checks.dueFault("m[b" + sign + "c=d]=1;", STRAY, 5);
        }
    }

    /** "a word's first one": also of a word that could come nowhere. */
    private static void theFirstByteOfAWord() {
        Checks.dueFault("zyx", STRAY, 0);
        Checks.dueFault("  zyx=1;", STRAY, 2);
        Checks.dueFault("a=1;  zyx", STRAY, 6);
        Checks.dueFault("a=b+zyx;", STRAY, 4);
        Checks.dueFault("a=b zyx;", STRAY, 4);
        Checks.dueFault("a=b while", STRAY, 4);
        Checks.dueFault("a= else;", STRAY, 3);
        Checks.dueFault("a  while=1;", STRAY, 3);
        Checks.dueFault("if 1 else{}", STRAY, 5);
        Checks.dueFault("a=7zyx;", STRAY, 3);
        Checks.dueFault(" ".repeat(698) + "zy", STRAY, 698);
    }

    /** "or the tape's end": behind its last byte, blanks too. */
    private static void theTapesEnd() {
        String whole = "if(a<3){m[b]=m[1]+2;}else{c=4;}";
        for (int length = 0; length <= whole.length(); length++) {
            String cut = whole.substring(0, length);
            boolean complete = length == 0 || length == 21 || length == whole.length();
            // Of a word cut short the first letter may be a variable; what is longer is another word.
            boolean broken = length == 1 || length == 23 || length == 24;
            if (complete) {
                Checks.dueOperations(cut, length == 0 ? 0 : length == 21 ? 4 : 5);
            } else {
                int first = length == 1 ? 0 : 21;
                Checks.dueFault(cut, STRAY, broken ? first : length);
                Checks.dueFault(cut + " \n", STRAY, broken ? first : length + 2);
            }
        }
        Checks.dueFault(" ".repeat(696) + "a=1", STRAY, 699);
        Checks.dueFault(" ".repeat(697) + "a=1", STRAY, 700);
        Checks.dueFault("a=1" + " ".repeat(697), STRAY, 700);
        Checks.dueOperations(" ".repeat(696) + "a=1;", 1);
    }

    private static void dueNumber(String figures, int want) {
        CycleSynthesis x = Checks.made("a=" + figures + ";b=0+" + figures + ";");
        x.run(5000);
        Checks.due("a=" + figures, x.get(0), want);
        Checks.due("b=0+" + figures, x.get(1), want);
    }

    /** "a number (figures, up to 2147483647)". */
    private static void numbersUpToTheGreatest() {
        dueNumber("0", 0);
        dueNumber("1", 1);
        dueNumber("9", 9);
        dueNumber("10", 10);
        dueNumber("000", 0);
        dueNumber("999999999", 999999999);
        dueNumber("1000000000", 1000000000);
        dueNumber("2147483639", 2147483639);
        dueNumber("2147483646", Integer.MAX_VALUE - 1);
        dueNumber("2147483647", Integer.MAX_VALUE);
        Checks.dueFault("a=2147483648;", TOO_GREAT, 2);
        Checks.dueFault("a=2147483649;", TOO_GREAT, 2);
        Checks.dueFault("a=2147483650;", TOO_GREAT, 2);
        Checks.dueFault("a=2147483700;", TOO_GREAT, 2);
        Checks.dueFault("a=3000000000;", TOO_GREAT, 2);
        Checks.dueFault("a=10000000000;", TOO_GREAT, 2);
    }

    /** The same, beyond what ints and longs hold. */
    private static void numbersBeyondInts() {
        for (String figures : new String[] {"4294967295", "4294967296", "4294967297", "21474836470", "21474836480",
            "9223372036854775807", "9223372036854775808", "18446744073709551615", "18446744073709551616",
            "18446744073709551617", "184467440737095516160", "340282366920938463463374607431768211457"}) {
            Checks.dueFault("a=" + figures + ";", TOO_GREAT, 2);
            Checks.dueFault("a=0" + figures + ";", TOO_GREAT, 2);
            Checks.dueFault("m[1]=2+" + figures + ";", TOO_GREAT, 7);
        }
    }

    /** The same, with as many figures as the tape has room for. */
    private static void figuresUpToTheTapesEnd() {
        Checks.dueFault("a=" + "9".repeat(697) + ";", TOO_GREAT, 2);
        Checks.dueFault("a=" + "9".repeat(698), TOO_GREAT, 2);
        Checks.dueFault("a=" + "0".repeat(687) + "2147483648;", TOO_GREAT, 2);
        Checks.dueFault("a=" + "0".repeat(698), STRAY, 700);
        CycleSynthesis x = Checks.made("a=" + "0".repeat(687) + "2147483647;");
        x.run(5000);
        Checks.due("get(0)", x.get(0), Integer.MAX_VALUE);
    }

    /** "2 a number too great (its first byte)". */
    private static void theFirstByteOfANumber() {
        Checks.dueFault("a= \n 2147483648 ;", TOO_GREAT, 5);
        Checks.dueFault("a=0000000000002147483648;", TOO_GREAT, 2);
        Checks.dueFault("a=1*(2+2147483648);", TOO_GREAT, 7);
        Checks.dueFault("if 2147483648{}", TOO_GREAT, 3);
        Checks.dueFault("while2147483648{}", TOO_GREAT, 5);
        Checks.dueFault("m[2147483648]=1;", TOO_GREAT, 2);
        Checks.dueFault("a=2147483648", TOO_GREAT, 2);
        Checks.dueFault("a=2147483648b;", TOO_GREAT, 2);
        Checks.dueFault("a=b 2147483648;", STRAY, 4);
        Checks.dueFault("a=1 2147483648;", STRAY, 4);
        Checks.dueFault("2147483648", STRAY, 0);
    }

    /** "FAULTS, the first from the beginning on". */
    private static void theFirstFromTheBeginningOn() {
        Checks.dueFault("a=2147483648;b=;", TOO_GREAT, 2);
        Checks.dueFault("a=;b=2147483648;", STRAY, 2);
        Checks.dueFault("a=2147483648;b=99999999999;", TOO_GREAT, 2);
        Checks.dueFault("a=2147483647;b=99999999999;", TOO_GREAT, 15);
        Checks.dueFault("a=2147483648+;", TOO_GREAT, 2);
        Checks.dueFault("a=+2147483648;", STRAY, 2);
        Checks.dueFault("a=1;}b=;", STRAY, 4);
        Checks.dueFault("a=1;b=;}", STRAY, 6);
    }
}
