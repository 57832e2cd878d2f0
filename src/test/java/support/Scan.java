import java.util.ArrayDeque;
import java.util.Deque;

/**
 * Looks for the first fault of a tape in one go from left to right, with rows of open signs and
 * brackets of its own instead of methods that call one another.
 */
final class Scan {
    private static final int END = -1;

    /** What is open: a brace, a bracket, or a sign that waits for the end of its right side. */
    private record Open(char what, int place) {
    }

    private final String tape;
    private final Deque<Open> opened = new ArrayDeque<>();
    private int place;
    private int braces;
    private int brackets;
    int operations;
    int fault;
    int faultPlace = -1;

    Scan(String tape) {
        this.tape = tape;
        boolean elseMayCome = false;
        while (fault == 0) {
            int sign = look();
            String word = word();
            if (sign == END) {
                if (braces > 0) {
                    stray();
                }
                return;
            }
            boolean elseCame = word.equals("else") && elseMayCome;
            elseMayCome = false;
            if (sign == '}' && braces > 0) {
                place++;
                braces--;
                elseMayCome = opened.pop().what == 'i';
            } else if (word.equals("if") || word.equals("while")) {
                place += word.length();
                expression('{');
                brace(word.charAt(0));
            } else if (elseCame) {
                place += 4;
                brace('e');
            } else if (word.equals("m")) {
                write();
            } else if (isVariable(word)) {
                move();
            } else {
                stray();
            }
        }
    }

    private int look() {
        while (place < tape.length() && tape.charAt(place) <= 32) {
            place++;
        }
        return place < tape.length() ? tape.charAt(place) : END;
    }

    private String word() {
        int end = place;
        while (end < tape.length() && tape.charAt(end) >= 'a' && tape.charAt(end) <= 'z') {
            end++;
        }
        return tape.substring(place, end);
    }

    private static boolean isVariable(String word) {
        return word.matches("[a-h]");
    }

    private void refuse(int why, int where) {
        if (fault == 0) {
            fault = why;
            faultPlace = where;
        }
    }

    private void stray() {
        look();
        refuse(1, place);
    }

    private void pass(char sign) {
        if (fault == 0 && look() == sign) {
            place++;
        } else {
            stray();
        }
    }

    private void brace(char of) {
        if (fault == 0 && look() != '{') {
            stray();
        } else if (fault == 0 && braces == 10) {
            refuse(3, place);
        } else if (fault == 0) {
            place++;
            braces++;
            opened.push(new Open(of, place));
        }
    }

    private void count(int where) {
        operations++;
        if (operations > 200) {
            refuse(3, where);
        }
    }

    private void move() {
        int start = place;
        place++;
        pass('=');
        int before = operations;
        expression(';');
        pass(';');
        if (fault == 0 && operations == before) {
            count(start);
        }
    }

    private void write() {
        int start = place;
        place++;
        if (look() != '[') {
            stray();
            return;
        }
        if (brackets == 20) {
            refuse(3, place);
            return;
        }
        place++;
        brackets++;
        expression(']');
        pass(']');
        brackets--;
        pass('=');
        expression(';');
        pass(';');
        if (fault == 0) {
            count(start);
        }
    }

    /** Goes up to what can't belong to the expression; what is due there, the caller looks at. */
    private void expression(char due) {
        Deque<Open> row = new ArrayDeque<>();
        boolean operandIsDue = true;
        while (fault == 0) {
            int sign = look();
            String word = word();
            if (operandIsDue && sign == '(' || operandIsDue && word.equals("m")) {
                open(row, sign);
            } else if (operandIsDue && sign >= '0' && sign <= '9') {
                number();
                operandIsDue = false;
            } else if (operandIsDue && isVariable(word)) {
                place++;
                operandIsDue = false;
            } else if (operandIsDue) {
                stray();
            } else if (rank(sign) > 0) {
                boolean second = settle(row, rank(sign));
                if (fault == 0 && second) {
                    stray();
                }
                row.push(new Open((char) sign, place));
                place++;
                operandIsDue = true;
            } else {
                settle(row, 1);
                if (fault != 0 || row.isEmpty()) {
                    return;
                }
                Open open = row.pop();
                pass(open.what == 'm' ? ']' : ')');
                brackets--;
                if (fault == 0 && open.what == 'm') {
                    count(open.place);
                }
            }
        }
    }

    private void open(Deque<Open> row, int sign) {
        row.push(new Open(sign == '(' ? '(' : 'm', place));
        if (sign == 'm') {
            place++;
            if (look() != '[') {
                stray();
                return;
            }
        }
        if (brackets == 20) {
            refuse(3, place);
        }
        place++;
        brackets++;
    }

    private void number() {
        int start = place;
        while (place < tape.length() && Character.isDigit(tape.charAt(place))) {
            place++;
        }
        String figures = tape.substring(start, place);
        if (new java.math.BigInteger(figures).bitLength() > 31) {
            refuse(2, start);
        }
    }

    private static int rank(int sign) {
        return sign == '*' ? 3 : sign == '+' || sign == '-' ? 2 : sign == '<' || sign == '=' ? 1 : 0;
    }

    /** Ends the signs whose right side has ended; tells whether one of < and = was among them. */
    private boolean settle(Deque<Open> row, int rank) {
        boolean compared = false;
        while (!row.isEmpty() && rank(row.peek().what) >= rank) {
            compared |= rank(row.peek().what) == 1;
            count(row.pop().place);
        }
        return compared;
    }
}
