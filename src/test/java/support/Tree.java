import java.util.ArrayList;
import java.util.List;

/** Programs as trees: thrown by dice, and written out as tapes. */
final class Tree {
    static final int VALUE = 0;
    static final int VARIABLE = 1;
    static final int READ = 2;
    static final int SIGN = 3;

    private Tree() {
    }

    /** An expression. */
    static final class E {
        final int what;
        final int value;
        final char sign;
        final E left;
        final E right;
        int operation = -1;

        E(int what, int value, char sign, E left, E right) {
            this.what = what;
            this.value = value;
            this.sign = sign;
            this.left = left;
            this.right = right;
        }

        boolean isOperation() {
            return what == READ || what == SIGN;
        }
    }

    /** A statement: '=' gives a variable, 'm' writes, 'i' is an if, 'w' a while. */
    static final class Statement {
        final char what;
        int variable;
        E index;
        E value;
        List<Statement> inside;
        List<Statement> otherwise;
        int block = -1;

        Statement(char what) {
            this.what = what;
        }
    }

    /** Throws trees, of few variables and cells so that they touch one another often. */
    static final class Thrower {
        private final Dice dice;
        private int operationsLeft;

        Thrower(Dice dice, int operations) {
            this.dice = dice;
            operationsLeft = operations;
        }

        List<Statement> statements(int depth) {
            List<Statement> all = new ArrayList<>();
            int many = dice.next(depth == 0 ? 7 : 4);
            for (int i = 0; i < many && operationsLeft > 0; i++) {
                all.add(statement(depth));
            }
            return all;
        }

        private Statement statement(int depth) {
            int thrown = dice.next(depth > 3 ? 7 : 10);
            Statement made = new Statement(thrown < 5 ? '=' : thrown < 7 ? 'm' : thrown < 9 ? 'i' : 'w');
            operationsLeft--;
            made.variable = dice.next(4);
            made.value = expression(3);
            if (made.what == 'm') {
                made.index = expression(1);
            }
            if (made.what == 'i' || made.what == 'w') {
                made.inside = statements(depth + 1);
            }
            if (made.what == 'i' && dice.oneIn(2)) {
                made.otherwise = statements(depth + 1);
            }
            return made;
        }

        private E expression(int depth) {
            int thrown = dice.next(depth == 0 || operationsLeft <= 0 ? 4 : 12);
            if (thrown == 0) {
                return new E(VALUE, dice.oneIn(9) ? 2147483647 - dice.next(3) : dice.next(20), ' ', null, null);
            }
            if (thrown < 4) {
                return new E(VARIABLE, dice.next(4), ' ', null, null);
            }
            operationsLeft--;
            if (thrown < 6) {
                return new E(READ, 0, ' ', expression(depth - 1), null);
            }
            char sign = "+-**<=".charAt(dice.next(6));
            return new E(SIGN, 0, sign, expression(depth - 1), expression(depth - 1));
        }
    }

    /** Writes trees out, with blanks and brackets more than are needed. */
    static final class Writer {
        private static final String BLANKS = " \n\t\0\37";
        private final Dice dice;
        private final StringBuilder text = new StringBuilder();

        Writer(Dice dice) {
            this.dice = dice;
        }

        String write(List<Statement> statements) {
            all(statements);
            return text.toString();
        }

        private void all(List<Statement> statements) {
            for (Statement statement : statements) {
                one(statement);
            }
        }

        private void one(Statement statement) {
            if (statement.what == '=') {
                put("" + (char) ('a' + statement.variable));
                put("=");
                expression(statement.value, 0);
                put(";");
            } else if (statement.what == 'm') {
                put("m");
                put("[");
                expression(statement.index, 0);
                put("]");
                put("=");
                expression(statement.value, 0);
                put(";");
            } else {
                put(statement.what == 'i' ? "if" : "while");
                text.append(' ');
                expression(statement.value, 0);
                body(statement.inside);
                if (statement.otherwise != null) {
                    put("else");
                    body(statement.otherwise);
                }
            }
        }

        private void body(List<Statement> statements) {
            put("{");
            all(statements);
            put("}");
        }

        private static int rank(E e) {
            return e.what != SIGN ? 3 : e.sign == '*' ? 2 : e.sign == '+' || e.sign == '-' ? 1 : 0;
        }

        private void expression(E e, int least) {
            boolean bracketed = rank(e) < least || dice.oneIn(12);
            if (bracketed) {
                put("(");
            }
            if (e.what == VALUE) {
                put((dice.oneIn(9) ? "00" : "") + e.value);
                if (dice.oneIn(9)) {
                    text.append(' ');
                }
            } else if (e.what == VARIABLE) {
                put("" + (char) ('a' + e.value));
            } else if (e.what == READ) {
                put("m");
                put("[");
                expression(e.left, 0);
                put("]");
            } else {
                int rank = rank(e);
                expression(e.left, rank == 0 ? 1 : rank);
                put("" + e.sign);
                expression(e.right, rank + 1);
            }
            if (bracketed) {
                put(")");
            }
        }

        private void put(String sign) {
            if (dice.oneIn(15)) {
                text.append(BLANKS.charAt(dice.next(BLANKS.length())));
            }
            text.append(sign);
        }
    }
}
