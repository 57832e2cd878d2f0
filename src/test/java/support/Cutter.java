import java.util.ArrayList;
import java.util.List;

/**
 * Cuts a tape without faults into its tree, from the outside to the inside: of an expression the
 * sign that binds least, the last of these, is looked for over its whole length.
 */
final class Cutter {
    private final List<String> tokens = new ArrayList<>();

    private Cutter(String tape) {
        String text = tape.replaceAll("[\\x00-\\x20]", " ");
        for (String piece : text.split(" +")) {
            for (String token : piece.split("(?<=[^a-z0-9])|(?=[^a-z0-9])|(?<=[a-z])(?=[0-9])|(?<=[0-9])(?=[a-z])")) {
                if (!token.isEmpty()) {
                    tokens.add(token);
                }
            }
        }
    }

    static List<Tree.Statement> cut(String tape) {
        Cutter cutter = new Cutter(tape);
        return cutter.statements(0, cutter.tokens.size());
    }

    private List<Tree.Statement> statements(int from, int to) {
        List<Tree.Statement> all = new ArrayList<>();
        int next = from;
        while (next < to) {
            next = statement(all, next);
        }
        return all;
    }

    /** Answers where the next one begins. */
    private int statement(List<Tree.Statement> all, int from) {
        String word = tokens.get(from);
        boolean branches = word.equals("if") || word.equals("while");
        Tree.Statement made = new Tree.Statement(branches || word.equals("m") ? word.charAt(0) : '=');
        all.add(made);
        if (branches) {
            return branch(made, from);
        }
        int sign = from + 1;
        if (word.equals("m")) {
            int closing = closing(from + 1);
            made.index = expression(from + 2, closing);
            sign = closing + 1;
        } else {
            made.variable = word.charAt(0) - 'a';
        }
        int end = sign;
        while (!tokens.get(end).equals(";")) {
            end++;
        }
        made.value = expression(sign + 1, end);
        return end + 1;
    }

    private int branch(Tree.Statement made, int from) {
        int opening = from;
        while (!tokens.get(opening).equals("{")) {
            opening++;
        }
        int closing = closing(opening);
        made.value = expression(from + 1, opening);
        made.inside = statements(opening + 1, closing);
        boolean hasElse = closing + 1 < tokens.size() && tokens.get(closing + 1).equals("else");
        if (!hasElse || made.what == 'w') {
            return closing + 1;
        }
        int end = closing(closing + 2);
        made.otherwise = statements(closing + 3, end);
        return end + 1;
    }

    private int closing(int opening) {
        int open = 0;
        int place = opening;
        do {
            open += step(place);
            place++;
        } while (open > 0);
        return place - 1;
    }

    private int step(int place) {
        String token = tokens.get(place);
        if (token.equals("(") || token.equals("[") || token.equals("{")) {
            return 1;
        }
        return token.equals(")") || token.equals("]") || token.equals("}") ? -1 : 0;
    }

    private Tree.E expression(int from, int to) {
        for (String signs : new String[] {"<=", "+-", "*"}) {
            int sign = lastOf(signs, from, to);
            if (sign >= 0) {
                return new Tree.E(Tree.SIGN, 0, tokens.get(sign).charAt(0), expression(from, sign),
                    expression(sign + 1, to));
            }
        }
        String first = tokens.get(from);
        if (first.equals("(")) {
            return expression(from + 1, to - 1);
        }
        if (first.equals("m")) {
            return new Tree.E(Tree.READ, 0, ' ', expression(from + 2, to - 1), null);
        }
        if (Character.isDigit(first.charAt(0))) {
            return new Tree.E(Tree.VALUE, Integer.parseInt(first), ' ', null, null);
        }
        return new Tree.E(Tree.VARIABLE, first.charAt(0) - 'a', ' ', null, null);
    }

    /** The last of these signs that stands in no brackets; -1 if there is none. */
    private int lastOf(String signs, int from, int to) {
        int open = 0;
        int found = -1;
        for (int i = from; i < to; i++) {
            open += step(i);
            if (open == 0 && signs.contains(tokens.get(i))) {
                found = i;
            }
        }
        return found;
    }
}
