import java.util.ArrayList;
import java.util.List;

/** Promises 9 and 17 over every program of up to four statements, against the plain model of them. */
public final class SmallProgramsTest {
    private static final int MOST_STATEMENTS = 4;
    private static final int PROGRAMS = 1 + 4 + 32 + 336 + 4032;

    public static void main(String[] args) {
        Dice dice = new Dice(3);
        int programs = 0;
        for (int statements = 0; statements <= MOST_STATEMENTS; statements++) {
            for (List<Tree.Statement> program : listsOf(statements)) {
                // What is listed shares its parts; in a program each one stands but once.
                check(copy(program), dice);
                programs++;
            }
        }
        Checks.due("programs", programs, PROGRAMS);
        Checks.finish();
    }

    private static List<List<Tree.Statement>> listsOf(int statements) {
        List<List<Tree.Statement>> lists = new ArrayList<>();
        if (statements == 0) {
            lists.add(new ArrayList<>());
        }
        for (int first = 1; first <= statements; first++) {
            for (Tree.Statement statement : statementsOf(first)) {
                for (List<Tree.Statement> others : listsOf(statements - first)) {
                    List<Tree.Statement> list = new ArrayList<>();
                    list.add(statement);
                    list.addAll(others);
                    lists.add(list);
                }
            }
        }
        return lists;
    }

    private static List<Tree.Statement> statementsOf(int statements) {
        List<Tree.Statement> all = new ArrayList<>();
        if (statements == 1) {
            all.add(made('=', null, null));
        }
        for (List<Tree.Statement> inside : listsOf(statements - 1)) {
            all.add(made('i', inside, null));
            all.add(made('w', inside, null));
        }
        for (int inside = 0; inside < statements; inside++) {
            for (List<Tree.Statement> so : listsOf(inside)) {
                for (List<Tree.Statement> otherwise : listsOf(statements - 1 - inside)) {
                    all.add(made('i', so, otherwise));
                }
            }
        }
        return all;
    }

    private static Tree.Statement made(char what, List<Tree.Statement> inside, List<Tree.Statement> otherwise) {
        Tree.Statement statement = new Tree.Statement(what);
        statement.value = new Tree.E(Tree.VARIABLE, 1, ' ', null, null);
        statement.inside = inside;
        statement.otherwise = otherwise;
        return statement;
    }

    private static List<Tree.Statement> copy(List<Tree.Statement> list) {
        if (list == null) {
            return null;
        }
        List<Tree.Statement> copied = new ArrayList<>();
        for (Tree.Statement statement : list) {
            copied.add(made(statement.what, copy(statement.inside), copy(statement.otherwise)));
        }
        return copied;
    }

    private static void check(List<Tree.Statement> program, Dice dice) {
        String text = new Tree.Writer(dice).write(program);
        Model model = new Model(program, new int[] {1, 1, 1}, new int[] {1, 1, 1});
        CycleSynthesis x = Checks.made(text);
        Checks.due(text + ": told(0)", x.told(0), model.parts.size());
        Checks.due(text + ": at()", x.at(), model.at);
        for (int i = 0; i < model.parts.size(); i++) {
            Model.Part part = model.parts.get(i);
            Checks.due(text + ": block(" + i + ", 2)", x.block(i, 2), part.ops.size());
            Checks.due(text + ": block(" + i + ", 3)", x.block(i, 3), part.so);
            Checks.due(text + ": block(" + i + ", 4)", x.block(i, 4), part.otherwise);
        }
    }
}
