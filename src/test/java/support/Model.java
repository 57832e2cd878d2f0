import java.util.ArrayList;
import java.util.List;

/**
 * What the document says of a program, worked out from its tree in the slowest and plainest way:
 * operations, blocks, laying, registers, and a run that does every cycle by itself.
 */
final class Model {
    private static final int NONE = -1;

    /** An operation, with the kinds' latencies and its place in the block's cycles. */
    static final class Op {
        int number;
        int kind;
        char sign;
        Tree.E left;
        Tree.E right;
        int gives = NONE;
        int block;
        int latency;
        int height;
        int begin = NONE;
        int unit = NONE;
        int register = NONE;
        int heldFrom = NONE;
        int heldTo = NONE;

        int last() {
            return begin + latency - 1;
        }

        boolean isWrite() {
            return sign == 'W';
        }
    }

    /** A block. */
    static final class Part {
        final List<Op> ops = new ArrayList<>();
        Tree.E choice;
        int so = NONE;
        int otherwise = NONE;
        int cycles = 1;
    }

    final List<Op> ops = new ArrayList<>();
    final List<Part> parts = new ArrayList<>();
    final int[] variables = new int[8];
    final int[] cells = new int[16];
    int at;
    private final int[] many;
    private final int[] latency;
    private Part open;

    Model(List<Tree.Statement> program, int[] many, int[] latency) {
        this.many = many;
        this.latency = latency;
        cut(program);
        connect(program, NONE);
        for (Part part : parts) {
            lay(part);
            bind(part);
        }
        at = parts.isEmpty() ? NONE : 0;
    }

    private void cut(List<Tree.Statement> statements) {
        open = null;
        for (Tree.Statement statement : statements) {
            if (open == null || statement.what == 'w') {
                open = new Part();
                parts.add(open);
            }
            statement.block = parts.size() - 1;
            if (statement.index != null) {
                cut(statement.index);
            }
            cut(statement.value);
            if (statement.what == '=') {
                if (!statement.value.isOperation()) {
                    add('M', 3, statement.value, null);
                }
                ops.get(ops.size() - 1).gives = statement.variable;
            } else if (statement.what == 'm') {
                add('W', 2, statement.index, statement.value);
            } else {
                open.choice = statement.value;
                cut(statement.inside);
                if (statement.otherwise != null) {
                    cut(statement.otherwise);
                }
                open = null;
            }
        }
    }

    private void cut(Tree.E e) {
        if (e.what == Tree.READ) {
            cut(e.left);
            e.operation = add('R', 2, e.left, null);
        } else if (e.what == Tree.SIGN) {
            cut(e.left);
            cut(e.right);
            e.operation = add(e.sign, e.sign == '*' ? 1 : 0, e.left, e.right);
        }
    }

    private int add(char sign, int kind, Tree.E left, Tree.E right) {
        Op op = new Op();
        op.number = ops.size();
        op.sign = sign;
        op.kind = kind;
        op.left = left;
        op.right = right;
        op.block = parts.size() - 1;
        op.latency = kind == 1 || kind == 2 ? latency[kind] : 1;
        ops.add(op);
        open.ops.add(op);
        return op.number;
    }

    private static int entry(List<Tree.Statement> statements, int i, int behind) {
        return i < statements.size() ? statements.get(i).block : behind;
    }

    private void connect(List<Tree.Statement> statements, int behind) {
        for (int i = 0; i < statements.size(); i++) {
            Tree.Statement statement = statements.get(i);
            Part part = parts.get(statement.block);
            int next = entry(statements, i + 1, behind);
            if (statement.what == 'i') {
                part.so = entry(statement.inside, 0, next);
                part.otherwise = statement.otherwise == null ? next : entry(statement.otherwise, 0, next);
                connect(statement.inside, next);
                if (statement.otherwise != null) {
                    connect(statement.otherwise, next);
                }
            } else if (statement.what == 'w') {
                part.so = entry(statement.inside, 0, statement.block);
                part.otherwise = next;
                connect(statement.inside, statement.block);
            } else if (next != statement.block || i + 1 == statements.size()) {
                part.so = next;
            }
        }
    }

    private static boolean uses(Tree.E e, int variable) {
        return e != null && e.what == Tree.VARIABLE && e.value == variable;
    }

    private static boolean uses(Op op, int variable) {
        return uses(op.left, variable) || uses(op.right, variable);
    }

    private static boolean usesValue(Op op, Op used) {
        return op.left != null && op.left.operation == used.number
            || op.right != null && op.right.operation == used.number;
    }

    private static boolean behind(Op j, Op i) {
        if (j.number <= i.number) {
            return false;
        }
        if (usesValue(j, i)) {
            return true;
        }
        if (i.gives != NONE && (uses(j, i.gives) || j.gives == i.gives)) {
            return true;
        }
        if (j.gives != NONE && uses(i, j.gives)) {
            return true;
        }
        return i.kind == 2 && j.kind == 2 && (i.isWrite() || j.isWrite());
    }

    private int height(Part part, Op op) {
        if (op.height == 0) {
            int above = 0;
            for (Op later : part.ops) {
                if (behind(later, op)) {
                    above = Math.max(above, height(part, later));
                }
            }
            op.height = op.latency + above;
        }
        return op.height;
    }

    private void lay(Part part) {
        for (Op op : part.ops) {
            height(part, op);
        }
        int begun = 0;
        for (int cycle = 0; begun < part.ops.size(); cycle++) {
            for (Op op = best(part, cycle); op != null; op = best(part, cycle)) {
                op.unit = freeUnit(part, op.kind, cycle);
                op.begin = cycle;
                part.cycles = Math.max(part.cycles, op.last() + 1);
                begun++;
            }
        }
    }

    private Op best(Part part, int cycle) {
        Op best = null;
        for (Op op : part.ops) {
            boolean may = op.begin == NONE && mayBegin(part, op, cycle) && freeUnit(part, op.kind, cycle) != NONE;
            if (may && (best == null || op.height > best.height)) {
                best = op;
            }
        }
        return best;
    }

    private static boolean mayBegin(Part part, Op op, int cycle) {
        for (Op earlier : part.ops) {
            if (behind(op, earlier) && (earlier.begin == NONE || earlier.last() >= cycle)) {
                return false;
            }
        }
        return true;
    }

    private int freeUnit(Part part, int kind, int cycle) {
        int units = kind == 3 ? 1000 : many[kind];
        for (int unit = 0; unit < units; unit++) {
            boolean free = true;
            for (Op op : part.ops) {
                boolean at = op.begin != NONE && op.begin <= cycle && cycle <= op.last();
                free &= !(at && op.kind == kind && op.unit == unit);
            }
            if (free) {
                return unit;
            }
        }
        return NONE;
    }

    private void bind(Part part) {
        List<Op> held = new ArrayList<>();
        for (Op op : part.ops) {
            if (op.gives == NONE && !op.isWrite()) {
                op.heldFrom = op.last() + 1;
                for (Op user : part.ops) {
                    if (usesValue(user, op)) {
                        op.heldTo = Math.max(op.heldTo, user.begin);
                    }
                }
                if (part.choice != null && part.choice.operation == op.number) {
                    op.heldTo = part.cycles - 1;
                }
                held.add(op);
            }
        }
        held.sort((p, q) -> p.heldFrom != q.heldFrom ? p.heldFrom - q.heldFrom : p.number - q.number);
        for (Op op : held) {
            int register = 0;
            while (isTaken(held, op, register)) {
                register++;
            }
            op.register = register;
        }
    }

    private static boolean isTaken(List<Op> held, Op asking, int register) {
        for (int cycle = asking.heldFrom; cycle <= asking.heldTo; cycle++) {
            for (Op op : held) {
                if (op.register == register && op.heldFrom <= cycle && cycle <= op.heldTo) {
                    return true;
                }
            }
        }
        return false;
    }

    /** As run(n), but with each cycle done: values wait in the registers that were bound. */
    int run(int n) {
        int done = 0;
        while (done < n && at != NONE) {
            Part part = parts.get(at);
            int[] registers = new int[ops.size() + 1];
            int[] outcomes = new int[ops.size()];
            for (int cycle = 0; cycle < part.cycles; cycle++) {
                for (Op op : part.ops) {
                    if (op.begin == cycle) {
                        outcomes[op.number] = outcome(op, registers);
                    }
                }
                for (Op op : part.ops) {
                    if (op.last() == cycle) {
                        give(op, outcomes[op.number], registers);
                    }
                }
            }
            done += part.cycles;
            boolean so = part.choice == null || value(part.choice, registers) != 0;
            at = so ? part.so : part.otherwise;
        }
        return done;
    }

    private final int[] writesTo = new int[200];

    private int outcome(Op op, int[] registers) {
        int left = value(op.left, registers);
        int right = op.right == null ? 0 : value(op.right, registers);
        switch (op.sign) {
            case '+': return left + right;
            case '-': return left - right;
            case '*': return left * right;
            case '<': return left < right ? 1 : 0;
            case '=': return left == right ? 1 : 0;
            case 'R': return cells[Math.floorMod(left, 16)];
            case 'W': writesTo[op.number] = Math.floorMod(left, 16); return right;
            default: return left;
        }
    }

    private void give(Op op, int outcome, int[] registers) {
        if (op.isWrite()) {
            cells[writesTo[op.number]] = outcome;
        } else if (op.gives != NONE) {
            variables[op.gives] = outcome;
        } else {
            registers[op.register] = outcome;
        }
    }

    private int value(Tree.E e, int[] registers) {
        if (e.what == Tree.VALUE) {
            return e.value;
        }
        return e.what == Tree.VARIABLE ? variables[e.value] : registers[ops.get(e.operation).register];
    }

    int greatest(int kind) {
        int greatest = NONE;
        for (Op op : ops) {
            greatest = Math.max(greatest, op.kind == kind ? op.unit : NONE);
        }
        return greatest;
    }

    int greatestRegister() {
        int greatest = NONE;
        for (Op op : ops) {
            greatest = Math.max(greatest, op.register);
        }
        return greatest;
    }

    int allCycles() {
        int all = 0;
        for (Part part : parts) {
            all += part.cycles;
        }
        return all;
    }
}
