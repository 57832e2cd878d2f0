import java.util.List;

/** Promises 4, 5 and 8 to 18 over many programs thrown by dice, against the plain model of them. */
public final class ThrownProgramsTest {
    private static final int PROGRAMS = 3000;
    private static int shapes = 0;

    public static void main(String[] args) {
        Dice dice = new Dice(20261119);
        for (int i = 0; i < PROGRAMS; i++) {
            check(dice, i % 10 == 0 ? 120 : 25);
        }
        for (int i = 0; i < 200; i++) {
            checkOneObject(dice);
        }
        Checks.due("programs with 20 operations and 5 blocks at least", shapes > PROGRAMS / 10 ? 1 : 0, 1);
        Checks.finish();
    }

    private static void check(Dice dice, int operations) {
        List<Tree.Statement> program = new Tree.Thrower(dice, operations).statements(0);
        String text = new Tree.Writer(dice).write(program);
        if (text.length() > 700) {
            return;
        }
        int[] many = {1 + dice.next(4), 1 + dice.next(4), 1 + dice.next(4)};
        int[] latency = {1, 1 + dice.next(4), 1 + dice.next(4)};
        Model model = new Model(program, many, latency);
        if (model.ops.size() > 200) {
            return;
        }
        if (model.ops.size() >= 20 && model.parts.size() >= 5) {
            shapes++;
        }
        String told = text + " with " + many[0] + many[1] + many[2] + latency[1] + latency[2];
        checkTold(told, made(text, many, latency, dice, model), model);
        checkBlocks(told, made(text, many, latency, dice, model), model);
        checkRun(told, made(text, many, latency, dice, model), model, dice);
    }

    /** One program after the other, some with faults between them, must answer as new objects do. */
    private static void checkOneObject(Dice dice) {
        CycleSynthesis x = new CycleSynthesis();
        for (int i = 0; i < 6; i++) {
            List<Tree.Statement> program = new Tree.Thrower(dice, i % 2 == 0 ? 30 : 8).statements(0);
            String text = new Tree.Writer(dice).write(program);
            if (text.length() > 180) {
                continue;
            }
            if (dice.oneIn(3)) {
                Checks.due("compile() of a fault", Checks.compile(x, "while a+1{b=1;if c{"), -1);
            }
            CycleSynthesis fresh = new CycleSynthesis();
            Checks.due("compile() of " + text, Checks.compile(x, text), Checks.compile(fresh, text));
            for (int what = 0; what <= 6; what++) {
                Checks.due(text + ": told(" + what + ")", x.told(what), fresh.told(what));
            }
            for (int block = 0; block < fresh.told(0) && block < 3; block++) {
                for (int what = 0; what <= 4; what++) {
                    Checks.due(text + ": block(" + block + ", " + what + ")", x.block(block, what),
                        fresh.block(block, what));
                }
            }
            for (int cell = 0; cell < 16; cell++) {
                x.poke(cell, 0);
            }
            for (int variable = 0; variable < 4; variable++) {
                x.set(variable, 2);
                fresh.set(variable, 2);
            }
            Checks.due(text + ": run(90)", x.run(90), fresh.run(90));
            Checks.due(text + ": at()", x.at(), fresh.at());
            for (int variable = 0; variable < 4; variable++) {
                Checks.due(text + ": get(" + variable + ")", x.get(variable), fresh.get(variable));
            }
        }
    }

    /** The units are set before the program comes, or behind it. */
    private static CycleSynthesis made(String text, int[] many, int[] latency, Dice dice, Model model) {
        CycleSynthesis x = new CycleSynthesis();
        boolean before = dice.oneIn(2);
        for (int turn = 0; turn < 2; turn++) {
            if ((turn == 0) == before) {
                for (int kind = 0; kind < 3; kind++) {
                    x.units(kind, many[kind], latency[kind]);
                }
            } else {
                Checks.due("compile() of " + text, Checks.compile(x, text), model.ops.size());
            }
        }
        return x;
    }

    private static void checkTold(String told, CycleSynthesis x, Model model) {
        Checks.due(told + ": told(0)", x.told(0), model.parts.size());
        Checks.due(told + ": told(1)", x.told(1), model.allCycles());
        Checks.due(told + ": told(2)", x.told(2), model.greatestRegister() + 1);
        for (int kind = 0; kind < 4; kind++) {
            Checks.due(told + ": told(" + (3 + kind) + ")", x.told(3 + kind), model.greatest(kind) + 1);
        }
        // No more than an object's 512 calls.
        for (Model.Op op : model.ops.subList(0, Math.min(60, model.ops.size()))) {
            String named = told + ": operation(" + op.number + ", ";
            Checks.due(named + "0)", x.operation(op.number, 0), op.kind);
            Checks.due(named + "1)", x.operation(op.number, 1), op.block);
            Checks.due(named + "2)", x.operation(op.number, 2), op.begin);
            Checks.due(named + "3)", x.operation(op.number, 3), op.height);
            Checks.due(named + "4)", x.operation(op.number, 4), op.unit);
            Checks.due(named + "5)", x.operation(op.number, 5), op.register);
        }
    }

    private static void checkBlocks(String told, CycleSynthesis x, Model model) {
        for (int i = 0; i < model.parts.size() && i < 60; i++) {
            Model.Part part = model.parts.get(i);
            String named = told + ": block(" + i + ", ";
            Checks.due(named + "0)", x.block(i, 0), part.cycles);
            Checks.due(named + "1)", x.block(i, 1), part.ops.isEmpty() ? -1 : part.ops.get(0).number);
            Checks.due(named + "2)", x.block(i, 2), part.ops.size());
            Checks.due(named + "3)", x.block(i, 3), part.so);
            Checks.due(named + "4)", x.block(i, 4), part.otherwise);
        }
    }

    private static void checkRun(String told, CycleSynthesis x, Model model, Dice dice) {
        for (int i = 0; i < 8; i++) {
            int thrown = dice.next(9) - 3;
            x.set(i, thrown);
            model.variables[i] = thrown;
            x.poke(2 * i, 7 * thrown);
            model.cells[2 * i] = 7 * thrown;
        }
        long cycles = 0;
        for (int turn = 0; turn < 6; turn++) {
            int n = dice.next(turn < 3 ? 12 : 400);
            int done = model.run(n);
            cycles += done;
            Checks.due(told + ": run(" + n + ")", x.run(n), done);
            Checks.due(told + ": at()", x.at(), model.at);
            Checks.due(told + ": cycles()", x.cycles(), cycles);
            for (int i = 0; i < 8; i++) {
                Checks.due(told + ": get(" + i + ")", x.get(i), model.variables[i]);
            }
            for (int i = 0; i < 16; i++) {
                Checks.due(told + ": peek(" + i + ")", x.peek(i), model.cells[i]);
            }
        }
    }
}
