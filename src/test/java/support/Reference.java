import java.util.List;

/**
 * The whole object as the document has it, in the plainest way: the tape is a text, each laying is
 * a new model of the program's tree, and faults are looked for by the scan.
 */
final class Reference {
    private static final int NONE = -1;

    private String tape = "";
    private final int[] many = {1, 1, 1};
    private final int[] latency = {1, 1, 1};
    private List<Tree.Statement> program = List.of();
    private Model model = new Model(program, many, latency);
    private int fault;
    private int place = NONE;
    private long cycles;

    private static void argument(boolean good) {
        if (!good) {
            throw new IllegalArgumentException();
        }
    }

    private static void index(int asked, int many) {
        if (asked < 0 || asked >= many) {
            throw new IndexOutOfBoundsException();
        }
    }

    int feed(int n, long bytes) {
        argument(1 <= n && n <= 8);
        if (tape.length() + n > 700) {
            return NONE;
        }
        long left = bytes;
        for (int i = 0; i < n; i++) {
            tape += (char) Math.floorMod(left, 256L);
            left = Math.floorDiv(left, 256L);
        }
        return tape.length();
    }

    int wipe() {
        int had = tape.length();
        tape = "";
        return had;
    }

    void units(int kind, int units, int cyclesOfOne) {
        argument(0 <= kind && kind <= 2);
        argument(1 <= units && units <= 4);
        argument(1 <= cyclesOfOne && cyclesOfOne <= 4);
        argument(kind != 0 || cyclesOfOne == 1);
        many[kind] = units;
        latency[kind] = cyclesOfOne;
        layAnew();
    }

    private void layAnew() {
        Model old = model;
        model = new Model(program, many, latency);
        System.arraycopy(old.variables, 0, model.variables, 0, 8);
        System.arraycopy(old.cells, 0, model.cells, 0, 16);
        cycles = 0;
    }

    int compile() {
        Scan scan = new Scan(tape);
        fault = scan.fault;
        place = scan.faultPlace;
        if (fault != 0) {
            return NONE;
        }
        program = Cutter.cut(tape);
        layAnew();
        return model.ops.size();
    }

    int fault() {
        return fault;
    }

    int place() {
        return place;
    }

    int told(int what) {
        argument(0 <= what && what <= 6);
        switch (what) {
            case 0: return model.parts.size();
            case 1: return model.allCycles();
            case 2: return model.greatestRegister() + 1;
            default: return model.greatest(what - 3) + 1;
        }
    }

    int block(int block, int what) {
        index(block, model.parts.size());
        argument(0 <= what && what <= 4);
        Model.Part part = model.parts.get(block);
        switch (what) {
            case 0: return part.cycles;
            case 1: return part.ops.isEmpty() ? NONE : part.ops.get(0).number;
            case 2: return part.ops.size();
            case 3: return part.so;
            default: return part.otherwise;
        }
    }

    int operation(int i, int what) {
        index(i, model.ops.size());
        argument(0 <= what && what <= 5);
        Model.Op op = model.ops.get(i);
        return new int[] {op.kind, op.block, op.begin, op.height, op.unit, op.register}[what];
    }

    int set(int variable, int v) {
        int was = get(variable);
        model.variables[variable] = v;
        return was;
    }

    int get(int variable) {
        index(variable, 8);
        return model.variables[variable];
    }

    int poke(int cell, int v) {
        int was = peek(cell);
        model.cells[cell] = v;
        return was;
    }

    int peek(int cell) {
        index(cell, 16);
        return model.cells[cell];
    }

    void restart() {
        model.at = model.parts.isEmpty() ? NONE : 0;
        cycles = 0;
    }

    int run(int n) {
        argument(0 <= n && n <= 5000);
        int done = model.run(n);
        cycles += done;
        return done;
    }

    int at() {
        return model.at;
    }

    long cycles() {
        return cycles;
    }
}
