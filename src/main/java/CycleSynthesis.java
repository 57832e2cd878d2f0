/**
 * Makes machines of states and paths for data from programs: a small language is cut into
 * operations and blocks, these are laid into cycles as units of each kind allow, values are bound
 * to units and registers, and the machine runs, cycle by cycle, to what the program says.
 */
public final class CycleSynthesis {
    public static final int NONE = -1;

    private static final int MOST_BYTES = 700;
    private static final int MOST_OPERATIONS = 200;
    private static final int MOST_FED = 8;
    private static final int MOST_DONE = 5000;
    private static final int MOST_UNITS = 4;
    private static final int MOST_LATENCY = 4;
    private static final int VARIABLES = 8;
    private static final int CELLS = 16;
    private static final int GREATEST_NUMBER = 2147483647;

    // Every block owns a statement, or the E of an if or a while: none is shorter than four bytes.
    private static final int MOST_BLOCKS = MOST_BYTES / 4;
    // An if makes two joints of five bytes, and nothing makes more of less.
    private static final int MOST_JOINTS = MOST_BYTES / 2;

    private static final int ADDERS = 0;
    private static final int MULTIPLIERS = 1;
    private static final int PORTS = 2;
    private static final int MOVES = 3;

    // What an operation does is told by its sign on the tape; these three have none there.
    private static final int READ = 1;
    private static final int WRITE = 2;
    private static final int MOVE = 3;

    private static final int STRAY = 1;
    private static final int TOO_GREAT = 2;
    private static final int TOO_MANY = 3;

    private final Tape tape;
    private final Translator translator;
    private final Layer layer;
    private final Machine machine;
    private Program program;
    private Program spare;

    public CycleSynthesis() {
        tape = new Tape();
        translator = new Translator(tape);
        layer = new Layer();
        machine = new Machine();
        program = new Program();
        spare = new Program();
        machine.begin(program);
    }

    public int feed(int n, long bytes) throws IllegalArgumentException {
        if (n < 1 || n > MOST_FED) {
            throw new IllegalArgumentException();
        }
        return tape.append(n, bytes) ? tape.length : NONE;
    }

    public int wipe() {
        return tape.clear();
    }

    public void units(int kind, int many, int latency) throws IllegalArgumentException {
        if (!Layer.allows(kind, many, latency)) {
            throw new IllegalArgumentException();
        }
        layer.supply(kind, many, latency);
        layer.lay(program);
        machine.begin(program);
    }

    public int compile() {
        if (!translator.translate(spare)) {
            return NONE;
        }
        Program old = program;
        program = spare;
        spare = old;
        layer.lay(program);
        machine.begin(program);
        return program.operations;
    }

    public int fault() {
        return translator.fault;
    }

    public int place() {
        return translator.place;
    }

    public int told(int what) throws IllegalArgumentException {
        switch (what) {
            case 0:
                return program.blocks;
            case 1:
                return program.allCycles();
            case 2:
                return program.usedRegisters();
            case 3:
            case 4:
            case 5:
            case 6:
                return program.usedUnits(what - 3);
            default:
                throw new IllegalArgumentException();
        }
    }

    public int block(int block, int what) throws IndexOutOfBoundsException, IllegalArgumentException {
        if (block < 0 || block >= program.blocks) {
            throw new IndexOutOfBoundsException();
        }
        Block asked = program.block[block];
        switch (what) {
            case 0:
                return asked.cycles;
            case 1:
                return asked.many == 0 ? NONE : asked.first;
            case 2:
                return asked.many;
            case 3:
                return asked.so;
            case 4:
                return asked.otherwise;
            default:
                throw new IllegalArgumentException();
        }
    }

    public int operation(int i, int what) throws IndexOutOfBoundsException, IllegalArgumentException {
        if (i < 0 || i >= program.operations) {
            throw new IndexOutOfBoundsException();
        }
        Operation asked = program.operation[i];
        switch (what) {
            case 0:
                return asked.kind;
            case 1:
                return asked.block;
            case 2:
                return asked.begin;
            case 3:
                return asked.height;
            case 4:
                return asked.unit;
            case 5:
                return asked.register;
            default:
                throw new IllegalArgumentException();
        }
    }

    public int set(int variable, int v) throws IndexOutOfBoundsException {
        int was = get(variable);
        machine.variables[variable] = v;
        return was;
    }

    public int get(int variable) throws IndexOutOfBoundsException {
        if (variable < 0 || variable >= VARIABLES) {
            throw new IndexOutOfBoundsException();
        }
        return machine.variables[variable];
    }

    public int poke(int cell, int v) throws IndexOutOfBoundsException {
        int was = peek(cell);
        machine.cells[cell] = v;
        return was;
    }

    public int peek(int cell) throws IndexOutOfBoundsException {
        if (cell < 0 || cell >= CELLS) {
            throw new IndexOutOfBoundsException();
        }
        return machine.cells[cell];
    }

    public void restart() {
        machine.begin(program);
    }

    public int run(int n) throws IllegalArgumentException {
        if (n < 0 || n > MOST_DONE) {
            throw new IllegalArgumentException();
        }
        return machine.advance(n);
    }

    public int at() {
        return machine.next;
    }

    public long cycles() {
        return machine.done;
    }

    /** The bytes that were fed. */
    private static final class Tape {
        final int[] bytes;
        int length;

        Tape() {
            bytes = new int[MOST_BYTES];
        }

        boolean append(int n, long packed) {
            if (length + n > MOST_BYTES) {
                return false;
            }
            for (int i = 0; i < n; i++) {
                bytes[length + i] = (int) (packed >> (8 * i)) & 255;
            }
            length += n;
            return true;
        }

        int clear() {
            int had = length;
            length = 0;
            return had;
        }
    }

    /** Goes over the tape, sign by sign. */
    private static final class Reader {
        static final int END = -1;
        private static final int LAST_BLANK = 32;

        private final Tape tape;
        int place;

        Reader(Tape tape) {
            this.tape = tape;
        }

        void rewind() {
            place = 0;
        }

        /** Stands before the next byte that counts, and tells it. */
        int look() {
            for (; place < tape.length; place++) {
                if (tape.bytes[place] > LAST_BLANK) {
                    return tape.bytes[place];
                }
            }
            return END;
        }

        void pass(int bytes) {
            place += bytes;
        }

        boolean seesWord(String word) {
            look();
            if (lettersHere() != word.length()) {
                return false;
            }
            for (int i = 0; i < word.length(); i++) {
                if (tape.bytes[place + i] != word.charAt(i)) {
                    return false;
                }
            }
            return true;
        }

        /** The variable that comes next, NONE if something else does. */
        int seenVariable() {
            int variable = look() - 'a';
            boolean known = variable >= 0 && variable < VARIABLES && lettersHere() == 1;
            return known ? variable : NONE;
        }

        boolean seesFigure() {
            return isFigure(look());
        }

        boolean seesLetter() {
            return isLetter(look());
        }

        /** Reads figures; what is beyond an int stays just beyond it, however many follow. */
        long readNumber() {
            long number = 0;
            for (; place < tape.length && isFigure(tape.bytes[place]); place++) {
                number = Math.min(10 * number + tape.bytes[place] - '0', GREATEST_NUMBER + 1L);
            }
            return number;
        }

        private int lettersHere() {
            int end = place;
            while (end < tape.length && isLetter(tape.bytes[end])) {
                end++;
            }
            return end - place;
        }

        private static boolean isFigure(int sign) {
            return sign >= '0' && sign <= '9';
        }

        private static boolean isLetter(int sign) {
            return sign >= 'a' && sign <= 'z';
        }
    }

    /**
     * What an operation uses, as one int: numbers of the tape are never below 0, so that the ints
     * below it are free for variables and values of operations.
     */
    private static final class Operand {
        static final int UNUSED = 0;
        private static final int FIRST_VARIABLE = -1;
        private static final int FIRST_VALUE = FIRST_VARIABLE - VARIABLES;
        static final int BROKEN = FIRST_VALUE - MOST_OPERATIONS;

        private Operand() {
        }

        static int ofVariable(int variable) {
            return FIRST_VARIABLE - variable;
        }

        static int ofValue(int operation) {
            return FIRST_VALUE - operation;
        }

        static boolean isNumber(int operand) {
            return operand >= 0;
        }

        static boolean isValue(int operand) {
            return operand <= FIRST_VALUE && operand > BROKEN;
        }

        static int variableOf(int operand) {
            return FIRST_VARIABLE - operand;
        }

        static int operationOf(int operand) {
            return FIRST_VALUE - operand;
        }
    }

    /** An operation: what it does, and how it is laid. */
    private static final class Operation {
        int number;
        int sign;
        int kind;
        int left;
        int right;
        int gives;
        int block;

        int latency;
        int height;
        int begin;
        int unit;
        int register;

        int unbegun;
        int ready;
        int lastUse;

        void become(int sign, int left, int right) {
            this.sign = sign;
            this.left = left;
            this.right = right;
            kind = kindOf(sign);
            gives = NONE;
        }

        boolean hasBegun() {
            return begin != NONE;
        }

        int end() {
            return begin + latency;
        }

        boolean fillsRegister() {
            return gives == NONE && sign != WRITE;
        }

        /** Whether this one, which stands behind the other one in the block, must wait for it. */
        boolean comesBehind(Operation earlier) {
            return uses(Operand.ofValue(earlier.number))
                || touchesGiven(earlier)
                || earlier.usesGiven(this)
                || (sign == WRITE && earlier.kind == PORTS)
                || (earlier.sign == WRITE && kind == PORTS);
        }

        private boolean touchesGiven(Operation earlier) {
            return usesGiven(earlier) || (gives != NONE && gives == earlier.gives);
        }

        private boolean usesGiven(Operation giver) {
            return giver.gives != NONE && uses(Operand.ofVariable(giver.gives));
        }

        private boolean uses(int operand) {
            return left == operand || right == operand;
        }

        private static int kindOf(int sign) {
            switch (sign) {
                case '*':
                    return MULTIPLIERS;
                case READ:
                case WRITE:
                    return PORTS;
                case MOVE:
                    return MOVES;
                default:
                    return ADDERS;
            }
        }
    }

    /** A block: its operations, its E if it has one, and where it goes. */
    private static final class Block {
        int first;
        int many;
        boolean chooses;
        int choice;
        int so;
        int otherwise;
        int cycles;

        void become(int first) {
            this.first = first;
            many = 0;
            chooses = false;
            choice = Operand.UNUSED;
            so = NONE;
            otherwise = NONE;
        }
    }

    /** Operations and blocks, in rows that serve one program after the other. */
    private static final class Program {
        final Operation[] operation;
        final Block[] block;
        int operations;
        int blocks;

        Program() {
            operation = new Operation[MOST_OPERATIONS];
            for (int i = 0; i < MOST_OPERATIONS; i++) {
                operation[i] = new Operation();
                operation[i].number = i;
            }
            block = new Block[MOST_BLOCKS];
            for (int i = 0; i < MOST_BLOCKS; i++) {
                block[i] = new Block();
            }
        }

        void clear() {
            operations = 0;
            blocks = 0;
        }

        boolean isFull() {
            return operations == MOST_OPERATIONS;
        }

        Block addBlock() {
            Block added = block[blocks];
            added.become(operations);
            blocks++;
            return added;
        }

        /** Puts an operation into the last block. */
        Operation addOperation(int sign, int left, int right) {
            Operation added = operation[operations];
            added.become(sign, left, right);
            added.block = blocks - 1;
            block[blocks - 1].many++;
            operations++;
            return added;
        }

        int allCycles() {
            int all = 0;
            for (int i = 0; i < blocks; i++) {
                all += block[i].cycles;
            }
            return all;
        }

        int usedRegisters() {
            int greatest = NONE;
            for (int i = 0; i < operations; i++) {
                greatest = Math.max(greatest, operation[i].register);
            }
            return greatest + 1;
        }

        int usedUnits(int kind) {
            int greatest = NONE;
            for (int i = 0; i < operations; i++) {
                if (operation[i].kind == kind) {
                    greatest = Math.max(greatest, operation[i].unit);
                }
            }
            return greatest + 1;
        }
    }

    /**
     * Where blocks go. A way leads to a joint, a point between statements, as long as it is not
     * known whether a block begins there; a joint without one leads on to another joint.
     */
    private static final class Ways {
        private final int[] begins;
        private final int[] onward;
        private int joints;
        private Program program;
        private Block open;
        private int here;

        Ways() {
            begins = new int[MOST_JOINTS];
            onward = new int[MOST_JOINTS];
        }

        void start(Program program) {
            this.program = program;
            joints = 0;
            standAt(addJoint());
        }

        int addJoint() {
            int added = joints;
            begins[added] = NONE;
            onward[added] = NONE;
            joints++;
            return added;
        }

        void standAt(int joint) {
            here = joint;
            open = null;
        }

        /** A block begins only with what it gets, so that one that gets nothing is none. */
        void openBlock() {
            if (open == null) {
                begins[here] = program.blocks;
                open = program.addBlock();
            }
        }

        void choose(int choice, int so, int otherwise) {
            if (open != null) {
                open.chooses = true;
                open.choice = choice;
                open.so = so;
                open.otherwise = otherwise;
            }
        }

        void goTo(int joint) {
            if (open == null) {
                onward[here] = joint;
            } else {
                open.so = joint;
            }
        }

        /** Puts blocks for joints, once all of them are known. */
        void settle() {
            for (int i = 0; i < program.blocks; i++) {
                Block block = program.block[i];
                block.so = blockFrom(block.so);
                block.otherwise = blockFrom(block.otherwise);
            }
        }

        private int blockFrom(int joint) {
            int reached = joint;
            for (int i = 0; i < joints && reached != NONE; i++) {
                if (begins[reached] != NONE) {
                    return begins[reached];
                }
                reached = onward[reached];
            }
            return NONE;
        }
    }

    /**
     * Cuts the tape into operations and blocks. Its methods answer false, or BROKEN, once a fault
     * is met; the limits on open brackets and braces keep them from calling one another too deep.
     */
    private static final class Translator {
        private static final int MOST_BRACES = 10;
        private static final int MOST_BRACKETS = 20;

        private final Reader reader;
        private final Ways ways;
        private Program program;
        private int braces;
        private int brackets;
        int fault;
        int place;

        Translator(Tape tape) {
            reader = new Reader(tape);
            ways = new Ways();
            place = NONE;
        }

        boolean translate(Program into) {
            program = into;
            program.clear();
            reader.rewind();
            ways.start(program);
            braces = 0;
            brackets = 0;
            fault = 0;
            place = NONE;
            if (!statements() || !meets(Reader.END)) {
                return false;
            }
            ways.settle();
            return true;
        }

        /** Goes up to what begins no statement; whether that may stand there, the caller knows. */
        private boolean statements() {
            for (int i = 0; i < MOST_BYTES && reader.seesLetter(); i++) {
                if (!statement()) {
                    return false;
                }
            }
            return true;
        }

        private boolean statement() {
            if (reader.seesWord("if")) {
                return ifStatement();
            }
            if (reader.seesWord("while")) {
                return whileStatement();
            }
            if (reader.seesWord("m")) {
                return write();
            }
            int variable = reader.seenVariable();
            return variable == NONE ? refuseHere(STRAY) : assignment(variable);
        }

        private boolean assignment(int variable) {
            int start = reader.place;
            reader.pass(1);
            ways.openBlock();
            if (!passes('=')) {
                return false;
            }
            int value = expression();
            if (value == Operand.BROKEN || !passes(';')) {
                return false;
            }
            if (!Operand.isValue(value)) {
                value = add(MOVE, value, Operand.UNUSED, start);
            }
            if (value == Operand.BROKEN) {
                return false;
            }
            program.operation[Operand.operationOf(value)].gives = variable;
            return true;
        }

        private boolean write() {
            int start = reader.place;
            reader.pass(1);
            ways.openBlock();
            int index = enclosed('[', ']');
            if (index == Operand.BROKEN || !passes('=')) {
                return false;
            }
            int value = expression();
            if (value == Operand.BROKEN || !passes(';')) {
                return false;
            }
            return add(WRITE, index, value, start) != Operand.BROKEN;
        }

        private boolean ifStatement() {
            reader.pass(2);
            int inside = ways.addJoint();
            int otherwise = ways.addJoint();
            if (!choice(inside, otherwise) || !body(inside)) {
                return false;
            }
            if (!reader.seesWord("else")) {
                ways.goTo(otherwise);
                ways.standAt(otherwise);
                return true;
            }
            reader.pass(4);
            int behind = ways.addJoint();
            ways.goTo(behind);
            if (!body(otherwise)) {
                return false;
            }
            ways.goTo(behind);
            ways.standAt(behind);
            return true;
        }

        private boolean whileStatement() {
            reader.pass(5);
            int again = ways.addJoint();
            int inside = ways.addJoint();
            int behind = ways.addJoint();
            ways.goTo(again);
            ways.standAt(again);
            if (!choice(inside, behind) || !body(inside)) {
                return false;
            }
            ways.goTo(again);
            ways.standAt(behind);
            return true;
        }

        private boolean choice(int so, int otherwise) {
            ways.openBlock();
            int value = expression();
            if (value == Operand.BROKEN) {
                return false;
            }
            ways.choose(value, so, otherwise);
            return true;
        }

        private boolean body(int joint) {
            if (!meets('{')) {
                return false;
            }
            if (braces == MOST_BRACES) {
                return refuseHere(TOO_MANY);
            }
            braces++;
            reader.pass(1);
            ways.standAt(joint);
            if (!statements() || !passes('}')) {
                return false;
            }
            braces--;
            return true;
        }

        private int expression() {
            int left = sum();
            if (left == Operand.BROKEN) {
                return left;
            }
            int sign = reader.look();
            if (sign != '<' && sign != '=') {
                return left;
            }
            int start = reader.place;
            reader.pass(1);
            return add(sign, left, sum(), start);
        }

        private int sum() {
            int left = term();
            for (int i = 0; i < MOST_BYTES && left != Operand.BROKEN; i++) {
                int sign = reader.look();
                if (sign != '+' && sign != '-') {
                    return left;
                }
                int start = reader.place;
                reader.pass(1);
                left = add(sign, left, term(), start);
            }
            return left;
        }

        private int term() {
            int left = factor();
            for (int i = 0; i < MOST_BYTES && left != Operand.BROKEN; i++) {
                if (reader.look() != '*') {
                    return left;
                }
                int start = reader.place;
                reader.pass(1);
                left = add('*', left, factor(), start);
            }
            return left;
        }

        private int factor() {
            if (reader.look() == '(') {
                return enclosed('(', ')');
            }
            if (reader.seesFigure()) {
                return number();
            }
            if (reader.seesWord("m")) {
                return read();
            }
            int variable = reader.seenVariable();
            if (variable == NONE) {
                refuseHere(STRAY);
                return Operand.BROKEN;
            }
            reader.pass(1);
            return Operand.ofVariable(variable);
        }

        private int number() {
            int start = reader.place;
            long number = reader.readNumber();
            if (number > GREATEST_NUMBER) {
                refuse(TOO_GREAT, start);
                return Operand.BROKEN;
            }
            return (int) number;
        }

        private int read() {
            int start = reader.place;
            reader.pass(1);
            int index = enclosed('[', ']');
            return index == Operand.BROKEN ? index : add(READ, index, Operand.UNUSED, start);
        }

        private int enclosed(int opening, int closing) {
            if (!meets(opening)) {
                return Operand.BROKEN;
            }
            if (brackets == MOST_BRACKETS) {
                refuseHere(TOO_MANY);
                return Operand.BROKEN;
            }
            brackets++;
            reader.pass(1);
            int value = expression();
            if (value == Operand.BROKEN || !passes(closing)) {
                return Operand.BROKEN;
            }
            brackets--;
            return value;
        }

        /** Adds an operation, unless its right side is broken, and answers its value. */
        private int add(int sign, int left, int right, int start) {
            if (right == Operand.BROKEN) {
                return right;
            }
            if (program.isFull()) {
                refuse(TOO_MANY, start);
                return Operand.BROKEN;
            }
            return Operand.ofValue(program.addOperation(sign, left, right).number);
        }

        private boolean meets(int sign) {
            return reader.look() == sign || refuse(STRAY, reader.place);
        }

        private boolean passes(int sign) {
            if (!meets(sign)) {
                return false;
            }
            reader.pass(1);
            return true;
        }

        private boolean refuseHere(int why) {
            return refuse(why, reader.place);
        }

        private boolean refuse(int why, int where) {
            fault = why;
            place = where;
            return false;
        }
    }

    /** Lays operations of blocks into cycles, and binds them to units and registers. */
    private static final class Layer {
        private final int[] many;
        private final int[] latency;
        private final int[] unitFreeFrom;
        private final int[] registerHeldTo;
        private final Operation[] ranked;
        private int movesBegun;

        Layer() {
            many = new int[] {1, 1, 1};
            latency = new int[] {1, 1, 1, 1};
            unitFreeFrom = new int[MOVES * MOST_UNITS];
            registerHeldTo = new int[MOST_OPERATIONS];
            ranked = new Operation[MOST_OPERATIONS];
        }

        static boolean allows(int kind, int many, int latency) {
            return kind >= ADDERS && kind <= PORTS
                && many >= 1 && many <= MOST_UNITS
                && latency >= 1 && latency <= (kind == ADDERS ? 1 : MOST_LATENCY);
        }

        void supply(int kind, int many, int latency) {
            this.many[kind] = many;
            this.latency[kind] = latency;
        }

        void lay(Program program) {
            for (int i = 0; i < program.blocks; i++) {
                Block block = program.block[i];
                prepare(program, block);
                measureHeights(program, block);
                rank(program, block);
                beginAll(program, block);
                noteUses(program, block);
                bindRegisters(program, block);
            }
        }

        private void prepare(Program program, Block block) {
            for (int i = block.first; i < block.first + block.many; i++) {
                Operation operation = program.operation[i];
                operation.latency = latency[operation.kind];
                operation.begin = NONE;
                operation.register = NONE;
                operation.unbegun = 0;
                operation.ready = 0;
                operation.lastUse = NONE;
            }
            for (int i = 0; i < MOVES * MOST_UNITS; i++) {
                unitFreeFrom[i] = 0;
            }
            for (int i = 0; i < MOST_OPERATIONS; i++) {
                registerHeldTo[i] = NONE;
            }
        }

        /** Goes from the last one on, as a height needs those of all that come behind. */
        private void measureHeights(Program program, Block block) {
            int end = block.first + block.many;
            for (int i = end - 1; i >= block.first; i--) {
                Operation operation = program.operation[i];
                int above = 0;
                for (int j = i + 1; j < end; j++) {
                    Operation later = program.operation[j];
                    if (later.comesBehind(operation)) {
                        above = Math.max(above, later.height);
                        later.unbegun++;
                    }
                }
                operation.height = operation.latency + above;
            }
        }

        /** Sorts by insertion, so that those of the same height stay in the order of their numbers. */
        private void rank(Program program, Block block) {
            for (int i = 0; i < block.many; i++) {
                Operation operation = program.operation[block.first + i];
                int to = i;
                for (; to > 0 && ranked[to - 1].height < operation.height; to--) {
                    ranked[to] = ranked[to - 1];
                }
                ranked[to] = operation;
            }
        }

        private void beginAll(Program program, Block block) {
            block.cycles = 1;
            int begun = 0;
            // No cycle but the one behind the last end is without an operation at work.
            for (int cycle = 0; cycle < MOST_OPERATIONS * MOST_LATENCY && begun < block.many; cycle++) {
                movesBegun = 0;
                for (int i = 0; i < block.many; i++) {
                    if (begins(ranked[i], cycle)) {
                        begun++;
                        block.cycles = Math.max(block.cycles, ranked[i].end());
                        tellThoseBehind(program, block, ranked[i]);
                    }
                }
            }
        }

        private boolean begins(Operation operation, int cycle) {
            if (operation.hasBegun() || operation.unbegun > 0 || operation.ready > cycle) {
                return false;
            }
            int unit = operation.kind == MOVES ? movesBegun : freeUnit(operation.kind, cycle);
            if (unit == NONE) {
                return false;
            }
            operation.begin = cycle;
            operation.unit = unit;
            if (operation.kind == MOVES) {
                movesBegun++;
            } else {
                unitFreeFrom[operation.kind * MOST_UNITS + unit] = operation.end();
            }
            return true;
        }

        private int freeUnit(int kind, int cycle) {
            for (int unit = 0; unit < many[kind]; unit++) {
                if (unitFreeFrom[kind * MOST_UNITS + unit] <= cycle) {
                    return unit;
                }
            }
            return NONE;
        }

        private void tellThoseBehind(Program program, Block block, Operation begun) {
            for (int i = begun.number + 1; i < block.first + block.many; i++) {
                Operation later = program.operation[i];
                if (later.comesBehind(begun)) {
                    later.unbegun--;
                    later.ready = Math.max(later.ready, begun.end());
                }
            }
        }

        private void noteUses(Program program, Block block) {
            for (int i = block.first; i < block.first + block.many; i++) {
                Operation user = program.operation[i];
                noteUse(program, user.left, user.begin);
                noteUse(program, user.right, user.begin);
            }
            if (block.chooses) {
                noteUse(program, block.choice, block.cycles - 1);
            }
        }

        private void noteUse(Program program, int operand, int cycle) {
            if (Operand.isValue(operand)) {
                Operation used = program.operation[Operand.operationOf(operand)];
                used.lastUse = Math.max(used.lastUse, cycle);
            }
        }

        private void bindRegisters(Program program, Block block) {
            for (int cycle = 1; cycle <= block.cycles; cycle++) {
                for (int i = block.first; i < block.first + block.many; i++) {
                    Operation operation = program.operation[i];
                    if (operation.end() == cycle && operation.fillsRegister()) {
                        operation.register = freeRegister(cycle, operation.lastUse);
                    }
                }
            }
        }

        /** As values come by the cycle from which they are held, only the last holder matters. */
        private int freeRegister(int from, int to) {
            if (to < from) {
                return 0;
            }
            for (int register = 0; register < MOST_OPERATIONS; register++) {
                if (registerHeldTo[register] < from) {
                    registerHeldTo[register] = to;
                    return register;
                }
            }
            return NONE;
        }
    }

    /** Variables, memory, and where the machine stands in its program. */
    private static final class Machine {
        final int[] variables;
        final int[] cells;
        private final int[] values;
        private Program program;
        int next;
        long done;

        Machine() {
            variables = new int[VARIABLES];
            cells = new int[CELLS];
            values = new int[MOST_OPERATIONS];
        }

        void begin(Program program) {
            this.program = program;
            next = program.blocks > 0 ? 0 : NONE;
            done = 0;
        }

        int advance(int n) {
            int now = 0;
            // Every block has a cycle at least, so that no more than n blocks are done.
            for (int i = 0; i < n && now < n && next != NONE; i++) {
                Block block = program.block[next];
                perform(block);
                now += block.cycles;
            }
            done += now;
            return now;
        }

        /**
         * Does operations by their numbers: who uses or changes what another one gives or uses
         * begins only when that one has ended, so that doing them by cycles comes to the same.
         */
        private void perform(Block block) {
            for (int i = block.first; i < block.first + block.many; i++) {
                Operation operation = program.operation[i];
                values[i] = outcome(operation);
                if (operation.gives != NONE) {
                    variables[operation.gives] = values[i];
                }
            }
            boolean goesSo = !block.chooses || taken(block.choice) != 0;
            next = goesSo ? block.so : block.otherwise;
        }

        private int outcome(Operation operation) {
            int left = taken(operation.left);
            int right = taken(operation.right);
            switch (operation.sign) {
                case '+':
                    return left + right;
                case '-':
                    return left - right;
                case '*':
                    return left * right;
                case '<':
                    return left < right ? 1 : 0;
                case '=':
                    return left == right ? 1 : 0;
                case READ:
                    return cells[left & (CELLS - 1)];
                case WRITE:
                    cells[left & (CELLS - 1)] = right;
                    return right;
                default:
                    return left;
            }
        }

        private int taken(int operand) {
            if (Operand.isNumber(operand)) {
                return operand;
            }
            return Operand.isValue(operand)
                ? values[Operand.operationOf(operand)]
                : variables[Operand.variableOf(operand)];
        }
    }
}
