/** All that an object tells without being changed, as one text: what stands alike tells the same. */
final class Standing {
    private final CycleSynthesis x;
    private final StringBuilder text = new StringBuilder();

    private Standing(CycleSynthesis x) {
        this.x = x;
    }

    /** Takes 35 calls, 5 for each block and 6 for each operation. */
    static String of(CycleSynthesis x) {
        Standing standing = new Standing(x);
        standing.tellProgram();
        standing.tellMachine();
        return standing.text.toString();
    }

    /** The same, without what compile() tells of its fault. */
    static String ofMachine(CycleSynthesis x) {
        String all = of(x);
        return all.substring(0, all.indexOf("fault"));
    }

    private void tellProgram() {
        for (int what = 0; what <= 6; what++) {
            tell("told", x.told(what));
        }
        int operations = 0;
        for (int block = 0; block < x.told(0); block++) {
            for (int what = 0; what <= 4; what++) {
                tell("block", x.block(block, what));
            }
            operations += x.block(block, 2);
        }
        for (int i = 0; i < operations; i++) {
            for (int what = 0; what <= 5; what++) {
                tell("operation", x.operation(i, what));
            }
        }
    }

    private void tellMachine() {
        for (int variable = 0; variable < 8; variable++) {
            tell("variable", x.get(variable));
        }
        for (int cell = 0; cell < 16; cell++) {
            tell("cell", x.peek(cell));
        }
        tell("at", x.at());
        tell("cycles", x.cycles());
        tell("fault", x.fault());
        tell("place", x.place());
    }

    private void tell(String what, long answer) {
        text.append(what).append(' ').append(answer).append(' ');
    }
}
