/** Numbers that look thrown, the same in every run. */
final class Dice {
    private long state;

    Dice(long seed) {
        state = seed;
    }

    /** One of 0 .. below - 1. */
    int next(int below) {
        state = state * 6364136223846793005L + 1442695040888963407L;
        return (int) ((state >>> 33) % below);
    }

    boolean oneIn(int many) {
        return next(many) == 0;
    }
}
