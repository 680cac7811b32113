/** Numbers that look drawn by chance and are the same each time. */
final class Draws {
    private long state;

    Draws(long seed) {
        state = seed * 2862933555777941757L + 3037000493L;
    }

    /** 0 .. below - 1. */
    int below(int below) {
        state = state * 6364136223846793005L + 1442695040888963407L;
        return (int) Math.floorMod(state >>> 33, (long) below);
    }

    int from(int least, int most) {
        return least + below(most - least + 1);
    }

    boolean once(int in) {
        return below(in) == 0;
    }
}
