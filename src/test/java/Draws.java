/** Numbers that look drawn but are the same in every run. */
final class Draws {
    private long seed;

    Draws(long seed) {
        this.seed = seed;
    }

    int below(int n) {
        seed = seed * 6364136223846793005L + 1442695040888963407L;
        return (int) Math.floorMod(seed >>> 33, (long) n);
    }

    boolean oneIn(int n) {
        return below(n) == 0;
    }
}
