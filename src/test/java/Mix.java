/** A row of numbers that looks mixed and is the same in each run of a test. */
final class Mix {
    private long seed;

    Mix(long seed) {
        this.seed = seed;
    }

    int below(int bound) {
        seed = seed * 6364136223846793005L + 1442695040888963407L;
        return (int) Math.floorMod(seed >>> 33, (long) bound);
    }
}
