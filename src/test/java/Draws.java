/** Numbers by draws of a seed, always the same ones. */
final class Draws {
    private long state;

    Draws(int seed) {
        state = seed * 2654435761L + 88172645463325252L;
    }

    long nextLong() {
        state ^= state << 13;
        state ^= state >>> 7;
        state ^= state << 17;
        return state;
    }

    int nextInt() {
        return (int) (nextLong() >>> 20);
    }

    int nextInt(int n) {
        return (int) Math.floorMod(nextLong() >>> 20, (long) n);
    }

    boolean nextBoolean() {
        return nextInt(2) == 1;
    }
}
