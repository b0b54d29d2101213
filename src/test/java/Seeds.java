/** Seeds by which the weeks to come do what a test wants. */
final class Seeds {
    static final long FACTOR = 6364136223846793005L, MORE = 1442695040888963407L;

    private Seeds() {
    }

    /** The seed that becomes x. */
    static long before(long x) {
        long inverse = 1;
        // Each step makes twice as many bits right.
        for (int i = 0; i < 64; i++) {
            inverse *= 2 - FACTOR * inverse;
        }
        return (x - MORE) * inverse;
    }

    /** The seed by which the first week's upper 31 bits are a number, the lower ones 0. */
    static long beforeUpper(long upper) {
        return before(upper << 33);
    }

    /** A seed by which the first weeks' doings are these. */
    static long beforeAll(int... doings) {
        for (long low = 0; low < 40000000; low++) {
            long seed = low * 7046029254386353131L;
            long x = seed;
            int place = 0;
            while (place < doings.length) {
                x = x * FACTOR + MORE;
                if ((x >>> 33) % 28 != doings[place]) {
                    break;
                }
                place++;
            }
            if (place == doings.length) {
                return seed;
            }
        }
        throw new IllegalStateException("no such seed");
    }
}
