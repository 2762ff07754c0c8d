/** The document's digests, for tests that work them out by hand. */
final class Digests {
    static final long EMPTY = mix(0, 3);

    private Digests() {
    }

    static long mix(long h, long x) {
        h = (h ^ x) * -7046029254386353131L;
        h = h ^ (h >>> 29);
        h = h * -4658895280553007687L;
        return h ^ (h >>> 32);
    }

    static long leaf(int path, long value) {
        return mix(mix(mix(0, 1), path), value);
    }

    static long fork(int bit, int stem, long low, long high) {
        return mix(mix(mix(mix(mix(0, 2), bit), stem), low), high);
    }
}
