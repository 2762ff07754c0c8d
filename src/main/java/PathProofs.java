/**
 * A tree of paths with a digest, rows of octets that show parts of it, and a
 * reader that knows the digest alone. ../shared/DOC.md says what is promised.
 */
public final class PathProofs {
    public static final int BAD = -1, NONE = -2, FULL = -3, MISSING = -4;

    /** Also the most forks on a way: the bit of each is above that of the one before. */
    private static final int PATH_BITS = 16;
    private static final int LAST_PATH = 65535;
    private static final int MOST_LEAVES = 300;
    private static final int MOST_VERSIONS = 8;
    private static final int MOST_RANGES = 20;
    private static final int MOST_OCTETS = 4000;
    private static final int MOST_NODES = 700;
    private static final int TREE_OF_NOW = -1;

    private static final int TELLS_HIDDEN = 0, TELLS_FORK = 1, TELLS_LEAF = 2, TELLS_EMPTY = 3;

    private static final int ENDS_EARLY = 1, TELLS_NOTHING = 2, BAD_BIT = 3, BAD_FORK = 4;
    private static final int BAD_PATH = 5, OCTETS_BEHIND = 6, OTHER_DIGEST = 7;
    private static final int REFUSED = -10;

    private static final long FIRST_FACTOR = -7046029254386353131L;
    private static final long SECOND_FACTOR = -4658895280553007687L;

    private final Node[] kept = new Node[MOST_VERSIONS];
    private final Ranges wanted = new Ranges();
    private Node tree = new Empty();
    private int versions = 0;
    private Tape tape = new Tape();
    /** What is shown is laid here first, so that a tape that is too long leaves the old one as it is. */
    private Tape spare = new Tape();
    /** Null while there is no view. */
    private Node view = null;
    private int faultPlace = NONE;
    private long found = 0;

    public PathProofs() {
    }

    // ---- the tree

    public int put(int path, long value) {
        if (!isPath(path)) {
            return BAD;
        }
        boolean there = isLeafOf(endOfWay(tree, path), path);
        Node after = written(tree, new Leaf(path, value), 0);
        if (leavesWithin(after, 0, LAST_PATH, 0) > MOST_LEAVES) {
            return FULL;
        }
        tree = after;
        return there ? 0 : 1;
    }

    public int remove(int path) {
        if (!isPath(path)) {
            return BAD;
        }
        if (!isLeafOf(endOfWay(tree, path), path)) {
            return 0;
        }
        tree = erased(tree, path, 0);
        return 1;
    }

    public int keep() {
        if (versions >= MOST_VERSIONS) {
            return FULL;
        }
        // Nodes never change, so a version may share them with the tree.
        kept[versions] = tree;
        versions++;
        return versions - 1;
    }

    public long root(int version) {
        Node whole = wholeOf(version);
        return whole == null ? 0 : whole.digest;
    }

    public int leaves(int version) {
        Node whole = wholeOf(version);
        return whole == null ? BAD : leavesWithin(whole, 0, LAST_PATH, 0);
    }

    // ---- what is shown

    public int want(int from, int to) {
        if (!isRange(from, to)) {
            return BAD;
        }
        return wanted.add(from, to) ? wanted.size : FULL;
    }

    public int forget() {
        int were = wanted.size;
        wanted.size = 0;
        return were;
    }

    public int show(int version) {
        Node whole = wholeOf(version);
        return whole == null ? BAD : tapeBecomes(whole);
    }

    public int pass() {
        return view == null ? NONE : tapeBecomes(view);
    }

    // ---- the tape

    public int feed(int n, long v) {
        if (n < 1 || n > 8) {
            return BAD;
        }
        if (tape.length + n > MOST_OCTETS) {
            return FULL;
        }
        tape.append(n, v);
        return tape.length;
    }

    public int cut(int n) {
        if (n < 0 || n > tape.length) {
            return BAD;
        }
        int gone = tape.length - n;
        tape.length = n;
        return gone;
    }

    public int spoil(int i, int mask) {
        if (!tape.has(i) || mask < 0 || mask > 255) {
            return BAD;
        }
        tape.octets[i] ^= mask;
        return tape.octets[i];
    }

    // ---- the reader

    public int take(long digest) {
        Reading reading = new Reading(tape);
        Node whole = reading.wholeWith(digest);
        faultPlace = reading.faultPlace;
        if (whole == null) {
            return REFUSED - reading.fault;
        }
        view = whole;
        return nodesOf(whole, 0);
    }

    public int place() {
        return faultPlace;
    }

    public int get(int path) {
        found = 0;
        if (!isPath(path)) {
            return BAD;
        }
        if (view == null) {
            return NONE;
        }
        Node end = endOfWay(view, path);
        if (end instanceof Hidden) {
            return MISSING;
        }
        if (end instanceof Leaf leaf && leaf.path == path) {
            found = leaf.value;
            return 1;
        }
        return 0;
    }

    public long value() {
        return found;
    }

    public int write(int path, long value) {
        if (!isPath(path)) {
            return BAD;
        }
        if (view == null) {
            return NONE;
        }
        Node end = endOfWay(view, path);
        if (end instanceof Hidden) {
            return MISSING;
        }
        Node after = written(view, new Leaf(path, value), 0);
        if (nodesOf(after, 0) > MOST_NODES) {
            return FULL;
        }
        view = after;
        return isLeafOf(end, path) ? 0 : 1;
    }

    public int erase(int path) {
        if (!isPath(path)) {
            return BAD;
        }
        if (view == null) {
            return NONE;
        }
        Node end = endOfWay(view, path);
        if (end instanceof Hidden) {
            return MISSING;
        }
        if (!isLeafOf(end, path)) {
            return 0;
        }
        view = erased(view, path, 0);
        return 1;
    }

    public long view() {
        return view == null ? 0 : view.digest;
    }

    public int count(int from, int to) {
        if (!isRange(from, to)) {
            return BAD;
        }
        if (view == null) {
            return NONE;
        }
        if (hiddenOver(view, 0, LAST_PATH, from, to, 0) > 0) {
            return MISSING;
        }
        return leavesWithin(view, from, to, 0);
    }

    public int next(int from) {
        if (!isPath(from)) {
            return BAD;
        }
        return view == null ? NONE : leastFrom(view, LAST_PATH, from, 0);
    }

    public int told(int what) {
        switch (what) {
            case 0:
                return tape.length;
            case 1:
                return wanted.size;
            case 2:
                return versions;
            case 3:
                return nodesOf(view, 0);
            case 4:
                return hiddenOver(view, 0, LAST_PATH, 0, LAST_PATH, 0);
            case 5:
                return mostForks(tree, 0);
            default:
                return BAD;
        }
    }

    public int octet(int i) {
        return tape.has(i) ? tape.octets[i] : BAD;
    }

    // ---- paths

    private static boolean isPath(int path) {
        return path >= 0 && path <= LAST_PATH;
    }

    private static boolean isRange(int from, int to) {
        return isPath(from) && isPath(to) && from <= to;
    }

    private static boolean isHigh(int path, int bit) {
        return (path >>> PATH_BITS - 1 - bit & 1) == 1;
    }

    private static int stemOf(int path, int bit) {
        return path >>> PATH_BITS - bit << PATH_BITS - bit;
    }

    /** PATH_BITS if they do not differ. */
    private static int firstOtherBit(int path, int other) {
        int bit = 0;
        while (bit < PATH_BITS && isHigh(path, bit) == isHigh(other, bit)) {
            bit++;
        }
        return bit;
    }

    // ---- digests

    private static long mix(long h, long x) {
        long mixed = (h ^ x) * FIRST_FACTOR;
        mixed = (mixed ^ mixed >>> 29) * SECOND_FACTOR;
        return mixed ^ mixed >>> 32;
    }

    private static long emptyDigest() {
        return mix(0, 3);
    }

    private static long leafDigest(int path, long value) {
        return mix(mix(mix(0, 1), path), value);
    }

    private static long forkDigest(int bit, int stem, long low, long high) {
        return mix(mix(mix(mix(mix(0, 2), bit), stem), low), high);
    }

    // ---- nodes; none ever changes, so what is written or erased is made anew along its way

    /** Null: there is no such version. */
    private Node wholeOf(int version) {
        if (version == TREE_OF_NOW) {
            return tree;
        }
        return version >= 0 && version < versions ? kept[version] : null;
    }

    private static Node endOfWay(Node whole, int path) {
        Node at = whole;
        for (int depth = 0; depth < PATH_BITS; depth++) {
            if (at instanceof Fork fork && fork.takesIn(path)) {
                at = fork.toward(path);
            } else {
                return at;
            }
        }
        return at;
    }

    private static boolean isLeafOf(Node node, int path) {
        return node instanceof Leaf leaf && leaf.path == path;
    }

    /** The way to the leaf's path must not end at a hidden node: that one would be lost. */
    private static Node written(Node at, Leaf leaf, int depth) {
        if (at instanceof Fork fork) {
            if (fork.takesIn(leaf.path) && depth < PATH_BITS) {
                return fork.with(leaf.path, written(fork.toward(leaf.path), leaf, depth + 1));
            }
            return forkOf(fork, fork.stem, leaf);
        }
        if (at instanceof Leaf other && other.path != leaf.path) {
            return forkOf(other, other.path, leaf);
        }
        return leaf;
    }

    private static Node forkOf(Node node, int pathOfNode, Leaf leaf) {
        int bit = firstOtherBit(pathOfNode, leaf.path);
        int stem = stemOf(leaf.path, bit);
        if (isHigh(leaf.path, bit)) {
            return new Fork(bit, stem, node, leaf);
        }
        return new Fork(bit, stem, leaf, node);
    }

    /** The path must be there. */
    private static Node erased(Node at, int path, int depth) {
        if (at instanceof Fork fork) {
            Node below = fork.toward(path);
            if (below instanceof Fork && depth < PATH_BITS) {
                return fork.with(path, erased(below, path, depth + 1));
            }
            return fork.besides(path);
        }
        return new Empty();
    }

    private static int leavesWithin(Node at, int from, int to, int depth) {
        if (at instanceof Fork fork && depth < PATH_BITS) {
            return leavesWithin(fork.low, from, to, depth + 1) + leavesWithin(fork.high, from, to, depth + 1);
        }
        return at instanceof Leaf leaf && leaf.path >= from && leaf.path <= to ? 1 : 0;
    }

    private static int nodesOf(Node at, int depth) {
        if (at instanceof Fork fork && depth < PATH_BITS) {
            return 1 + nodesOf(fork.low, depth + 1) + nodesOf(fork.high, depth + 1);
        }
        return at == null ? 0 : 1;
    }

    private static int mostForks(Node at, int depth) {
        if (at instanceof Fork fork && depth < PATH_BITS) {
            return 1 + Math.max(mostForks(fork.low, depth + 1), mostForks(fork.high, depth + 1));
        }
        return 0;
    }

    /** How many hidden nodes have a path of from .. to in their place; first .. last is the place of the node. */
    private static int hiddenOver(Node at, int first, int last, int from, int to, int depth) {
        if (at instanceof Fork fork && depth < PATH_BITS) {
            return hiddenOver(fork.low, fork.stem, fork.middle() - 1, from, to, depth + 1)
                    + hiddenOver(fork.high, fork.middle(), fork.last(), from, to, depth + 1);
        }
        return at instanceof Hidden && first <= to && from <= last ? 1 : 0;
    }

    /**
     * Low before high goes through the paths in their order, so the first leaf or hidden node that
     * reaches up to from decides; last is the end of the node's place.
     */
    private static int leastFrom(Node at, int last, int from, int depth) {
        if (at instanceof Fork fork && depth < PATH_BITS) {
            int low = leastFrom(fork.low, fork.middle() - 1, from, depth + 1);
            return low == NONE ? leastFrom(fork.high, fork.last(), from, depth + 1) : low;
        }
        if (at instanceof Leaf leaf && leaf.path >= from) {
            return leaf.path;
        }
        return at instanceof Hidden && last >= from ? MISSING : NONE;
    }

    // ---- showing

    private int tapeBecomes(Node whole) {
        spare.length = 0;
        appendShown(whole, 0, LAST_PATH, 0);
        if (spare.length > MOST_OCTETS) {
            return FULL;
        }
        Tape old = tape;
        tape = spare;
        spare = old;
        return tape.length;
    }

    /** first .. last is the place of the node. */
    private void appendShown(Node at, int first, int last, int depth) {
        if (at instanceof Hidden || !wanted.meet(first, last)) {
            spare.append(1, TELLS_HIDDEN);
            spare.append(8, at.digest);
        } else if (at instanceof Fork fork && depth < PATH_BITS) {
            spare.append(1, TELLS_FORK);
            spare.append(1, fork.bit);
            spare.append(2, fork.stem);
            appendShown(fork.low, fork.stem, fork.middle() - 1, depth + 1);
            appendShown(fork.high, fork.middle(), fork.last(), depth + 1);
        } else if (at instanceof Leaf leaf) {
            spare.append(1, TELLS_LEAF);
            spare.append(2, leaf.path);
            spare.append(8, leaf.value);
        } else {
            spare.append(1, TELLS_EMPTY);
        }
    }

    private abstract static class Node {
        final long digest;

        Node(long digest) {
            this.digest = digest;
        }
    }

    private static final class Empty extends Node {
        Empty() {
            super(emptyDigest());
        }
    }

    private static final class Hidden extends Node {
        Hidden(long digest) {
            super(digest);
        }
    }

    private static final class Leaf extends Node {
        final int path;
        final long value;

        Leaf(int path, long value) {
            super(leafDigest(path, value));
            this.path = path;
            this.value = value;
        }
    }

    private static final class Fork extends Node {
        final int bit;
        final int stem;
        final Node low;
        final Node high;

        /** Neither node is null. */
        Fork(int bit, int stem, Node low, Node high) {
            super(forkDigest(bit, stem, low.digest, high.digest));
            this.bit = bit;
            this.stem = stem;
            this.low = low;
            this.high = high;
        }

        boolean takesIn(int path) {
            return stemOf(path, bit) == stem;
        }

        /** The first path of the high node's place. */
        int middle() {
            return stem + (1 << PATH_BITS - 1 - bit);
        }

        int last() {
            return stem + (1 << PATH_BITS - bit) - 1;
        }

        Node toward(int path) {
            return isHigh(path, bit) ? high : low;
        }

        Node besides(int path) {
            return isHigh(path, bit) ? low : high;
        }

        /** This fork with another node toward the path. */
        Fork with(int path, Node node) {
            if (isHigh(path, bit)) {
                return new Fork(bit, stem, low, node);
            }
            return new Fork(bit, stem, node, high);
        }
    }

    private static final class Ranges {
        private final int[] firsts = new int[MOST_RANGES];
        private final int[] lasts = new int[MOST_RANGES];
        int size = 0;

        boolean add(int from, int to) {
            if (size >= MOST_RANGES) {
                return false;
            }
            firsts[size] = from;
            lasts[size] = to;
            size++;
            return true;
        }

        /** Whether some range has a path of from .. to. */
        boolean meet(int from, int to) {
            for (int i = 0; i < size; i++) {
                if (firsts[i] <= to && from <= lasts[i]) {
                    return true;
                }
            }
            return false;
        }
    }

    private static final class Tape {
        final int[] octets = new int[MOST_OCTETS];
        int length = 0;

        boolean has(int i) {
            return i >= 0 && i < length && i < MOST_OCTETS;
        }

        /** Beyond its room a tape only counts: its length tells then that it is too long. */
        void append(int n, long v) {
            for (int k = n - 1; k >= 0; k--) {
                if (length < MOST_OCTETS) {
                    octets[length] = (int) (v >>> 8 * k) & 255;
                }
                length++;
            }
        }
    }

    /** One reading of a tape, up to its end or its first fault; a node that is null means a fault. */
    private static final class Reading {
        private final Tape tape;
        private int at = 0;
        int fault = 0;
        int faultPlace = NONE;

        Reading(Tape tape) {
            this.tape = tape;
        }

        Node wholeWith(long digest) {
            Node whole = readNode(0, LAST_PATH, 0);
            if (whole == null) {
                return null;
            }
            if (at < tape.length) {
                return refuse(OCTETS_BEHIND, at);
            }
            return whole.digest == digest ? whole : refuse(OTHER_DIGEST, 0);
        }

        /** first .. last is the place of the node. */
        private Node readNode(int first, int last, int depth) {
            if (lacks(1)) {
                return null;
            }
            switch ((int) number(1)) {
                case TELLS_HIDDEN:
                    return lacks(8) ? null : new Hidden(number(8));
                case TELLS_FORK:
                    return readFork(first, last, depth);
                case TELLS_LEAF:
                    return readLeaf(first, last);
                case TELLS_EMPTY:
                    return depth == 0 ? new Empty() : refuse(TELLS_NOTHING, at - 1);
                default:
                    return refuse(TELLS_NOTHING, at - 1);
            }
        }

        private Node readLeaf(int first, int last) {
            if (lacks(2)) {
                return null;
            }
            int path = (int) number(2);
            if (path < first || path > last) {
                return refuse(BAD_PATH, at - 2);
            }
            return lacks(8) ? null : new Leaf(path, number(8));
        }

        private Node readFork(int first, int last, int depth) {
            if (lacks(1)) {
                return null;
            }
            int bit = (int) number(1);
            if (bit >= PATH_BITS) {
                return refuse(BAD_BIT, at - 1);
            }
            if (lacks(2)) {
                return null;
            }
            int stem = (int) number(2);
            int half = 1 << PATH_BITS - 1 - bit;
            // A place of one path has no room for a fork, so the depth refuses nothing that the place lets through.
            if (stem != stemOf(stem, bit) || stem < first || stem + 2 * half - 1 > last || depth >= PATH_BITS) {
                return refuse(BAD_FORK, at - 2);
            }
            Node low = readNode(stem, stem + half - 1, depth + 1);
            if (low == null) {
                return null;
            }
            Node high = readNode(stem + half, stem + 2 * half - 1, depth + 1);
            return high == null ? null : new Fork(bit, stem, low, high);
        }

        private boolean lacks(int n) {
            if (tape.length - at >= n) {
                return false;
            }
            refuse(ENDS_EARLY, tape.length);
            return true;
        }

        private long number(int n) {
            long number = 0;
            for (int i = 0; i < n && tape.has(at); i++) {
                number = number << 8 | tape.octets[at];
                at++;
            }
            return number;
        }

        private Node refuse(int what, int where) {
            fault = what;
            faultPlace = where;
            return null;
        }
    }
}
