import java.util.ArrayList;
import java.util.List;
import java.util.Map;
import java.util.TreeMap;

/**
 * The document's words put into code as slowly and plainly as they stand, to compare PathProofs with:
 * the tree is a map whose nodes are built anew for each call, and places are laid out anew, too.
 */
final class Model {
    static final int BAD = -1, NONE = -2, FULL = -3, MISSING = -4;

    private enum Kind { HIDDEN, FORK, LEAF, EMPTY }

    private static final class Part {
        Kind kind;
        int bit;
        int stem;
        int path;
        long value;
        long toldDigest;
        Part low;
        Part high;
        int first;
        int last;

        Part(Kind kind) {
            this.kind = kind;
        }
    }

    private static final class Fault extends RuntimeException {
        private static final long serialVersionUID = 1;
        final int number;
        final int where;

        Fault(int number, int where) {
            super(null, null, false, false);
            this.number = number;
            this.where = where;
        }
    }

    private TreeMap<Integer, Long> tree = new TreeMap<>();
    private final List<TreeMap<Integer, Long>> versions = new ArrayList<>();
    private final List<int[]> wanted = new ArrayList<>();
    private List<Integer> tape = new ArrayList<>();
    private Part view = null;
    private int faultPlace = NONE;
    private long found = 0;
    private int at = 0;

    // ---- the tree

    int put(int path, long value) {
        if (path < 0 || path > 65535) {
            return BAD;
        }
        boolean there = tree.containsKey(path);
        if (!there && tree.size() == 300) {
            return FULL;
        }
        tree.put(path, value);
        return there ? 0 : 1;
    }

    int remove(int path) {
        if (path < 0 || path > 65535) {
            return BAD;
        }
        return tree.remove(path) == null ? 0 : 1;
    }

    int keep() {
        if (versions.size() == 8) {
            return FULL;
        }
        versions.add(new TreeMap<>(tree));
        return versions.size() - 1;
    }

    private TreeMap<Integer, Long> leavesOf(int version) {
        if (version == -1) {
            return tree;
        }
        return version >= 0 && version < versions.size() ? versions.get(version) : null;
    }

    long root(int version) {
        TreeMap<Integer, Long> leaves = leavesOf(version);
        return leaves == null ? 0 : digest(node(leaves));
    }

    int leaves(int version) {
        TreeMap<Integer, Long> leaves = leavesOf(version);
        return leaves == null ? BAD : leaves.size();
    }

    private static int bitOf(int path, int bit) {
        return path >> (15 - bit) & 1;
    }

    private static Part node(TreeMap<Integer, Long> leaves) {
        if (leaves.isEmpty()) {
            return new Part(Kind.EMPTY);
        }
        if (leaves.size() == 1) {
            Part leaf = new Part(Kind.LEAF);
            leaf.path = leaves.firstKey();
            leaf.value = leaves.get(leaf.path);
            return leaf;
        }
        Part fork = new Part(Kind.FORK);
        TreeMap<Integer, Long> low = new TreeMap<>();
        TreeMap<Integer, Long> high = new TreeMap<>();
        for (fork.bit = 0; low.isEmpty() || high.isEmpty(); fork.bit++) {
            low.clear();
            high.clear();
            for (Map.Entry<Integer, Long> leaf : leaves.entrySet()) {
                (bitOf(leaf.getKey(), fork.bit) == 0 ? low : high).put(leaf.getKey(), leaf.getValue());
            }
        }
        fork.bit--;
        for (int bit = 0; bit < fork.bit; bit++) {
            fork.stem += bitOf(leaves.firstKey(), bit) << (15 - bit);
        }
        fork.low = node(low);
        fork.high = node(high);
        return fork;
    }

    private static long mix(long h, long x) {
        h = (h ^ x) * -7046029254386353131L;
        h = h ^ (h >>> 29);
        h = h * -4658895280553007687L;
        return h ^ (h >>> 32);
    }

    private static long digest(Part part) {
        switch (part.kind) {
            case HIDDEN:
                return part.toldDigest;
            case EMPTY:
                return mix(0, 3);
            case LEAF:
                return mix(mix(mix(0, 1), part.path), part.value);
            default:
                return mix(mix(mix(mix(mix(0, 2), part.bit), part.stem), digest(part.low)), digest(part.high));
        }
    }

    // ---- what is shown

    int want(int from, int to) {
        if (from < 0 || to > 65535 || from > to) {
            return BAD;
        }
        if (wanted.size() == 20) {
            return FULL;
        }
        wanted.add(new int[] {from, to});
        return wanted.size();
    }

    int forget() {
        int were = wanted.size();
        wanted.clear();
        return were;
    }

    int show(int version) {
        TreeMap<Integer, Long> leaves = leavesOf(version);
        return leaves == null ? BAD : tapeBecomes(node(leaves));
    }

    int pass() {
        return view == null ? NONE : tapeBecomes(view);
    }

    private int tapeBecomes(Part whole) {
        List<Integer> row = new ArrayList<>();
        for (Part part : inOrder(whole)) {
            part.toldDigest = digest(part);
        }
        layOut(whole, row);
        if (row.size() > 4000) {
            return FULL;
        }
        tape = row;
        return row.size();
    }

    private void layOut(Part part, List<Integer> row) {
        boolean isWanted = false;
        for (int[] range : wanted) {
            isWanted |= Math.max(range[0], part.first) <= Math.min(range[1], part.last);
        }
        Kind kind = isWanted ? part.kind : Kind.HIDDEN;
        row.add(kind.ordinal());
        switch (kind) {
            case HIDDEN:
                number(row, 8, part.toldDigest);
                break;
            case FORK:
                number(row, 1, part.bit);
                number(row, 2, part.stem);
                layOut(part.low, row);
                layOut(part.high, row);
                break;
            case LEAF:
                number(row, 2, part.path);
                number(row, 8, part.value);
                break;
            default:
                break;
        }
    }

    private static void number(List<Integer> row, int n, long v) {
        for (int shift = 8 * n - 8; shift >= 0; shift -= 8) {
            row.add((int) (v >> shift & 255));
        }
    }

    /** All parts, low before high, a fork before both, with their places laid out. */
    private static List<Part> inOrder(Part whole) {
        List<Part> parts = new ArrayList<>();
        if (whole != null) {
            lay(whole, 0, 65535, parts);
        }
        return parts;
    }

    private static void lay(Part part, int first, int last, List<Part> parts) {
        part.first = first;
        part.last = last;
        parts.add(part);
        if (part.kind == Kind.FORK) {
            int size = 65536;
            for (int bit = 0; bit < part.bit; bit++) {
                size /= 2;
            }
            lay(part.low, part.stem, part.stem + size / 2 - 1, parts);
            lay(part.high, part.stem + size / 2, part.stem + size - 1, parts);
        }
    }

    // ---- the tape

    int feed(int n, long v) {
        if (n < 1 || n > 8) {
            return BAD;
        }
        if (tape.size() + n > 4000) {
            return FULL;
        }
        number(tape, n, v);
        return tape.size();
    }

    int cut(int n) {
        if (n < 0 || n > tape.size()) {
            return BAD;
        }
        int gone = tape.size() - n;
        tape = new ArrayList<>(tape.subList(0, n));
        return gone;
    }

    int spoil(int i, int mask) {
        if (i < 0 || i >= tape.size() || mask < 0 || mask > 255) {
            return BAD;
        }
        tape.set(i, tape.get(i) ^ mask);
        return tape.get(i);
    }

    int octet(int i) {
        return i < 0 || i >= tape.size() ? BAD : tape.get(i);
    }

    // ---- the reader

    int take(long digest) {
        try {
            at = 0;
            Part whole = read(0, 65535, true);
            if (at < tape.size()) {
                throw new Fault(6, at);
            }
            if (digest(whole) != digest) {
                throw new Fault(7, 0);
            }
            view = whole;
            faultPlace = NONE;
            return inOrder(view).size();
        } catch (Fault fault) {
            faultPlace = fault.where;
            return -10 - fault.number;
        }
    }

    private long read(int n) {
        long number = 0;
        for (int i = 0; i < n; i++) {
            if (at == tape.size()) {
                throw new Fault(1, at);
            }
            number = number * 256 + tape.get(at);
            at++;
        }
        return number;
    }

    private Part read(int first, int last, boolean isWhole) {
        int start = at;
        int kind = (int) read(1);
        if (kind > 3 || kind == 3 && !isWhole) {
            throw new Fault(2, start);
        }
        Part part = new Part(Kind.values()[kind]);
        if (part.kind == Kind.HIDDEN) {
            part.toldDigest = read(8);
        } else if (part.kind == Kind.LEAF) {
            part.path = (int) read(2);
            if (part.path < first || part.path > last) {
                throw new Fault(5, start + 1);
            }
            part.value = read(8);
        } else if (part.kind == Kind.FORK) {
            part.bit = (int) read(1);
            if (part.bit > 15) {
                throw new Fault(3, start + 1);
            }
            part.stem = (int) read(2);
            int size = (int) Math.pow(2, 16 - part.bit);
            if (part.stem % size != 0 || part.stem < first || part.stem + size - 1 > last) {
                throw new Fault(4, start + 2);
            }
            part.low = read(part.stem, part.stem + size / 2 - 1, false);
            part.high = read(part.stem + size / 2, part.stem + size - 1, false);
        }
        return part;
    }

    int place() {
        return faultPlace;
    }

    /** The parts on the way, the whole one first, the one where it ends last. */
    private List<Part> way(int path) {
        inOrder(view);
        List<Part> way = new ArrayList<>();
        Part on = view;
        while (on != null) {
            way.add(on);
            Part further = null;
            if (on.kind == Kind.FORK) {
                for (Part part : new Part[] {on.low, on.high}) {
                    if (part.first <= path && path <= part.last) {
                        further = part;
                    }
                }
            }
            on = further;
        }
        return way;
    }

    private int unable(int path) {
        if (path < 0 || path > 65535) {
            return BAD;
        }
        if (view == null) {
            return NONE;
        }
        List<Part> way = way(path);
        return way.get(way.size() - 1).kind == Kind.HIDDEN ? MISSING : 0;
    }

    int get(int path) {
        found = 0;
        int unable = unable(path);
        if (unable != 0) {
            return unable;
        }
        for (Part part : inOrder(view)) {
            if (part.kind == Kind.LEAF && part.path == path) {
                found = part.value;
                return 1;
            }
        }
        return 0;
    }

    long value() {
        return found;
    }

    int write(int path, long value) {
        int unable = unable(path);
        if (unable != 0) {
            return unable;
        }
        List<Part> way = way(path);
        Part end = way.get(way.size() - 1);
        if (end.kind == Kind.LEAF && end.path == path) {
            end.value = value;
            return 0;
        }
        Part leaf = new Part(Kind.LEAF);
        leaf.path = path;
        leaf.value = value;
        if (end.kind == Kind.EMPTY) {
            view = leaf;
            return 1;
        }
        if (inOrder(view).size() + 2 > 700) {
            return FULL;
        }
        int other = end.kind == Kind.LEAF ? end.path : end.stem;
        Part fork = new Part(Kind.FORK);
        while (bitOf(path, fork.bit) == bitOf(other, fork.bit)) {
            fork.stem += bitOf(path, fork.bit) << (15 - fork.bit);
            fork.bit++;
        }
        fork.low = bitOf(path, fork.bit) == 0 ? leaf : end;
        fork.high = bitOf(path, fork.bit) == 0 ? end : leaf;
        replace(way, way.size() - 1, fork);
        return 1;
    }

    int erase(int path) {
        int unable = unable(path);
        if (unable != 0) {
            return unable;
        }
        List<Part> way = way(path);
        Part end = way.get(way.size() - 1);
        if (end.kind != Kind.LEAF || end.path != path) {
            return 0;
        }
        if (way.size() == 1) {
            view = new Part(Kind.EMPTY);
        } else {
            Part above = way.get(way.size() - 2);
            replace(way, way.size() - 2, above.low == end ? above.high : above.low);
        }
        return 1;
    }

    private void replace(List<Part> way, int i, Part by) {
        if (i == 0) {
            view = by;
        } else if (way.get(i - 1).low == way.get(i)) {
            way.get(i - 1).low = by;
        } else {
            way.get(i - 1).high = by;
        }
    }

    long view() {
        return view == null ? 0 : digest(view);
    }

    int count(int from, int to) {
        if (from < 0 || to > 65535 || from > to) {
            return BAD;
        }
        if (view == null) {
            return NONE;
        }
        int leaves = 0;
        for (Part part : inOrder(view)) {
            if (part.kind == Kind.HIDDEN && part.last >= from && part.first <= to) {
                return MISSING;
            }
            leaves += part.kind == Kind.LEAF && part.path >= from && part.path <= to ? 1 : 0;
        }
        return leaves;
    }

    int next(int from) {
        if (from < 0 || from > 65535) {
            return BAD;
        }
        if (view == null) {
            return NONE;
        }
        int least = 65536;
        for (Part part : inOrder(view)) {
            if (part.kind == Kind.LEAF && part.path >= from) {
                least = Math.min(least, part.path);
            }
        }
        for (Part part : inOrder(view)) {
            if (part.kind == Kind.HIDDEN && Math.max(part.first, from) <= Math.min(part.last, least - 1)) {
                return MISSING;
            }
        }
        return least == 65536 ? NONE : least;
    }

    int told(int what) {
        if (what < 0 || what > 5) {
            return BAD;
        }
        int hidden = 0;
        for (Part part : inOrder(view)) {
            hidden += part.kind == Kind.HIDDEN ? 1 : 0;
        }
        int[] answers = {tape.size(), wanted.size(), versions.size(), inOrder(view).size(), hidden, forks(node(tree))};
        return answers[what];
    }

    private static int forks(Part part) {
        return part.kind == Kind.FORK ? 1 + Math.max(forks(part.low), forks(part.high)) : 0;
    }

    // ---- what the tests ask beside the document's calls

    int tapeLength() {
        return tape.size();
    }

    int pathInTree(int i) {
        int k = 0;
        for (int path : tree.keySet()) {
            if (k == i) {
                return path;
            }
            k++;
        }
        return 0;
    }
}
