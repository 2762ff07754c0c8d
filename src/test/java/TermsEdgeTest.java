/** The boundaries that the document's "Terms" name, but for those of the faults: each sentence has its own test. */
public final class TermsEdgeTest {
    private static final Check CHECK = new Check("TermsEdgeTest");
    private static final int BAD = PathProofs.BAD, NONE = PathProofs.NONE;
    private static final int FULL = PathProofs.FULL, MISSING = PathProofs.MISSING;
    /** Beside the nearest ones those that would be 0, 5 or 65535 if only 16 bits of them were looked at. */
    private static final int[] NO_PATHS = {-1, 65536, -65536, 65541, -65531, 131071,
        Integer.MIN_VALUE, Integer.MIN_VALUE + 5, Integer.MAX_VALUE};

    public static void main(String[] args) {
        pathsOfTheTree();
        pathsOfRanges();
        pathsOfTheView();
        bitsOfPaths();
        values();
        noTwoLeavesWithOnePath();
        nodesByNumberOfLeaves();
        placeOfTheWhole();
        for (int bit = 0; bit < 16; bit++) {
            placesOfAFork(bit);
        }
        digests();
        hiddenJustIfNotWanted();
        wantedAtMost20();
        theView();
        theWay();
        for (int bit = 0; bit < 16; bit++) {
            writtenBesideALeaf(bit);
            writtenBesideAFork(bit);
        }
        writtenToEmptyAndWhatIsThere();
        erased();
        badComesFirst();
        noneBeforeTheRest();
        missingBeforeFull();
        callNumber512();
        CHECK.end();
    }

    private static Run run(String sentence) {
        return new Run(CHECK, sentence);
    }

    private static void pathsOfTheTree() {
        Run run = run("PATHS are 0 .. 65535, in THE TREE");
        run.same().remove(0, 0);
        run.same().remove(65535, 0);
        run.put(0, 10, 1);
        run.root(-1, Digests.leaf(0, 10));
        run.put(65535, 20, 1);
        run.root(-1, Digests.fork(0, 0, Digests.leaf(0, 10), Digests.leaf(65535, 20)));
        run.put(5, 30, 1);
        for (int path : NO_PATHS) {
            run.same().put(path, 1, BAD);
            run.same().remove(path, BAD);
        }
        run.leaves(-1, 3);
        run.remove(65535, 1);
        run.remove(0, 1);
        run.root(-1, Digests.leaf(5, 30));
    }

    private static void pathsOfRanges() {
        Run run = run("WANTED are RANGES of PATHS");
        run.put(0, 1, 1);
        run.put(5, 1, 1);
        run.put(65535, 1, 1);
        for (int path : NO_PATHS) {
            run.same().want(path, 65535, BAD);
            run.same().want(path, path, BAD);
            run.same().want(0, path, BAD);
            run.same().want(5, path, BAD);
        }
        run.show(-1, 9);
        run.want(0, 0, 1);
        run.show(-1, 4 + (4 + 11 + 9) + 9);
        run.want(65535, 65535, 2);
        run.show(-1, 4 + (4 + 11 + 9) + 11);
        run.want(0, 65535, 3);
        run.show(-1, 4 + (4 + 11 + 11) + 11);
    }

    private static void pathsOfTheView() {
        Run run = run("PATHS are 0 .. 65535, in THE VIEW");
        run.fork(0, 0);
        run.leaf(0, 10);
        run.leaf(65535, 20);
        run.take(Digests.fork(0, 0, Digests.leaf(0, 10), Digests.leaf(65535, 20)), 3);
        run.write(5, 30, 1);
        for (int path : NO_PATHS) {
            run.same().get(path, BAD);
            run.same().write(path, 1, BAD);
            run.same().erase(path, BAD);
            run.same().next(path, BAD);
            run.same().count(path, 65535, BAD);
            run.same().count(path, path, BAD);
            run.same().count(0, path, BAD);
        }
        run.get(0, 1);
        run.value(10);
        run.get(65535, 1);
        run.value(20);
        run.count(0, 0, 1);
        run.count(65535, 65535, 1);
        run.count(0, 65535, 3);
        run.next(0, 0);
        run.next(65535, 65535);
        run.write(0, 11, 0);
        run.write(65535, 21, 0);
        run.erase(0, 1);
        run.erase(65535, 1);
        run.view(Digests.leaf(5, 30));
        run.write(65535, 22, 1);
        run.write(0, 12, 1);
        run.count(0, 65535, 3);
    }

    private static void bitsOfPaths() {
        for (int bit = 0; bit < 16; bit++) {
            Run run = run("bit 0 is the highest one, bit 15 the lowest: bit " + bit);
            int path = 0x5A5A;
            int stem = path & ~0 << 16 - bit;
            run.want(0, 65535, 1);
            run.put(path, 1, 1);
            run.put(path ^ 0x8000 >> bit, 1, 1);
            run.show(-1, 26);
            run.octet(1, bit);
            run.octet(2, stem >> 8);
            run.octet(3, stem & 255);
            // The least path of the two is the low one: it has 0 in the bit.
            run.octet(6, (path & ~(0x8000 >> bit)) & 255);
            run.octet(17, (path | 0x8000 >> bit) & 255);
        }
    }

    private static void values() {
        long[] values = {0, 1, -1, 127, 128, 255, 256, Integer.MAX_VALUE, 1L << 31, 1L << 32, -1L << 32,
            Long.MAX_VALUE, Long.MIN_VALUE, 0x8070605040302010L};
        for (long value : values) {
            Run run = run("VALUES are longs: " + value);
            run.want(0, 65535, 1);
            run.put(300, value, 1);
            run.root(-1, Digests.leaf(300, value));
            run.show(-1, 11);
            for (int k = 0; k < 8; k++) {
                run.octet(3 + k, (int) (value >>> 56 - 8 * k & 255));
            }
            run.take(Digests.leaf(300, value), 1);
            run.get(300, 1);
            run.value(value);
            run.write(300, ~value, 0);
            run.get(300, 1);
            run.value(~value);
            run.view(Digests.leaf(300, ~value));
        }
    }

    private static void noTwoLeavesWithOnePath() {
        Run run = run("no two with one PATH");
        run.put(300, 1, 1);
        run.leaves(-1, 1);
        run.put(300, 2, 0);
        run.leaves(-1, 1);
        run.root(-1, Digests.leaf(300, 2));
        run.put(301, 2, 1);
        run.put(300, 3, 0);
        run.put(301, 4, 0);
        run.leaves(-1, 2);
        run.root(-1, Digests.fork(15, 300, Digests.leaf(300, 3), Digests.leaf(301, 4)));
        run.remove(300, 1);
        run.same().remove(300, 0);
        run.leaves(-1, 1);
    }

    private static void nodesByNumberOfLeaves() {
        Run run = run("without LEAVES it is EMPTY; one LEAF is that LEAF; two and more are a FORK");
        run.want(0, 65535, 1);
        run.root(-1, Digests.EMPTY);
        run.show(-1, 1);
        run.octet(0, 3);
        run.put(7, 1, 1);
        run.root(-1, Digests.leaf(7, 1));
        run.show(-1, 11);
        run.octet(0, 2);
        run.put(6, 2, 1);
        run.root(-1, Digests.fork(15, 6, Digests.leaf(6, 2), Digests.leaf(7, 1)));
        run.show(-1, 26);
        run.octet(0, 1);
        run.put(4, 3, 1);
        long two = Digests.fork(15, 6, Digests.leaf(6, 2), Digests.leaf(7, 1));
        run.root(-1, Digests.fork(14, 4, Digests.leaf(4, 3), two));
        run.remove(4, 1);
        run.root(-1, two);
        run.remove(7, 1);
        run.root(-1, Digests.leaf(6, 2));
        run.remove(6, 1);
        run.root(-1, Digests.EMPTY);
        run.show(-1, 1);
        run.octet(0, 3);
    }

    private static void placeOfTheWhole() {
        int[] paths = {0, 1, 32767, 32768, 65534, 65535};
        for (int path : paths) {
            Run run = run("that of the whole NODE is 0 .. 65535: " + path);
            run.show(-1, 9);
            run.want(path, path, 1);
            run.show(-1, 1);
            run.put(40000, 1, 1);
            run.show(-1, 11);
            run.put(40001, 1, 1);
            run.show(-1, 4 + 9 + 9);
        }
    }

    /** Leaves in the first and the last path of what the fork takes in; the fork is the whole node. */
    private static void placesOfAFork(int bit) {
        Run run = run("the first half is the PLACE of its LOW NODE, the second half that of its HIGH one: BIT " + bit);
        int size = 1 << 16 - bit;
        int stem = bit == 0 ? 0 : 0x6DB6 & -size;
        int last = stem + size - 1;
        int middle = stem + size / 2;
        int bothHidden = 4 + 9 + 9;
        int oneHidden = 4 + 11 + 9;
        run.put(stem, 1, 1);
        run.put(last, 2, 1);
        showsWith(run, stem, oneHidden, 2);
        showsWith(run, middle - 1, oneHidden, 2);
        showsWith(run, middle, oneHidden, 0);
        showsWith(run, last, oneHidden, 0);
        if (stem > 0) {
            showsWith(run, stem - 1, bothHidden, 0);
        }
        if (last < 65535) {
            showsWith(run, last + 1, bothHidden, 0);
        }
        run.want(middle - 1, middle, 1);
        run.show(-1, 4 + 11 + 11);
        run.forget(1);
        if (stem > 0 && last < 65535) {
            run.want(0, stem - 1, 1);
            run.want(last + 1, 65535, 2);
            run.show(-1, bothHidden);
            run.want(0, stem, 3);
            run.show(-1, oneHidden);
            run.want(last, 65535, 4);
            run.show(-1, 4 + 11 + 11);
        }
    }

    private static void showsWith(Run run, int path, int octets, int kindOfLow) {
        run.want(path, path, 1);
        run.show(-1, octets);
        run.octet(4, kindOfLow);
        run.forget(1);
    }

    /** The numbers were worked out apart, without a limit of 64 bits before each step's end. */
    private static void digests() {
        Run run = run("DIGESTS are longs (64 bits, round)");
        run.root(-1, -1535350771747007001L);
        run.put(0, Long.MIN_VALUE, 1);
        run.root(-1, -1866586208767525141L);
        run.put(0, 0, 0);
        run.root(-1, -971380214056041081L);
        run.put(65534, 0, 1);
        run.remove(0, 1);
        run.put(65535, Long.MAX_VALUE, 1);
        run.remove(65534, 1);
        run.root(-1, 7528572094432802520L);
        run.put(65535, -1, 0);
        run.root(-1, 8423778089544740668L);
        run.put(65534, 0, 1);
        run.root(-1, -4290080334087710890L);
        run.put(0, 0, 1);
        run.root(-1, -3876300104275585396L);
        run.want(0, 65535, 1);
        run.show(-1, 41);
        run.take(-3876300104275585396L, 5);
        run.erase(0, 1);
        run.view(-4290080334087710890L);
    }

    private static void hiddenJustIfNotWanted() {
        Run run = run("what is in it is not SHOWN at all then");
        run.put(0, 1, 1);
        run.put(1, 1, 1);
        run.put(2, 1, 1);
        run.put(65535, 9, 1);
        long two = Digests.fork(15, 0, Digests.leaf(0, 1), Digests.leaf(1, 1));
        long three = Digests.fork(14, 0, two, Digests.leaf(2, 1));
        run.want(32768, 32768, 1);
        run.show(-1, 4 + 9 + 11);
        run.octet(4, 0);
        for (int k = 0; k < 8; k++) {
            run.octet(5 + k, (int) (three >>> 56 - 8 * k & 255));
        }
        run.octet(13, 2);
        run.want(32767, 32767, 2);
        run.show(-1, 4 + (4 + 9 + 9) + 11);
        run.want(3, 3, 3);
        run.show(-1, 4 + (4 + 9 + 11) + 11);
        run.want(1, 1, 4);
        run.show(-1, 4 + (4 + (4 + 9 + 11) + 11) + 11);
        run.want(0, 0, 5);
        run.show(-1, 4 + (4 + (4 + 11 + 11) + 11) + 11);
    }

    private static void wantedAtMost20() {
        Run run = run("WANTED are RANGES of PATHS, 20 at most");
        for (int i = 0; i < 32; i++) {
            run.put(2048 * i, i, 1);
        }
        for (int i = 0; i < 19; i++) {
            run.want(2048 * i, 2048 * i, i + 1);
        }
        run.told(1, 19);
        run.show(-1, 21 * 4 + 19 * 11 + 3 * 9);
        run.want(2048 * 19, 2048 * 19, 20);
        run.told(1, 20);
        run.show(-1, 21 * 4 + 20 * 11 + 2 * 9);
        run.same().want(2048 * 20, 2048 * 20, FULL);
        run.same().want(0, 65535, FULL);
        run.same().want(0, 0, FULL);
        run.show(-1, 21 * 4 + 20 * 11 + 2 * 9);
        run.forget(20);
        run.want(0, 65535, 1);
        run.show(-1, 31 * 4 + 32 * 11);
    }

    private static void theView() {
        Run run = run("THE READER has THE VIEW, at first none");
        run.put(5, 50, 1);
        run.same().get(5, NONE);
        run.same().pass(NONE);
        run.told(3, 0);
        run.view(0);
        run.want(5, 5, 1);
        run.show(-1, 11);
        run.told(3, 0);
        run.same().get(5, NONE);
        run.take(Digests.leaf(5, 50), 1);
        run.told(3, 1);
        run.get(5, 1);
        run.value(50);
    }

    /** The fork takes in 0x1200 .. 0x12FF; its low node is hidden. */
    private static void theWay() {
        Run run = run("THE WAY ends at a FORK that does not take it in, another LEAF, EMPTY, a HIDDEN one");
        run.fork(8, 0x1200);
        run.hidden(7);
        run.leaf(0x12F0, 3);
        run.take(Digests.fork(8, 0x1200, 7, Digests.leaf(0x12F0, 3)), 3);
        run.same().get(0x11FF, 0);
        run.same().get(0x1200, MISSING);
        run.same().get(0x127F, MISSING);
        run.same().get(0x1280, 0);
        run.same().get(0x12EF, 0);
        run.get(0x12F0, 1);
        run.get(0x12F1, 0);
        run.same().get(0x12FF, 0);
        run.same().get(0x1300, 0);
        run.same().get(0, 0);
        run.same().get(65535, 0);
        run.same().erase(0x11FF, 0);
        run.same().erase(0x1200, MISSING);
        run.same().erase(0x127F, MISSING);
        run.same().erase(0x1280, 0);
        run.same().erase(0x1300, 0);
        run.same().write(0x1200, 1, MISSING);
        run.same().write(0x127F, 1, MISSING);
        run.cutAll();
        run.empty();
        run.take(Digests.EMPTY, 1);
        run.same().get(0x1200, 0);
        run.same().erase(0x1200, 0);
    }

    private static void writtenBesideALeaf(int bit) {
        Run run = run("the first bit in which the PATH and the other LEAF's PATH differ: " + bit);
        int path = 0x6DB6;
        // All bits behind the first other one differ, too: only the first counts.
        int other = path ^ (1 << 16 - bit) - 1;
        int stem = bit == 0 ? 0 : path & -(1 << 16 - bit);
        long low = Digests.leaf(Math.min(path, other), 4);
        long high = Digests.leaf(Math.max(path, other), 4);
        long due = Digests.fork(bit, stem, low, high);
        run.leaf(path, 4);
        run.take(Digests.leaf(path, 4), 1);
        run.write(other, 4, 1);
        run.view(due);
        run.told(3, 3);
        run.put(other, 4, 1);
        run.put(path, 4, 1);
        run.root(-1, due);
    }

    /** The other fork is of bit 15, or that of the bit itself if it is 15: then the path is in it. */
    private static void writtenBesideAFork(int bit) {
        Run run = run("the first bit in which the PATH and the other FORK's STEM differ: " + bit);
        int stem = 0x6DB6;
        long fork = Digests.fork(15, stem, 71, 72);
        run.fork(15, stem);
        run.hidden(71);
        run.hidden(72);
        run.take(fork, 3);
        int path = stem ^ 0x8000 >> bit;
        if (bit == 15) {
            run.same().write(path, 4, MISSING);
            run.same().write(stem, 4, MISSING);
            return;
        }
        int above = bit == 0 ? 0 : stem & -(1 << 16 - bit);
        long leaf = Digests.leaf(path, 4);
        run.write(path, 4, 1);
        run.view(path < stem ? Digests.fork(bit, above, leaf, fork) : Digests.fork(bit, above, fork, leaf));
        run.told(3, 5);
        run.told(4, 2);
        run.get(path, 1);
        run.erase(path, 1);
        run.view(fork);
    }

    private static void writtenToEmptyAndWhatIsThere() {
        Run run = run("if it is there, its LEAF has the VALUE; EMPTY becomes that LEAF");
        run.empty();
        run.take(Digests.EMPTY, 1);
        run.told(3, 1);
        run.write(9, 1, 1);
        run.told(3, 1);
        run.view(Digests.leaf(9, 1));
        run.write(9, 2, 0);
        run.told(3, 1);
        run.view(Digests.leaf(9, 2));
        run.write(9, 2, 0);
        run.view(Digests.leaf(9, 2));
    }

    private static void erased() {
        Run run = run("the FORK above its LEAF becomes its other NODE, HIDDEN ones, too; the whole NODE, EMPTY");
        long inner = Digests.fork(9, 0x1200, 71, Digests.leaf(0x1240, 4));
        run.fork(8, 0x1200);
        run.fork(9, 0x1200);
        run.hidden(71);
        run.leaf(0x1240, 4);
        run.leaf(0x12F0, 3);
        run.take(Digests.fork(8, 0x1200, inner, Digests.leaf(0x12F0, 3)), 5);
        run.erase(0x1240, 1);
        run.view(Digests.fork(8, 0x1200, 71, Digests.leaf(0x12F0, 3)));
        run.told(3, 3);
        run.told(4, 1);
        run.same().get(0x1240, MISSING);
        run.same().erase(0x1240, MISSING);
        run.erase(0x12F0, 1);
        run.view(71);
        run.told(3, 1);
        run.told(4, 1);
        run.same().get(0x12F0, MISSING);
        run.same().erase(0, MISSING);
        run.take(Digests.fork(8, 0x1200, inner, Digests.leaf(0x12F0, 3)), 5);
        run.erase(0x12F0, 1);
        run.view(inner);
        run.cutAll();
        run.leaf(0x12F0, 3);
        run.take(Digests.leaf(0x12F0, 3), 1);
        run.same().erase(0x12F1, 0);
        run.erase(0x12F0, 1);
        run.view(Digests.EMPTY);
        run.told(3, 1);
        run.told(4, 0);
        run.same().erase(0x12F0, 0);
    }

    private static void badComesFirst() {
        Run run = run("of several the first in this order: BAD before NONE");
        run.same().get(65536, BAD);
        run.same().write(65536, 1, BAD);
        run.same().erase(-1, BAD);
        run.same().count(5, 4, BAD);
        run.same().next(65536, BAD);
        Run hidden = run("of several the first in this order: BAD before MISSING");
        hidden.hidden(5);
        hidden.take(5, 1);
        hidden.same().get(-1, BAD);
        hidden.same().write(-1, 1, BAD);
        hidden.same().erase(65536, BAD);
        hidden.same().count(5, 4, BAD);
        hidden.same().next(-1, BAD);
    }

    private static void noneBeforeTheRest() {
        Run run = run("NONE: there is no VIEW");
        run.put(5, 1, 1);
        run.same().get(5, NONE);
        run.same().write(5, 1, NONE);
        run.same().erase(5, NONE);
        run.same().count(5, 5, NONE);
        run.same().next(5, NONE);
        run.same().pass(NONE);
        run.fault(1, 0);
        run.same().get(5, NONE);
        run.same().pass(NONE);
        run.empty();
        run.take(Digests.EMPTY, 1);
        run.get(5, 0);
        run.count(5, 5, 0);
        run.erase(5, 0);
        run.pass(9);
        run.write(5, 1, 1);
    }

    private static void missingBeforeFull() {
        Run run = run("of several the first in this order: MISSING before FULL");
        run.fork(0, 0);
        run.hidden(5);
        run.leaf(32768, 0);
        run.take(Digests.fork(0, 0, 5, Digests.leaf(32768, 0)), 3);
        for (int i = 1; i <= 348; i++) {
            run.write(32768 + i, i, 1);
        }
        run.told(3, 699);
        run.same().write(32767, 1, MISSING);
        run.same().write(32768 + 349, 1, FULL);
        run.same().write(65536, 1, BAD);
        run.write(32768, 9, 0);
    }

    private static void callNumber512() {
        Run run = run("an object is used for at most 512 calls");
        for (int i = 0; i < 300; i++) {
            run.put(i, i, 1);
        }
        for (int i = 0; i < 200; i++) {
            run.remove(i, 1);
        }
        run.want(0, 65535, 1);
        run.show(-1, 100 * 11 + 99 * 4);
        for (int i = 503; i < 512; i++) {
            run.leaves(-1, 100);
        }
        run.told(5, 7);
    }
}
