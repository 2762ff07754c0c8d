/** The seven faults of a tape, each at its octet, and beside each the nearest tape that does not have it. */
public final class FaultEdgeTest {
    private static final Check CHECK = new Check("FaultEdgeTest");
    private static final long TWO_LEAVES = Digests.fork(0, 0, Digests.leaf(7, 1), Digests.leaf(65535, -1));

    public static void main(String[] args) {
        endsTooEarly();
        tellsNoneOfTheFour();
        emptyButAsTheWhole();
        for (int way = 0; way < 8; way++) {
            emptyOnAWay(way);
        }
        bitAbove15();
        for (int bit = 0; bit < 16; bit++) {
            stemHasOneFromBitOn(bit);
        }
        lowForkInItsPlace();
        highForkInItsPlace();
        noForkInAPlaceOfOnePath();
        for (int bit = 0; bit < 16; bit++) {
            pathInThePlaceOfALeaf(bit);
        }
        pathOfTheWholeLeaf();
        octetsBehindTheWhole();
        anotherDigest();
        theFirstThatIsMet();
        aTakenTapeHasNone();
        CHECK.end();
    }

    /** A reader that has a view already, which a tape that is refused must leave as it is. */
    private static Run run(String sentence) {
        Run run = new Run(CHECK, sentence);
        run.fork(0, 0);
        run.leaf(7, 1);
        run.leaf(65535, -1);
        run.take(TWO_LEAVES, 3);
        run.get(65535, 1);
        run.cutAll();
        return run;
    }

    private static void endsTooEarly() {
        Run empty = run("1 it ends too early (at its length): EMPTY");
        empty.fault(1, 0, Digests.EMPTY);
        empty.empty();
        empty.take(Digests.EMPTY, 1);
        Run hidden = run("1 it ends too early (at its length): HIDDEN");
        hidden.hidden(9);
        endsTooEarlyIfCut(hidden, 9, 9, 1);
        Run leaf = run("1 it ends too early (at its length): a LEAF");
        leaf.leaf(40000, -5);
        endsTooEarlyIfCut(leaf, 11, Digests.leaf(40000, -5), 1);
        Run fork = run("1 it ends too early (at its length): a FORK");
        fork.fork(3, 0x2000);
        fork.fork(15, 0x2000);
        fork.hidden(1);
        fork.leaf(0x2001, 1);
        fork.hidden(2);
        long inner = Digests.fork(15, 0x2000, 1, Digests.leaf(0x2001, 1));
        endsTooEarlyIfCut(fork, 37, Digests.fork(3, 0x2000, inner, 2), 5);
    }

    private static void endsTooEarlyIfCut(Run run, int length, long digest, int nodes) {
        run.take(digest, nodes);
        for (int shorter = length - 1; shorter >= 0; shorter--) {
            run.cut(shorter, 1);
            run.fault(1, shorter, digest);
        }
        run.told(3, nodes);
    }

    private static void tellsNoneOfTheFour() {
        for (int octet = 0; octet < 256; octet++) {
            Run run = run("2 an octet that tells none of the four (at it): " + octet);
            run.feed(1, octet, 1);
            if (octet < 3) {
                run.fault(1, 1);
            } else if (octet == 3) {
                run.fault(7, 0);
                run.take(Digests.EMPTY, 1);
            } else {
                run.fault(2, 0);
            }
            run.cutAll();
            run.fork(15, 8);
            run.feed(1, octet, 5);
            run.fault(octet < 3 ? 1 : 2, octet < 3 ? 5 : 4);
            run.cut(4, 1);
            run.leaf(8, 1);
            run.feed(1, octet, 16);
            run.fault(octet < 3 ? 1 : 2, octet < 3 ? 16 : 15);
        }
    }

    private static void emptyButAsTheWhole() {
        Run run = run("2 EMPTY but as the whole (at it)");
        run.fork(0, 0);
        run.empty();
        run.fault(2, 4);
        run.feed(8, 0, 13);
        run.fault(2, 4);
        run.cutAll();
        for (int bit = 0; bit < 16; bit++) {
            run.fork(bit, 0);
        }
        run.empty();
        run.fault(2, 64);
        run.cut(64, 1);
        run.leaf(0, 1);
        run.empty();
        run.fault(2, 75);
        run.cutAll();
        run.empty();
        run.take(Digests.EMPTY, 1);
    }

    /** Forks of the bits 0, 1 and 2, of which each goes on by its high node where the way has 1 in the bit. */
    private static void emptyOnAWay(int way) {
        Run run = run("2 EMPTY but as the whole (at it): on the way " + way);
        int stem = 0;
        int length = 0;
        for (int bit = 0; bit < 3; bit++) {
            boolean isHigh = (way >> 2 - bit & 1) == 1;
            run.fork(bit, stem);
            length += 4;
            if (isHigh) {
                run.hidden(bit);
                length += 9;
                stem += 0x8000 >> bit;
            }
            run.empty();
            run.fault(2, length);
            run.cut(length, 1);
        }
    }

    private static void bitAbove15() {
        for (int bit = 0; bit < 256; bit++) {
            Run run = run("3 a BIT above 15 (at it): " + bit);
            run.feed(1, 1, 1);
            run.feed(1, bit, 2);
            run.fault(bit > 15 ? 3 : 1, bit > 15 ? 1 : 2);
            run.feed(2, 0, 4);
            run.fault(bit > 15 ? 3 : 1, bit > 15 ? 1 : 4);
            run.cutAll();
            run.fork(0, 0);
            run.hidden(1);
            run.feed(1, 1, 14);
            run.feed(1, bit, 15);
            run.fault(bit > 15 ? 3 : 1, bit > 15 ? 14 : 15);
        }
    }

    private static void stemHasOneFromBitOn(int bit) {
        Run run = run("4 the STEM has 1 from BIT on (at the STEM's first octet): BIT " + bit);
        int before = 0xFFFF & ~0xFFFF >> bit;
        run.fork(bit, before);
        run.fault(1, 4);
        run.cutAll();
        run.fork(bit, 0);
        run.fault(1, 4);
        for (int one = bit; one < 16; one++) {
            run.cutAll();
            run.fork(bit, 0x8000 >> one);
            run.fault(4, 2);
            run.cutAll();
            run.fork(bit, before | 0x8000 >> one);
            run.fault(4, 2);
        }
        run.cutAll();
        run.fork(bit, before);
        run.hidden(1);
        run.hidden(2);
        run.take(Digests.fork(bit, before, 1, 2), 3);
    }

    /** The fork above takes in 0x1000 .. 0x1FFF. */
    private static void lowForkInItsPlace() {
        Run run = run("4 what it takes in is not all in its PLACE: the LOW NODE's, 0x1000 .. 0x17FF");
        run.fork(4, 0x1000);
        int[][] inside = {{5, 0x1000}, {6, 0x1000}, {6, 0x1400}, {15, 0x1000}, {15, 0x17FE}};
        for (int[] fork : inside) {
            run.fork(fork[0], fork[1]);
            run.fault(1, 8);
            run.cut(4, 4);
        }
        int[][] outside = {{4, 0x1000}, {3, 0x0000}, {0, 0}, {5, 0x0800}, {5, 0x1800}, {6, 0x0C00}, {6, 0x1800},
            {15, 0x0FFE}, {15, 0x1800}, {15, 0}, {15, 0xFFFE}};
        for (int[] fork : outside) {
            run.fork(fork[0], fork[1]);
            run.fault(4, 6);
            run.cut(4, 4);
        }
        run.fork(5, 0x1000);
        run.hidden(1);
        run.hidden(2);
        run.hidden(3);
        run.take(Digests.fork(4, 0x1000, Digests.fork(5, 0x1000, 1, 2), 3), 5);
    }

    private static void highForkInItsPlace() {
        Run run = run("4 what it takes in is not all in its PLACE: the HIGH NODE's, 0x1800 .. 0x1FFF");
        run.fork(4, 0x1000);
        run.hidden(1);
        int[][] inside = {{5, 0x1800}, {6, 0x1800}, {6, 0x1C00}, {15, 0x1800}, {15, 0x1FFE}};
        for (int[] fork : inside) {
            run.fork(fork[0], fork[1]);
            run.fault(1, 17);
            run.cut(13, 4);
        }
        int[][] outside = {{4, 0x1000}, {3, 0x0000}, {0, 0}, {5, 0x1000}, {5, 0x2000}, {6, 0x1400}, {6, 0x2000},
            {15, 0x17FE}, {15, 0x2000}, {15, 0}, {15, 0xFFFE}};
        for (int[] fork : outside) {
            run.fork(fork[0], fork[1]);
            run.fault(4, 15);
            run.cut(13, 4);
        }
        run.fork(5, 0x1800);
        run.hidden(2);
        run.hidden(3);
        run.take(Digests.fork(4, 0x1000, 1, Digests.fork(5, 0x1800, 2, 3)), 5);
    }

    private static void noForkInAPlaceOfOnePath() {
        Run run = run("4 what it takes in is not all in its PLACE: a PLACE of one PATH");
        run.fork(15, 6);
        run.fork(15, 6);
        run.fault(4, 6);
        run.cut(4, 4);
        run.leaf(6, 1);
        run.fork(15, 6);
        run.fault(4, 17);
        run.cut(15, 4);
        run.leaf(7, 1);
        run.take(Digests.fork(15, 6, Digests.leaf(6, 1), Digests.leaf(7, 1)), 3);
    }

    private static void pathInThePlaceOfALeaf(int bit) {
        Run run = run("5 a PATH that is not in the LEAF's PLACE (at its first octet): below BIT " + bit);
        int size = 1 << 16 - bit;
        int stem = bit == 0 ? 0 : 0xB6DB & -size;
        int middle = stem + size / 2;
        int last = stem + size - 1;
        run.fork(bit, stem);
        leafIs(run, 4, stem, true);
        leafIs(run, 4, middle - 1, true);
        leafIs(run, 4, middle, false);
        leafIs(run, 4, last, false);
        if (stem > 0) {
            leafIs(run, 4, stem - 1, false);
            leafIs(run, 4, 0, false);
        }
        run.hidden(1);
        leafIs(run, 13, middle, true);
        leafIs(run, 13, last, true);
        leafIs(run, 13, middle - 1, false);
        leafIs(run, 13, stem, false);
        if (last < 65535) {
            leafIs(run, 13, last + 1, false);
            leafIs(run, 13, 65535, false);
        }
        run.leaf(last, 8);
        run.take(Digests.fork(bit, stem, 1, Digests.leaf(last, 8)), 3);
    }

    /** The path is judged before the value is read. */
    private static void leafIs(Run run, int at, int path, boolean inItsPlace) {
        run.feed(3, 2 << 16 | path, at + 3);
        run.fault(inItsPlace ? 1 : 5, inItsPlace ? at + 3 : at + 1);
        run.cut(at, 3);
    }

    private static void pathOfTheWholeLeaf() {
        int[] paths = {0, 1, 255, 256, 32767, 32768, 65534, 65535};
        for (int path : paths) {
            Run run = run("5 the whole LEAF's PLACE has every PATH: " + path);
            run.leaf(path, 3);
            run.take(Digests.leaf(path, 3), 1);
            run.get(path, 1);
        }
    }

    private static void octetsBehindTheWhole() {
        Run run = run("6 octets behind the whole (at the first one)");
        run.empty();
        run.take(Digests.EMPTY, 1);
        run.feed(1, 3, 2);
        run.fault(6, 1, Digests.EMPTY);
        run.cutAll();
        run.hidden(5);
        run.feed(1, 0, 10);
        run.fault(6, 9, 5);
        run.feed(8, 5, 18);
        run.fault(6, 9, 5);
        run.cut(9, 9);
        run.take(5, 1);
        run.cutAll();
        run.leaf(9, 5);
        run.feed(1, 255, 12);
        run.fault(6, 11, Digests.leaf(9, 5));
        run.cut(11, 1);
        run.take(Digests.leaf(9, 5), 1);
        run.cutAll();
        run.fork(15, 8);
        run.leaf(8, 5);
        run.leaf(9, 5);
        run.feed(1, 1, 27);
        long digest = Digests.fork(15, 8, Digests.leaf(8, 5), Digests.leaf(9, 5));
        run.fault(6, 26, digest);
        run.cut(26, 1);
        run.take(digest, 3);
    }

    private static void anotherDigest() {
        Run run = run("7 another DIGEST (at 0)");
        run.fork(15, 8);
        run.leaf(8, 5);
        run.hidden(77);
        long digest = Digests.fork(15, 8, Digests.leaf(8, 5), 77);
        for (int bit = 0; bit < 64; bit++) {
            run.fault(7, 0, digest ^ 1L << bit);
        }
        run.fault(7, 0, digest + 1);
        run.fault(7, 0, digest - 1);
        run.take(digest, 3);
        for (int octet = 7; octet < 24; octet++) {
            if (octet != 15) {
                run.spoil(octet, 1, octet == 14 ? 4 : octet == 23 ? 76 : 1);
                run.fault(7, 0, digest);
                run.spoil(octet, 1, octet == 14 ? 5 : octet == 23 ? 77 : 0);
            }
        }
        run.take(digest, 3);
    }

    private static void theFirstThatIsMet() {
        Run run = run("the first that is met, octet by octet");
        run.feed(4, 0x01100001, 4);
        run.fault(3, 1);
        run.cutAll();
        run.fork(8, 0x0001);
        run.feed(1, 4, 5);
        run.fault(4, 2);
        run.cutAll();
        run.fork(8, 0);
        run.leaf(0x80, 1);
        run.feed(1, 4, 16);
        run.fault(5, 5);
        run.cut(4, 12);
        run.leaf(0x7F, 1);
        run.feed(1, 4, 16);
        run.fault(2, 15);
        run.feed(8, 4, 24);
        run.fault(2, 15);
        run.cut(15, 9);
        run.leaf(0x100, 1);
        run.feed(1, 4, 27);
        run.fault(5, 16);
        run.cut(15, 12);
        run.leaf(0xFF, 1);
        run.feed(1, 4, 27);
        run.fault(6, 26);
        run.cut(26, 1);
        run.fault(7, 0);
    }

    private static void aTakenTapeHasNone() {
        Run run = run("NONE: it had none, or there was none");
        run.place(PathProofs.NONE);
        run.fault(1, 0);
        run.hidden(5);
        run.take(5, 1);
        run.place(PathProofs.NONE);
        run.fault(7, 0, 6);
        run.take(5, 1);
        run.place(PathProofs.NONE);
    }
}
