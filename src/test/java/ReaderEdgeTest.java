/** Promises 14 to 23: each sentence that names a boundary has its own test. */
public final class ReaderEdgeTest {
    private static final Check CHECK = new Check("ReaderEdgeTest");
    private static final int BAD = PathProofs.BAD, NONE = PathProofs.NONE;
    private static final int FULL = PathProofs.FULL, MISSING = PathProofs.MISSING;

    public static void main(String[] args) {
        takeHowManyNodes();
        takeFullestTape();
        takeTapeStays();
        takeViewStays();
        takeDigestIsAnyLong();
        placeOfTheLatest();
        placeStaysThroughOtherCalls();
        getThereOrNot();
        getNoneAndMissing();
        valueBeforeAny();
        valueOfTheLatest();
        valueStaysThroughOtherCalls();
        writeNewOrThere();
        writeFullMoreThan700();
        writeFullWithHidden();
        writeFullOfTheDeepestView();
        eraseThereOrNot();
        eraseOfAFullView();
        viewZeroWithoutOne();
        countBad();
        countNoneAndEmpty();
        countFromTo();
        countMissing();
        countMissingOfALowNode();
        nextFromOrMore();
        nextNone();
        nextMissing();
        nextMissingOfALowNode();
        toldBad();
        toldOctetsRangesVersions();
        toldNodesAndHidden();
        toldMostForks();
        int[] paths = {0, 0xFFFF, 0x5A5A, 0x8001};
        for (int path : paths) {
            deepestWay(path);
        }
        CHECK.end();
    }

    private static Run run(String sentence) {
        return new Run(CHECK, sentence);
    }

    /**
     * The low fork takes in 0x1000 .. 0x100F: the leaf 0x1003, and 0x1008 .. 0x100F hidden; the high one is a leaf.
     * A tree, a version, a range and a fault are there, too, so that it would be seen if a call lost them.
     */
    private static Run withView(String sentence) {
        Run run = run(sentence);
        run.put(0x1003, 3, 1);
        run.keep(0);
        run.put(0x1004, 4, 1);
        run.want(0x1004, 0x1004, 1);
        run.fork(0, 0);
        run.fork(12, 0x1000);
        run.leaf(0x1003, 30);
        run.hidden(99);
        run.leaf(0x9000, 40);
        run.take(viewDigest(), 5);
        run.feed(1, 0, 40);
        run.take(viewDigest(), -16);
        run.cut(39, 1);
        return run;
    }

    private static long viewDigest() {
        return Digests.fork(0, 0, Digests.fork(12, 0x1000, Digests.leaf(0x1003, 30), 99), Digests.leaf(0x9000, 40));
    }

    private static void takeHowManyNodes() {
        Run run = run("take: how many NODES THE VIEW has then, HIDDEN ones too");
        run.empty();
        run.take(Digests.EMPTY, 1);
        run.told(3, 1);
        run.told(4, 0);
        run.cutAll();
        run.hidden(5);
        run.take(5, 1);
        run.told(3, 1);
        run.told(4, 1);
        run.cutAll();
        run.leaf(5, 5);
        run.take(Digests.leaf(5, 5), 1);
        run.told(3, 1);
        run.told(4, 0);
        run.cutAll();
        run.fork(15, 4);
        run.hidden(4);
        run.hidden(5);
        run.take(Digests.fork(15, 4, 4, 5), 3);
        run.told(3, 3);
        run.told(4, 2);
        run.cutAll();
        run.fork(14, 4);
        run.fork(15, 4);
        run.hidden(4);
        run.leaf(5, 5);
        run.hidden(6);
        run.take(Digests.fork(14, 4, Digests.fork(15, 4, 4, Digests.leaf(5, 5)), 6), 5);
        run.told(3, 5);
        run.told(4, 2);
    }

    /** 307 forks and 308 hidden ones have just 4000 octets: no tape can tell more nodes. */
    private static void takeFullestTape() {
        Run run = run("take: 4000 octets, 615 NODES");
        StringBuilder octets = new StringBuilder();
        long digest = appendHidden(octets, 0, 0, 308);
        for (int i = 0; i < 4000; i += 8) {
            long v = 0;
            for (int k = 0; k < 8; k++) {
                v = v << 8 | octets.charAt(i + k);
            }
            run.feed(8, v, i + 8);
        }
        run.sameButPlace().take(digest + 1, -17);
        run.take(digest, 615);
        run.place(NONE);
        run.told(3, 615);
        run.told(4, 308);
        run.cut(3999, 1);
        run.fault(1, 3999, digest);
    }

    /** A fork with so many hidden nodes, as octets; or one hidden node. */
    private static long appendHidden(StringBuilder octets, int bit, int stem, int ends) {
        if (ends == 1) {
            long digest = stem * 0x9E3779B97F4A7C15L;
            octets.append('\0');
            for (int k = 0; k < 8; k++) {
                octets.append((char) (digest >>> 56 - 8 * k & 255));
            }
            return digest;
        }
        octets.append('\1').append((char) bit).append((char) (stem >> 8)).append((char) (stem & 255));
        long low = appendHidden(octets, bit + 1, stem, ends / 2);
        return Digests.fork(bit, stem, low, appendHidden(octets, bit + 1, stem + (0x8000 >> bit), ends - ends / 2));
    }

    private static void takeTapeStays() {
        Run run = run("take: THE TAPE (which stays)");
        run.fork(15, 8);
        run.hidden(-1);
        run.leaf(9, 5);
        run.take(Digests.fork(15, 8, -1, Digests.leaf(9, 5)), 3);
        run.tapeIs(1, 15, 0, 8, 0, 255, 255, 255, 255, 255, 255, 255, 255, 2, 0, 9, 0, 0, 0, 0, 0, 0, 0, 5);
        run.same().take(Digests.fork(15, 8, -1, Digests.leaf(9, 5)), 3);
        run.fault(7, 0);
        run.tapeIs(1, 15, 0, 8, 0, 255, 255, 255, 255, 255, 255, 255, 255, 2, 0, 9, 0, 0, 0, 0, 0, 0, 0, 5);
        run.write(9, 6, 0);
        run.octet(23, 5);
        run.spoil(23, 7, 2);
        run.get(9, 1);
        run.value(6);
    }

    private static void takeViewStays() {
        Run run = withView("take: -10 less the FAULT (THE VIEW stays)");
        run.spoil(0, 4, 5);
        run.fault(2, 0, viewDigest());
        run.spoil(0, 4, 1);
        run.spoil(1, 16, 16);
        run.fault(3, 1, viewDigest());
        run.spoil(1, 16, 0);
        run.spoil(3, 1, 1);
        run.fault(4, 2, viewDigest());
        run.spoil(3, 1, 0);
        run.spoil(10, 8, 11);
        run.fault(5, 9, viewDigest());
        run.spoil(10, 8, 3);
        run.feed(1, 0, 40);
        run.fault(6, 39, viewDigest());
        run.cut(38, 2);
        run.fault(1, 38, viewDigest());
        run.feed(1, 41, 39);
        run.fault(7, 0, viewDigest());
        run.view(viewDigest());
        run.get(0x9000, 1);
        run.value(40);
        run.fault(7, 0, viewDigest());
        run.value(40);
        run.take(Digests.fork(0, 0, Digests.fork(12, 0x1000, Digests.leaf(0x1003, 30), 99),
                Digests.leaf(0x9000, 41)), 5);
        run.get(0x9000, 1);
        run.value(41);
    }

    private static void takeDigestIsAnyLong() {
        long[] digests = {0, 1, -1, Long.MIN_VALUE, Long.MAX_VALUE, 1L << 32, 255, 0xFF00000000000000L};
        for (long digest : digests) {
            Run run = run("take: DIGESTS are longs: " + digest);
            run.hidden(digest);
            run.fault(7, 0, ~digest);
            run.take(digest, 1);
            run.view(digest);
            run.told(3, 1);
        }
    }

    private static void placeOfTheLatest() {
        Run run = run("place: where the FAULT of the latest take() was; NONE: it had none, or there was none");
        run.same().place(NONE);
        run.fault(1, 0);
        run.same().place(0);
        run.show(-1, 9);
        run.place(0);
        run.cutAll();
        run.feed(2, 0x0110, 2);
        run.place(0);
        run.fault(3, 1);
        run.cutAll();
        run.place(1);
        run.empty();
        run.place(1);
        run.take(Digests.EMPTY, 1);
        run.same().place(NONE);
        run.feed(1, 1, 2);
        run.fault(6, 1);
        run.get(5, 0);
        run.write(5, 5, 1);
        run.place(1);
    }

    private static void placeStaysThroughOtherCalls() {
        Run run = withView("place: that of the latest take(), whatever else was called");
        otherCalls(run);
        run.get(0x9000, 1);
        run.place(39);
        run.get(0x9001, 0);
        run.place(39);
    }

    private static void valueStaysThroughOtherCalls() {
        Run run = withView("value: that of the latest get(), whatever else was called");
        run.get(0x9000, 1);
        otherCalls(run);
        run.value(40);
        run.sameButPlace().take(0, -12);
        run.value(40);
        run.place(0);
        run.value(40);
    }

    /** All calls but take(), get() and value(), and after each the place of the fault of withView(). */
    private static void otherCalls(Run run) {
        run.put(7, 7, 1);
        run.place(39);
        run.remove(7, 1);
        run.place(39);
        run.keep(1);
        run.place(39);
        run.root(-1, Digests.fork(13, 0x1000, Digests.leaf(0x1003, 3), Digests.leaf(0x1004, 4)));
        run.leaves(-1, 2);
        run.place(39);
        run.want(0x1003, 0x1003, 2);
        run.place(39);
        run.show(-1, 26);
        run.place(39);
        run.pass(4 + (4 + 11 + 9) + 9);
        run.place(39);
        run.forget(2);
        run.place(39);
        run.feed(1, 1, 38);
        run.place(39);
        run.spoil(0, 6, 7);
        run.place(39);
        run.cut(36, 2);
        run.place(39);
        run.octet(0, 7);
        run.write(0x9000, 41, 0);
        run.place(39);
        run.write(0x9001, 42, 1);
        run.place(39);
        run.erase(0x9001, 1);
        run.place(39);
        run.view(Digests.fork(0, 0, Digests.fork(12, 0x1000, Digests.leaf(0x1003, 30), 99), Digests.leaf(0x9000, 41)));
        run.count(0x1010, 65535, 1);
        run.next(0, 0x1003);
        run.told(0, 36);
        run.place(39);
        run.write(0x9000, 40, 0);
    }

    private static void getThereOrNot() {
        Run run = withView("get: whether a PATH is there in THE VIEW: 1, 0");
        run.same().get(0x1002, 0);
        run.get(0x1003, 1);
        run.value(30);
        run.get(0x1004, 0);
        run.same().get(0x1000, 0);
        run.same().get(0x1007, 0);
        run.same().get(0x0FFF, 0);
        run.same().get(0x1010, 0);
        run.same().get(0x8FFF, 0);
        run.get(0x9000, 1);
        run.value(40);
        run.get(0x9001, 0);
        run.same().get(0, 0);
        run.same().get(65535, 0);
    }

    private static void getNoneAndMissing() {
        Run run = withView("get: BAD, NONE, MISSING");
        run.same().get(0x1007, 0);
        run.same().get(0x1008, MISSING);
        run.same().get(0x100F, MISSING);
        run.same().get(0x1010, 0);
        run.same().get(-1, BAD);
        run.same().get(65536, BAD);
        run.same().get(0x1003 + 65536, BAD);
        Run none = run("get: NONE");
        none.put(7, 1, 1);
        none.same().get(7, NONE);
        none.same().get(65535, NONE);
        none.same().get(65536, BAD);
    }

    private static void valueBeforeAny() {
        Run run = withView("value: 0 when it did not answer 1, and before any");
        run.same().value(0);
        run.get(0x9000, 1);
        run.same().value(40);
        run.get(0x9001, 0);
        run.same().value(0);
        run.get(0x9000, 1);
        run.get(0x1008, MISSING);
        run.same().value(0);
        run.get(0x9000, 1);
        run.get(65536, BAD);
        run.same().value(0);
        Run none = run("value: 0 when get() answered NONE");
        none.same().value(0);
        none.same().get(5, NONE);
        none.same().value(0);
    }

    private static void valueOfTheLatest() {
        Run run = withView("value: the VALUE that the latest get() found");
        run.get(0x9000, 1);
        run.write(0x9000, 41, 0);
        run.value(40);
        run.get(0x1003, 1);
        run.value(30);
        run.erase(0x1003, 1);
        run.value(30);
        run.take(viewDigest(), 5);
        run.value(30);
        run.write(0x9000, 0, 0);
        run.get(0x9000, 1);
        run.value(0);
        run.write(0x9000, Long.MIN_VALUE, 0);
        run.get(0x9000, 1);
        run.value(Long.MIN_VALUE);
    }

    private static void writeNewOrThere() {
        Run run = withView("write: 1 it is new, 0 it was there");
        run.write(0x9000, 40, 0);
        run.view(viewDigest());
        run.write(0x9000, 41, 0);
        run.told(3, 5);
        run.write(0x9001, 42, 1);
        run.told(3, 7);
        run.write(0x9001, 43, 0);
        run.told(3, 7);
        run.same().write(0x1008, 1, MISSING);
        run.same().write(0x100F, 1, MISSING);
        run.same().write(-1, 1, BAD);
        run.same().write(65536, 1, BAD);
        run.write(0x1007, 1, 1);
        run.write(0x1010, 1, 1);
        run.told(3, 11);
        run.told(4, 1);
        long low = Digests.fork(13, 0x1000, Digests.leaf(0x1003, 30), Digests.leaf(0x1007, 1));
        low = Digests.fork(11, 0x1000, Digests.fork(12, 0x1000, low, 99), Digests.leaf(0x1010, 1));
        long high = Digests.fork(15, 0x9000, Digests.leaf(0x9000, 41), Digests.leaf(0x9001, 43));
        run.view(Digests.fork(0, 0, low, high));
        run.leaves(-1, 2);
    }

    /** The nodes of a view are odd in number: 699, and then 701. */
    private static void writeFullMoreThan700() {
        Run run = run("write: FULL: THE VIEW would have more than 700 NODES");
        run.empty();
        run.take(Digests.EMPTY, 1);
        for (int i = 0; i < 349; i++) {
            run.write(i * 180, i, 1);
        }
        run.told(3, 697);
        run.write(65535, 1, 1);
        run.told(3, 699);
        run.same().write(65534, 1, FULL);
        run.same().write(1, 1, FULL);
        run.same().write(-1, 1, BAD);
        run.write(65535, 2, 0);
        run.write(0, 2, 0);
        run.told(3, 699);
        run.erase(180, 1);
        run.told(3, 697);
        run.write(181, 1, 1);
        run.same().write(180, 1, FULL);
        run.count(0, 65535, 350);
    }

    private static void writeFullWithHidden() {
        Run run = withView("write: FULL: HIDDEN ones count, too");
        for (int i = 0; i < 347; i++) {
            run.write(0xA000 + i, i, 1);
        }
        run.told(3, 699);
        run.told(4, 1);
        run.same().write(0xB000, 1, FULL);
        run.same().write(0x1007, 1, FULL);
        run.same().write(0x1008, 1, MISSING);
        run.write(0x1003, 1, 0);
        run.erase(0x1003, 1);
        run.told(3, 697);
        run.write(0xB000, 1, 1);
        run.same().write(0xB001, 1, FULL);
    }

    /** On the way to 0 are 16 forks, the most there can be. */
    private static void writeFullOfTheDeepestView() {
        Run run = run("write: FULL: more than 700 NODES, with 16 FORKS on a WAY");
        run.empty();
        run.take(Digests.EMPTY, 1);
        run.write(0, 1, 1);
        for (int i = 0; i < 16; i++) {
            run.write(1 << i, 1, 1);
        }
        run.told(3, 33);
        for (int i = 17; i < 350; i++) {
            run.write(65535 - i, 1, 1);
        }
        run.told(3, 699);
        run.same().write(65535, 1, FULL);
        run.same().write(3, 1, FULL);
        run.write(0, 2, 0);
        run.write(1, 2, 0);
        run.erase(0, 1);
        run.write(3, 1, 1);
        run.same().write(0, 1, FULL);
        run.count(0, 65535, 350);
    }

    private static void eraseThereOrNot() {
        Run run = withView("erase: 1; 0: it is not there. BAD, NONE, MISSING");
        run.same().erase(0x1002, 0);
        run.same().erase(0x1007, 0);
        run.same().erase(0x1010, 0);
        run.same().erase(0x0FFF, 0);
        run.same().erase(0x9001, 0);
        run.same().erase(0x1008, MISSING);
        run.same().erase(0x100F, MISSING);
        run.same().erase(-1, BAD);
        run.same().erase(65536, BAD);
        run.erase(0x9000, 1);
        run.view(Digests.fork(12, 0x1000, Digests.leaf(0x1003, 30), 99));
        run.same().erase(0x9000, 0);
        run.erase(0x1003, 1);
        run.view(99);
        run.same().erase(0x1003, MISSING);
        run.same().erase(0x9000, MISSING);
        Run none = run("erase: NONE");
        none.put(7, 1, 1);
        none.same().erase(7, NONE);
        none.same().erase(65536, BAD);
        none.leaf(7, 1);
        none.take(Digests.leaf(7, 1), 1);
        none.erase(7, 1);
        none.view(Digests.EMPTY);
        none.same().erase(7, 0);
        none.leaves(-1, 1);
    }

    private static void eraseOfAFullView() {
        Run run = run("erase: from the fullest VIEW on");
        run.empty();
        run.take(Digests.EMPTY, 1);
        for (int i = 0; i < 350; i++) {
            run.write(i, i, 1);
        }
        run.told(3, 699);
        for (int i = 0; i < 150; i++) {
            run.erase(349 - i, 1);
        }
        run.told(3, 399);
        run.count(0, 65535, 200);
        run.same().erase(349, 0);
    }

    private static void viewZeroWithoutOne() {
        Run run = run("view: the DIGEST of THE VIEW; 0 without one");
        run.same().view(0);
        run.put(5, 5, 1);
        run.view(0);
        run.fault(1, 0);
        run.view(0);
        run.hidden(1);
        run.fault(7, 0, 2);
        run.view(0);
        run.take(1, 1);
        run.same().view(1);
        run.cutAll();
        run.hidden(0);
        run.take(0, 1);
        run.view(0);
        run.told(3, 1);
    }

    private static void countBad() {
        Run run = withView("count: BAD: as want()");
        run.same().count(-1, 0, BAD);
        run.same().count(-1, -1, BAD);
        run.same().count(65535, 65536, BAD);
        run.same().count(65536, 65536, BAD);
        run.same().count(5, 4, BAD);
        run.same().count(65535, 65534, BAD);
        run.same().count(1, 0, BAD);
        run.same().count(Integer.MAX_VALUE, Integer.MIN_VALUE, BAD);
        run.same().count(0, 0, 0);
        run.same().count(65535, 65535, 0);
        run.same().count(4, 5, 0);
        run.same().count(5, 5, 0);
    }

    private static void countNoneAndEmpty() {
        Run run = run("count: NONE");
        run.same().count(0, 65535, NONE);
        run.same().count(5, 4, BAD);
        run.empty();
        run.take(Digests.EMPTY, 1);
        run.same().count(0, 65535, 0);
        run.write(7, 1, 1);
        run.same().count(0, 65535, 1);
    }

    private static void countFromTo() {
        Run run = run("count: how many LEAVES of THE VIEW have a PATH from .. to");
        run.empty();
        run.take(Digests.EMPTY, 1);
        for (int i = 0; i < 300; i++) {
            run.write(1000 + i, i, 1);
        }
        run.count(0, 65535, 300);
        run.count(1000, 1299, 300);
        run.count(1001, 1299, 299);
        run.count(1000, 1298, 299);
        run.count(0, 999, 0);
        run.count(0, 1000, 1);
        run.count(1299, 65535, 1);
        run.count(1300, 65535, 0);
        run.count(1150, 1150, 1);
        run.erase(1150, 1);
        run.count(1150, 1150, 0);
        run.count(0, 65535, 299);
    }

    private static void countMissing() {
        Run run = withView("count: MISSING: some HIDDEN one's PLACE has a PATH of these");
        run.same().count(0, 0x1007, 1);
        run.same().count(0, 0x1008, MISSING);
        run.same().count(0x1008, 0x1008, MISSING);
        run.same().count(0x100A, 0x100B, MISSING);
        run.same().count(0x100F, 0x100F, MISSING);
        run.same().count(0x100F, 65535, MISSING);
        run.same().count(0x1010, 65535, 1);
        run.same().count(0, 65535, MISSING);
        run.same().count(0x1003, 0x1007, 1);
        run.same().count(0x1004, 0x1007, 0);
        run.erase(0x1003, 1);
        run.same().count(0, 0, MISSING);
        run.same().count(32767, 32767, MISSING);
        run.same().count(32768, 65535, 1);
        run.erase(0x9000, 1);
        run.same().count(65535, 65535, MISSING);
        run.same().count(0, 0, MISSING);
        run.same().count(0, 65535, MISSING);
    }

    /** The fork of bit 12 takes in 0x1010 .. 0x101F, and its place begins at 0: 0x1010 .. 0x1017 are hidden. */
    private static Run withHiddenLowNode(String sentence) {
        Run run = run(sentence);
        run.fork(0, 0);
        run.fork(12, 0x1010);
        run.hidden(98);
        run.leaf(0x1018, 30);
        run.leaf(0x9000, 40);
        long low = Digests.fork(12, 0x1010, 98, Digests.leaf(0x1018, 30));
        run.take(Digests.fork(0, 0, low, Digests.leaf(0x9000, 40)), 5);
        return run;
    }

    private static void countMissingOfALowNode() {
        Run run = withHiddenLowNode("count: MISSING: some HIDDEN one's PLACE has a PATH of these: a LOW NODE's");
        run.same().count(0, 0x100F, 0);
        run.same().count(0x100F, 0x100F, 0);
        run.same().count(0x100F, 0x1010, MISSING);
        run.same().count(0x1010, 0x1010, MISSING);
        run.same().count(0x1017, 0x1017, MISSING);
        run.same().count(0x1017, 0x1018, MISSING);
        run.same().count(0x1018, 0x1018, 1);
        run.same().count(0x1018, 65535, 2);
        run.write(0x100F, 20, 1);
        run.same().count(0, 0x100F, 1);
        run.same().count(0, 0x1010, MISSING);
        run.erase(0x1018, 1);
        // The fork of 0x100F and the hidden one takes in 0x1000 .. 0x101F: the hidden one's place is its second half.
        run.same().count(0, 0x100F, 1);
        run.same().count(0x1018, 0x1018, MISSING);
        run.same().count(0x101F, 0x101F, MISSING);
        run.same().count(0x1020, 65535, 1);
    }

    private static void nextFromOrMore() {
        Run run = withView("next: the least PATH of THE VIEW's LEAVES that is from or more");
        run.same().next(0, 0x1003);
        run.same().next(0x1002, 0x1003);
        run.same().next(0x1003, 0x1003);
        run.same().next(0x1010, 0x9000);
        run.same().next(0x8FFF, 0x9000);
        run.same().next(0x9000, 0x9000);
        run.same().next(-1, BAD);
        run.same().next(65536, BAD);
        run.write(0, 1, 1);
        run.write(65535, 1, 1);
        run.same().next(0, 0);
        run.same().next(1, 0x1003);
        run.same().next(0x9001, 65535);
        run.same().next(65535, 65535);
    }

    private static void nextNone() {
        Run run = run("next: NONE: also, there is none and nothing is MISSING");
        run.same().next(0, NONE);
        run.same().next(65536, BAD);
        run.empty();
        run.take(Digests.EMPTY, 1);
        run.same().next(0, NONE);
        run.same().next(65535, NONE);
        run.same().next(65536, BAD);
        run.write(7, 1, 1);
        run.same().next(7, 7);
        run.same().next(8, NONE);
        run.write(65535, 1, 1);
        run.same().next(8, 65535);
        run.erase(65535, 1);
        run.same().next(65535, NONE);
        Run beside = withView("next: NONE: nothing is MISSING behind the last LEAF");
        beside.same().next(0x9001, NONE);
        beside.same().next(65535, NONE);
        beside.erase(0x9000, 1);
        beside.same().next(0x1010, NONE);
        beside.same().next(0x100F, MISSING);
    }

    private static void nextMissing() {
        Run run = withView("next: MISSING: a HIDDEN one's PLACE has a PATH that is from or more, and less than that one");
        run.same().next(0x1003, 0x1003);
        run.same().next(0x1004, MISSING);
        run.same().next(0x1007, MISSING);
        run.same().next(0x1008, MISSING);
        run.same().next(0x100F, MISSING);
        run.same().next(0x1010, 0x9000);
        run.write(0x1007, 1, 1);
        run.same().next(0x1004, 0x1007);
        run.same().next(0x1007, 0x1007);
        run.same().next(0x1008, MISSING);
        run.write(0x1010, 1, 1);
        run.same().next(0x100F, MISSING);
        run.same().next(0x1010, 0x1010);
        run.take(viewDigest(), 5);
        run.erase(0x1003, 1);
        run.same().next(0, MISSING);
        run.same().next(32767, MISSING);
        run.same().next(32768, 0x9000);
        run.cutAll();
        run.hidden(5);
        run.take(5, 1);
        run.same().next(0, MISSING);
        run.same().next(65535, MISSING);
        run.same().next(65536, BAD);
    }

    private static void nextMissingOfALowNode() {
        Run run = withHiddenLowNode("next: MISSING: a LOW NODE's PLACE has a PATH that is from or more");
        run.same().next(0, MISSING);
        run.same().next(0x100F, MISSING);
        run.same().next(0x1010, MISSING);
        run.same().next(0x1017, MISSING);
        run.same().next(0x1018, 0x1018);
        run.same().next(0x1019, 0x9000);
        run.write(0x100F, 20, 1);
        run.same().next(0, 0x100F);
        run.same().next(0x100F, 0x100F);
        run.same().next(0x1010, MISSING);
        run.erase(0x1018, 1);
        run.same().next(0x101F, MISSING);
        run.same().next(0x1020, 0x9000);
    }

    private static void toldBad() {
        Run run = withView("told: BAD");
        int[] bad = {-1, 6, 7, -6, Integer.MIN_VALUE, Integer.MAX_VALUE};
        for (int what : bad) {
            run.same().told(what, BAD);
        }
        run.same().told(0, 39);
        run.same().told(5, 1);
    }

    private static void toldOctetsRangesVersions() {
        Run run = run("told: 0 octets of THE TAPE, 1 RANGES that are WANTED, 2 VERSIONS");
        for (int what = 0; what <= 5; what++) {
            run.same().told(what, 0);
        }
        run.feed(1, 1, 1);
        run.told(0, 1);
        run.want(1, 1, 1);
        run.told(1, 1);
        run.keep(0);
        run.told(2, 1);
        for (int i = 2; i <= 8; i++) {
            run.want(1, 1, i);
            run.keep(i - 1);
        }
        for (int i = 9; i <= 20; i++) {
            run.want(1, 1, i);
        }
        run.same().want(1, 1, FULL);
        run.same().keep(FULL);
        run.same().told(0, 1);
        run.same().told(1, 20);
        run.same().told(2, 8);
        run.forget(20);
        run.told(1, 0);
    }

    private static void toldNodesAndHidden() {
        Run run = run("told: 3 NODES of THE VIEW, 4 HIDDEN ones of these (3 and 4 without one: 0)");
        run.put(1, 1, 1);
        run.hidden(5);
        run.same().told(3, 0);
        run.same().told(4, 0);
        run.fault(7, 0, 6);
        run.told(3, 0);
        run.told(4, 0);
        run.take(5, 1);
        run.same().told(3, 1);
        run.same().told(4, 1);
        run.cutAll();
        run.empty();
        run.take(Digests.EMPTY, 1);
        run.told(3, 1);
        run.told(4, 0);
        run.write(1, 1, 1);
        run.told(3, 1);
        run.write(2, 1, 1);
        run.told(3, 3);
        run.erase(2, 1);
        run.erase(1, 1);
        run.told(3, 1);
        run.told(4, 0);
        int[] stems = {0, 65534};
        for (int stem : stems) {
            run.cutAll();
            run.fork(15, stem);
            run.hidden(1);
            run.hidden(2);
            run.take(Digests.fork(15, stem, 1, 2), 3);
            run.told(3, 3);
            run.told(4, 2);
        }
    }

    private static void toldMostForks() {
        Run run = run("told: 5 the greatest number of FORKS on a WAY in THE TREE");
        run.told(5, 0);
        run.put(65535, 1, 1);
        run.told(5, 0);
        for (int bit = 15; bit >= 0; bit--) {
            run.put(65535 ^ 0x8000 >> bit, 1, 1);
            run.told(5, 16 - bit);
        }
        run.put(0, 1, 1);
        run.told(5, 16);
        run.keep(0);
        run.remove(65534, 1);
        run.told(5, 15);
        run.leaves(0, 18);
        run.remove(65535, 1);
        run.told(5, 14);
        Run low = run("told: 5 by the LOW NODE");
        for (int bit = 0; bit < 16; bit++) {
            low.put(0x8000 >> bit, 1, 1);
            low.told(5, bit);
        }
        low.put(0, 1, 1);
        low.told(5, 16);
    }

    /** 16 forks are on the way to the path, one of each bit: no way has more. */
    private static void deepestWay(int path) {
        Run run = run("THE WAY to a PATH of 16 bits has 16 FORKS at most: " + path);
        run.put(path, 100, 1);
        for (int i = 0; i < 16; i++) {
            run.put(path ^ 1 << i, i, 1);
        }
        run.told(5, 16);
        run.want(path, path, 1);
        run.show(-1, 16 * 4 + 11 + 16 * 9);
        long digest = deepDigest(path, 100);
        run.root(-1, digest);
        run.take(digest, 33);
        run.told(4, 16);
        run.get(path, 1);
        run.value(100);
        run.get(path ^ 1, MISSING);
        run.count(path, path, 1);
        run.count(path & ~1, path | 1, MISSING);
        run.next(path, path);
        run.next(path ^ 1, MISSING);
        run.write(path, 101, 0);
        run.view(deepDigest(path, 101));
        run.want(0, 65535, 2);
        run.pass(16 * 4 + 11 + 16 * 9);
        run.erase(path, 1);
        run.told(3, 31);
        run.told(4, 16);
        run.show(-1, 16 * 4 + 17 * 11);
        run.take(digest, 33);
        run.told(4, 0);
        run.count(0, 65535, 17);
        run.next(path ^ 1, path ^ 1);
        run.erase(path ^ 1, 1);
        run.remove(path ^ 1, 1);
        run.told(5, 15);
        run.put(path ^ 1, 0, 1);
        run.told(5, 16);
        run.put(path, 102, 0);
        run.root(-1, deepDigest(path, 102));
        run.told(3, 31);
        run.write(path ^ 1, 0, 1);
        run.view(digest);
        run.told(3, 33);
    }

    private static long deepDigest(int path, long value) {
        long digest = Digests.leaf(path, value);
        for (int i = 0; i < 16; i++) {
            long other = Digests.leaf(path ^ 1 << i, i);
            int stem = path & ~0 << i + 1 & 0xFFFF;
            boolean isHigh = (path >> i & 1) == 1;
            digest = isHigh ? Digests.fork(15 - i, stem, other, digest) : Digests.fork(15 - i, stem, digest, other);
        }
        return digest;
    }
}
