import java.util.Random;

/** Promises 14 to 23: take, place, get, value, write, erase, view, count, next, told. */
public final class ReaderTest {
    private static final Check CHECK = new Check("ReaderTest");
    private static final int HIDDEN = 0, FORK = 1, LEAF = 2, EMPTY = 3;

    public static void main(String[] args) {
        takesAll();
        faultEndsEarly();
        faultTellsNone();
        faultBit();
        faultFork();
        faultPath();
        faultBehindAndDigest();
        theFirstFaultCounts();
        place();
        getAndValue();
        write();
        writeIsFull();
        erase();
        erasedNodeWidensHiddenPlace();
        count();
        next();
        told();
        withoutView();
        wholeIsHidden();
        deepWays(0);
        deepWays(0xFFFF);
        deepWays(0x5A5A);
        followsTheTree();
        CHECK.end();
    }

    private static void fork(PathProofs x, int bit, int stem) {
        x.feed(1, FORK);
        x.feed(1, bit);
        x.feed(2, stem);
    }

    private static void leaf(PathProofs x, int path, long value) {
        x.feed(1, LEAF);
        x.feed(2, path);
        x.feed(8, value);
    }

    private static void hidden(PathProofs x, long digest) {
        x.feed(1, HIDDEN);
        x.feed(8, digest);
    }

    private static void refused(PathProofs x, String what, int fault, int place) {
        long before = x.view();
        CHECK.due(what, x.take(0), -10 - fault);
        CHECK.due(what + ": place()", x.place(), place);
        CHECK.due(what + ": the view stays", x.view(), before);
    }

    /** Leaves 16 and 40000 and between them a hidden node in 24 .. 31: the fork of bit 12 takes in 16 .. 31. */
    private static PathProofs withView() {
        PathProofs x = new PathProofs();
        fork(x, 0, 0);
        fork(x, 12, 16);
        leaf(x, 16, 160);
        hidden(x, 99);
        leaf(x, 40000, 400);
        CHECK.due("take", x.take(digestOfView()), 5);
        return x;
    }

    private static long digestOfView() {
        long inner = Digests.fork(12, 16, Digests.leaf(16, 160), 99);
        return Digests.fork(0, 0, inner, Digests.leaf(40000, 400));
    }

    private static void takesAll() {
        PathProofs x = withView();
        CHECK.due("view()", x.view(), digestOfView());
        CHECK.due("the tape stays", x.told(0), 39);
        CHECK.due("take again", x.take(digestOfView()), 5);
        x.cut(0);
        x.feed(1, EMPTY);
        CHECK.due("take EMPTY", x.take(Digests.EMPTY), 1);
        CHECK.due("view() of EMPTY", x.view(), Digests.EMPTY);
        x.cut(0);
        hidden(x, -5);
        CHECK.due("take HIDDEN", x.take(-5), 1);
        CHECK.due("view() of HIDDEN", x.view(), -5);
        x.cut(0);
        leaf(x, 65535, -1);
        CHECK.due("take LEAF", x.take(Digests.leaf(65535, -1)), 1);
        x.cut(0);
        fork(x, 15, 65534);
        hidden(x, 1);
        hidden(x, 2);
        CHECK.due("take the least fork", x.take(Digests.fork(15, 65534, 1, 2)), 3);
    }

    private static void faultEndsEarly() {
        PathProofs x = withView();
        x.want(0, 65535);
        for (int length = 38; length >= 0; length--) {
            x.cut(length);
            refused(x, "cut at " + length, 1, length);
        }
        x.feed(3, 0x0103FF);
        refused(x, "half a STEM, which could not be right", 1, 3);
        x.cut(0);
        fork(x, 0, 0);
        x.feed(2, 0x02FF);
        refused(x, "half a PATH, which could not be right", 1, 6);
    }

    private static void faultTellsNone() {
        PathProofs x = withView();
        for (int octet = 4; octet < 256; octet += 50) {
            x.cut(0);
            x.feed(1, octet);
            refused(x, "octet " + octet, 2, 0);
        }
        x.cut(0);
        fork(x, 0, 0);
        x.feed(1, EMPTY);
        refused(x, "EMPTY below a fork", 2, 4);
        x.cut(4);
        leaf(x, 1, 1);
        x.feed(1, EMPTY);
        refused(x, "EMPTY as the high one", 2, 15);
        x.cut(15);
        x.feed(1, 128);
        refused(x, "none as the high one", 2, 15);
    }

    private static void faultBit() {
        PathProofs x = withView();
        x.cut(0);
        x.feed(2, 0x0110);
        refused(x, "BIT 16", 3, 1);
        x.cut(1);
        x.feed(1, 255);
        refused(x, "BIT 255", 3, 1);
        x.cut(0);
        fork(x, 3, 0);
        x.feed(2, 0x0180);
        refused(x, "BIT 128 below", 3, 5);
    }

    private static void faultFork() {
        for (int bit = 0; bit < 16; bit++) {
            PathProofs x = withView();
            x.cut(0);
            fork(x, bit, 32768 >> bit);
            refused(x, "STEM has 1 in BIT " + bit, 4, 2);
            x.cut(0);
            fork(x, bit, 1);
            refused(x, "STEM has 1 in bit 15", 4, 2);
            x.cut(0);
            fork(x, bit, 0);
            fork(x, bit, 0);
            refused(x, "a fork of the same BIT below", 4, 6);
            x.cut(4);
            leaf(x, 0, 1);
            fork(x, 15, 0);
            refused(x, "a fork in the place of the other", 4, 17);
        }
        PathProofs x = withView();
        x.cut(0);
        fork(x, 4, 0x1000);
        fork(x, 8, 0x1800);
        refused(x, "the low one in the high place", 4, 6);
        x.cut(4);
        fork(x, 8, 0x0F00);
        refused(x, "the low one below the place", 4, 6);
        x.cut(4);
        fork(x, 5, 0x1000);
        refused(x, "the low one takes in the whole place", 1, 8);
        x.cut(4);
        hidden(x, 1);
        fork(x, 8, 0x1700);
        refused(x, "the high one in the low place", 4, 15);
        x.cut(13);
        fork(x, 8, 0x2000);
        refused(x, "the high one above the place", 4, 15);
        x.cut(13);
        fork(x, 8, 0x1F00);
        refused(x, "the high one at the place's end", 1, 17);
    }

    private static void faultPath() {
        PathProofs x = withView();
        x.cut(0);
        fork(x, 12, 0x1230);
        int[] wrong = {0x122F, 0x1238, 0, 65535};
        for (int path : wrong) {
            x.cut(4);
            leaf(x, path, 1);
            refused(x, "low leaf " + path, 5, 5);
        }
        int[] right = {0x1230, 0x1237};
        for (int path : right) {
            x.cut(4);
            leaf(x, path, 1);
            refused(x, "low leaf " + path, 1, 15);
        }
        wrong = new int[] {0x1237, 0x1240, 0x1230};
        for (int path : wrong) {
            x.cut(15);
            leaf(x, path, 1);
            refused(x, "high leaf " + path, 5, 16);
        }
        x.cut(15);
        x.feed(3, 0x021240);
        refused(x, "a wrong PATH before the tape's end", 5, 16);
    }

    private static void faultBehindAndDigest() {
        PathProofs x = withView();
        x.feed(1, 77);
        refused(x, "one octet behind", 6, 39);
        x.feed(8, 3);
        refused(x, "more octets behind", 6, 39);
        x.cut(39);
        refused(x, "another digest", 7, 0);
        CHECK.due("the right one", x.take(digestOfView()), 5);
        x.spoil(14, 1);
        CHECK.due("a spoilt value", x.take(digestOfView()), -17);
        x.cut(0);
        x.feed(2, 0x0303);
        refused(x, "EMPTY twice", 6, 1);
    }

    private static void theFirstFaultCounts() {
        PathProofs x = withView();
        x.cut(0);
        fork(x, 0, 0);
        leaf(x, 40000, 1);
        x.feed(1, 9);
        refused(x, "a wrong PATH, then an octet that tells none", 5, 5);
        x.cut(0);
        fork(x, 16, 1);
        refused(x, "a wrong BIT, then a wrong STEM", 3, 1);
        x.cut(0);
        fork(x, 1, 1);
        fork(x, 99, 1);
        refused(x, "a wrong STEM, then a wrong BIT", 4, 2);
    }

    private static void place() {
        PathProofs x = new PathProofs();
        CHECK.due("place() before any take", x.place(), PathProofs.NONE);
        x.take(0);
        CHECK.due("place() of a fault", x.place(), 0);
        hidden(x, 5);
        x.take(5);
        CHECK.due("place() of none", x.place(), PathProofs.NONE);
        x.feed(1, 5);
        x.take(5);
        CHECK.due("place() of a fault again", x.place(), 9);
        x.cut(0);
        CHECK.due("place() is that of the latest take", x.place(), 9);
    }

    private static void getAndValue() {
        PathProofs x = withView();
        CHECK.due("value() before any get", x.value(), 0);
        CHECK.due("get(16)", x.get(16), 1);
        CHECK.due("value()", x.value(), 160);
        CHECK.due("value() again", x.value(), 160);
        x.write(16, 5);
        CHECK.due("value() is what get() found", x.value(), 160);
        CHECK.due("get(17): another leaf", x.get(17), 0);
        CHECK.due("value() after 0", x.value(), 0);
        CHECK.due("get(40000)", x.get(40000), 1);
        CHECK.due("value() of 40000", x.value(), 400);
        CHECK.due("get(24): hidden", x.get(24), PathProofs.MISSING);
        CHECK.due("value() after MISSING", x.value(), 0);
        CHECK.due("get(31): hidden", x.get(31), PathProofs.MISSING);
        CHECK.due("get(32): the fork does not take it in", x.get(32), 0);
        CHECK.due("get(15): the fork does not take it in", x.get(15), 0);
        CHECK.due("get(23): the leaf's place", x.get(23), 0);
        CHECK.due("get(65535)", x.get(65535), 0);
        CHECK.due("get(16)", x.get(16), 1);
        CHECK.due("get(-1)", x.get(-1), PathProofs.BAD);
        CHECK.due("value() after BAD", x.value(), 0);
        CHECK.due("get(65536)", x.get(65536), PathProofs.BAD);
        x.cut(0);
        x.feed(1, EMPTY);
        x.take(Digests.EMPTY);
        CHECK.due("get of EMPTY", x.get(16), 0);
    }

    private static void write() {
        PathProofs x = withView();
        CHECK.due("write(-1)", x.write(-1, 1), PathProofs.BAD);
        CHECK.due("write(65536)", x.write(65536, 1), PathProofs.BAD);
        CHECK.due("write(24): hidden", x.write(24, 1), PathProofs.MISSING);
        CHECK.due("view() after them", x.view(), digestOfView());
        CHECK.due("write(16)", x.write(16, 161), 0);
        long inner = Digests.fork(12, 16, Digests.leaf(16, 161), 99);
        CHECK.due("view()", x.view(), Digests.fork(0, 0, inner, Digests.leaf(40000, 400)));
        CHECK.due("told(3)", x.told(3), 5);
        CHECK.due("write(18)", x.write(18, 180), 1);
        inner = Digests.fork(12, 16, Digests.fork(14, 16, Digests.leaf(16, 161), Digests.leaf(18, 180)), 99);
        CHECK.due("view() with a leaf beside a leaf", x.view(), Digests.fork(0, 0, inner, Digests.leaf(40000, 400)));
        CHECK.due("told(3)", x.told(3), 7);
        writeAboveForkWithHidden();
        writeToEmpty();
    }

    private static void writeAboveForkWithHidden() {
        PathProofs x = withView();
        CHECK.due("write(5)", x.write(5, 50), 1);
        long inner = Digests.fork(12, 16, Digests.leaf(16, 160), 99);
        long above = Digests.fork(11, 0, Digests.leaf(5, 50), inner);
        CHECK.due("STEM 16 and PATH 5 differ first in bit 11", x.view(),
                Digests.fork(0, 0, above, Digests.leaf(40000, 400)));
        CHECK.due("write(1024)", x.write(1024, 1), 1);
        above = Digests.fork(5, 0, above, Digests.leaf(1024, 1));
        CHECK.due("view()", x.view(), Digests.fork(0, 0, above, Digests.leaf(40000, 400)));
        CHECK.due("get(24) is hidden still", x.get(24), PathProofs.MISSING);
    }

    private static void writeToEmpty() {
        PathProofs x = new PathProofs();
        x.feed(1, EMPTY);
        x.take(Digests.EMPTY);
        CHECK.due("write to EMPTY", x.write(7, 70), 1);
        CHECK.due("view() of a leaf", x.view(), Digests.leaf(7, 70));
        CHECK.due("told(3)", x.told(3), 1);
        CHECK.due("the tree is another thing", x.leaves(-1), 0);
        x.put(9, 9);
        CHECK.due("and so is the view", x.view(), Digests.leaf(7, 70));
    }

    private static void writeIsFull() {
        PathProofs x = new PathProofs();
        x.feed(1, EMPTY);
        x.take(Digests.EMPTY);
        for (int i = 0; i < 350; i++) {
            CHECK.due("write " + i, x.write(i * 180, i), 1);
        }
        CHECK.due("told(3)", x.told(3), 699);
        long before = x.view();
        CHECK.due("a 701st node", x.write(1, 1), PathProofs.FULL);
        CHECK.due("bad before full", x.write(-1, 1), PathProofs.BAD);
        CHECK.due("view() after FULL", x.view(), before);
        CHECK.due("one that is there", x.write(180, 1), 0);
        CHECK.due("erase", x.erase(0), 1);
        CHECK.due("told(3)", x.told(3), 697);
        CHECK.due("room again", x.write(1, 1), 1);
        CHECK.due("full again", x.write(2, 1), PathProofs.FULL);
    }

    private static void erase() {
        PathProofs x = withView();
        CHECK.due("erase(-1)", x.erase(-1), PathProofs.BAD);
        CHECK.due("erase(65536)", x.erase(65536), PathProofs.BAD);
        CHECK.due("erase(24)", x.erase(24), PathProofs.MISSING);
        CHECK.due("erase(17)", x.erase(17), 0);
        CHECK.due("erase(1024)", x.erase(1024), 0);
        CHECK.due("view() after them", x.view(), digestOfView());
        CHECK.due("erase(40000)", x.erase(40000), 1);
        CHECK.due("view()", x.view(), Digests.fork(12, 16, Digests.leaf(16, 160), 99));
        CHECK.due("told(3)", x.told(3), 3);
        CHECK.due("erase(40000) again", x.erase(40000), 0);
        CHECK.due("erase(16)", x.erase(16), 1);
        CHECK.due("only the hidden one", x.view(), 99);
        CHECK.due("told(3)", x.told(3), 1);
        CHECK.due("erase(0)", x.erase(0), PathProofs.MISSING);
        x.cut(0);
        leaf(x, 3, 3);
        x.take(Digests.leaf(3, 3));
        CHECK.due("erase the only leaf", x.erase(3), 1);
        CHECK.due("view() of EMPTY", x.view(), Digests.EMPTY);
        CHECK.due("told(3) of EMPTY", x.told(3), 1);
        CHECK.due("erase of EMPTY", x.erase(3), 0);
        CHECK.due("count of EMPTY", x.count(0, 65535), 0);
        CHECK.due("next of EMPTY", x.next(0), PathProofs.NONE);
    }

    /** The hidden one in 24 .. 31 comes to stand for all of 0 .. 32767 when leaf 16 goes. */
    private static void erasedNodeWidensHiddenPlace() {
        PathProofs x = withView();
        CHECK.due("get(1024) before", x.get(1024), 0);
        CHECK.due("count before", x.count(32, 65535), 1);
        CHECK.due("erase(16)", x.erase(16), 1);
        CHECK.due("view()", x.view(), Digests.fork(0, 0, 99, Digests.leaf(40000, 400)));
        CHECK.due("get(1024)", x.get(1024), PathProofs.MISSING);
        CHECK.due("write(16)", x.write(16, 1), PathProofs.MISSING);
        CHECK.due("count after", x.count(32, 65535), PathProofs.MISSING);
        CHECK.due("count of the rest", x.count(32768, 65535), 1);
        CHECK.due("next(32767)", x.next(32767), PathProofs.MISSING);
        CHECK.due("next(32768)", x.next(32768), 40000);
    }

    private static void count() {
        PathProofs x = withView();
        CHECK.due("count(-1, 5)", x.count(-1, 5), PathProofs.BAD);
        CHECK.due("count(5, 65536)", x.count(5, 65536), PathProofs.BAD);
        CHECK.due("count(6, 5)", x.count(6, 5), PathProofs.BAD);
        CHECK.due("count(0, 23)", x.count(0, 23), 1);
        CHECK.due("count(0, 24)", x.count(0, 24), PathProofs.MISSING);
        CHECK.due("count(31, 31)", x.count(31, 31), PathProofs.MISSING);
        CHECK.due("count(32, 39999)", x.count(32, 39999), 0);
        CHECK.due("count(32, 40000)", x.count(32, 40000), 1);
        CHECK.due("count(40000, 40000)", x.count(40000, 40000), 1);
        CHECK.due("count(40001, 65535)", x.count(40001, 65535), 0);
        CHECK.due("count(16, 16)", x.count(16, 16), 1);
        CHECK.due("count(17, 23)", x.count(17, 23), 0);
        CHECK.due("count(0, 65535)", x.count(0, 65535), PathProofs.MISSING);
        x.write(0, 1);
        CHECK.due("count(0, 16)", x.count(0, 16), 2);
    }

    private static void next() {
        PathProofs x = withView();
        CHECK.due("next(-1)", x.next(-1), PathProofs.BAD);
        CHECK.due("next(65536)", x.next(65536), PathProofs.BAD);
        CHECK.due("next(0)", x.next(0), 16);
        CHECK.due("next(16)", x.next(16), 16);
        CHECK.due("next(17)", x.next(17), PathProofs.MISSING);
        CHECK.due("next(31)", x.next(31), PathProofs.MISSING);
        CHECK.due("next(32)", x.next(32), 40000);
        CHECK.due("next(40000)", x.next(40000), 40000);
        CHECK.due("next(40001)", x.next(40001), PathProofs.NONE);
        CHECK.due("next(65535)", x.next(65535), PathProofs.NONE);
        x.erase(40000);
        CHECK.due("no leaf, but a hidden one", x.next(17), PathProofs.MISSING);
        CHECK.due("no leaf, nothing hidden", x.next(32), PathProofs.NONE);
        x.write(65535, 1);
        CHECK.due("next(65535), written", x.next(65535), 65535);
    }

    private static void told() {
        PathProofs x = withView();
        x.want(1, 1);
        x.keep();
        x.keep();
        x.put(0, 0);
        x.put(1, 1);
        x.put(2, 2);
        CHECK.due("told(0)", x.told(0), 39);
        CHECK.due("told(1)", x.told(1), 1);
        CHECK.due("told(2)", x.told(2), 2);
        CHECK.due("told(3)", x.told(3), 5);
        CHECK.due("told(4)", x.told(4), 1);
        CHECK.due("told(5)", x.told(5), 2);
        CHECK.due("told(6)", x.told(6), PathProofs.BAD);
        CHECK.due("told(-1)", x.told(-1), PathProofs.BAD);
        CHECK.due("told(min)", x.told(Integer.MIN_VALUE), PathProofs.BAD);
    }

    private static void withoutView() {
        PathProofs x = new PathProofs();
        x.put(5, 5);
        CHECK.due("get", x.get(5), PathProofs.NONE);
        CHECK.due("get bad", x.get(-1), PathProofs.BAD);
        CHECK.due("write", x.write(5, 5), PathProofs.NONE);
        CHECK.due("write bad", x.write(65536, 5), PathProofs.BAD);
        CHECK.due("erase", x.erase(5), PathProofs.NONE);
        CHECK.due("erase bad", x.erase(-1), PathProofs.BAD);
        CHECK.due("count", x.count(0, 5), PathProofs.NONE);
        CHECK.due("count bad", x.count(5, 0), PathProofs.BAD);
        CHECK.due("next", x.next(5), PathProofs.NONE);
        CHECK.due("next bad", x.next(65536), PathProofs.BAD);
        CHECK.due("view", x.view(), 0);
        CHECK.due("pass", x.pass(), PathProofs.NONE);
        CHECK.due("told(3)", x.told(3), 0);
        CHECK.due("told(4)", x.told(4), 0);
    }

    private static void wholeIsHidden() {
        PathProofs x = new PathProofs();
        hidden(x, 0);
        CHECK.due("take", x.take(0), 1);
        CHECK.due("count(0, 0)", x.count(0, 0), PathProofs.MISSING);
        CHECK.due("count(65535, 65535)", x.count(65535, 65535), PathProofs.MISSING);
        CHECK.due("next(65535)", x.next(65535), PathProofs.MISSING);
        CHECK.due("get(0)", x.get(0), PathProofs.MISSING);
        CHECK.due("told(4)", x.told(4), 1);
        CHECK.due("view() of the digest 0", x.view(), 0);
    }

    /** The way to the path has 16 forks, the most there can be. */
    private static void deepWays(int path) {
        PathProofs x = new PathProofs();
        x.put(path, 100);
        for (int i = 0; i < 16; i++) {
            x.put(path ^ 1 << i, i);
        }
        x.want(path, path);
        CHECK.due("told(5)", x.told(5), 16);
        CHECK.due("show one", x.show(-1), 16 * 4 + 11 + 16 * 9);
        CHECK.due("take one", x.take(x.root(-1)), 33);
        CHECK.due("told(4)", x.told(4), 16);
        CHECK.due("get", x.get(path), 1);
        CHECK.due("value()", x.value(), 100);
        CHECK.due("next", x.next(path), path);
        CHECK.due("count", x.count(path, path), 1);
        CHECK.due("get of the neighbour", x.get(path ^ 1), PathProofs.MISSING);
        CHECK.due("count of both", x.count(path & ~1, path | 1), PathProofs.MISSING);
        x.want(0, 65535);
        CHECK.due("pass one", x.pass(), 16 * 4 + 11 + 16 * 9);
        CHECK.due("show all", x.show(-1), 16 * 4 + 17 * 11);
        CHECK.due("take all", x.take(x.root(-1)), 33);
        CHECK.due("told(4), all", x.told(4), 0);
        CHECK.due("count, all", x.count(0, 65535), 17);
        for (int i = 0; i < 16; i++) {
            CHECK.due("next, all", x.next(path ^ 1 << i), path ^ 1 << i);
        }
        CHECK.due("write", x.write(path, 5), 0);
        CHECK.due("put", x.put(path, 5), 0);
        CHECK.due("view() after write", x.view(), x.root(-1));
        CHECK.due("erase", x.erase(path), 1);
        CHECK.due("remove", x.remove(path), 1);
        CHECK.due("view() after erase", x.view(), x.root(-1));
    }

    /** What the view can write or erase brings it to the digest that the whole tree has then. */
    private static void followsTheTree() {
        Random random = new Random(5);
        for (int run = 0; run < 200; run++) {
            PathProofs x = new PathProofs();
            int mask = run % 2 == 0 ? 0xFFFF : 0x0C3F;
            for (int i = 0; i < 60; i++) {
                x.put(random.nextInt(65536) & mask, random.nextLong());
            }
            int from = random.nextInt(65536) & mask;
            x.want(from, Math.min(65535, from + random.nextInt(20000)));
            x.show(-1);
            CHECK.holds("take", x.take(x.root(-1)) > 0);
            for (int i = 0; i < 100; i++) {
                int path = random.nextInt(65536) & mask;
                boolean writes = random.nextBoolean();
                int answer = writes ? x.write(path, i) : x.erase(path);
                if (answer != PathProofs.MISSING) {
                    CHECK.due("the tree's answer", writes ? x.put(path, i) : x.remove(path), answer);
                    CHECK.due("the view's digest", x.view(), x.root(-1));
                }
            }
        }
    }
}
