/** Promises 7 to 10: want, forget, show, pass. */
public final class ShownTest {
    private static final Check CHECK = new Check("ShownTest");

    public static void main(String[] args) {
        want();
        forget();
        show();
        showsEmptyAndOneLeaf();
        placesDecide();
        showsWhatIsNotThere();
        showsVersions();
        showIsFull();
        showFitsExactly();
        pass();
        passIsFull();
        CHECK.end();
    }

    private static void tapeIs(PathProofs x, String what, int... octets) {
        CHECK.due(what + ": octets", x.told(0), octets.length);
        for (int i = 0; i < octets.length; i++) {
            CHECK.due(what + ": octet " + i, x.octet(i), octets[i]);
        }
    }

    private static long longAt(PathProofs x, int i) {
        long number = 0;
        for (int k = 0; k < 8; k++) {
            number = number << 8 | x.octet(i + k);
        }
        return number;
    }

    private static void want() {
        PathProofs x = new PathProofs();
        CHECK.due("want(-1, 5)", x.want(-1, 5), PathProofs.BAD);
        CHECK.due("want(5, 65536)", x.want(5, 65536), PathProofs.BAD);
        CHECK.due("want(65536, 65536)", x.want(65536, 65536), PathProofs.BAD);
        CHECK.due("want(-5, -1)", x.want(-5, -1), PathProofs.BAD);
        CHECK.due("want(6, 5)", x.want(6, 5), PathProofs.BAD);
        CHECK.due("told(1) after BAD", x.told(1), 0);
        CHECK.due("want(0, 65535)", x.want(0, 65535), 1);
        CHECK.due("want(5, 5)", x.want(5, 5), 2);
        CHECK.due("want(5, 5) again", x.want(5, 5), 3);
        for (int i = 4; i <= 20; i++) {
            CHECK.due("want", x.want(i, i), i);
        }
        CHECK.due("a 21st range", x.want(1, 2), PathProofs.FULL);
        CHECK.due("bad before full", x.want(2, 1), PathProofs.BAD);
        CHECK.due("told(1) after FULL", x.told(1), 20);
    }

    private static void forget() {
        PathProofs x = new PathProofs();
        CHECK.due("forget nothing", x.forget(), 0);
        x.want(1, 2);
        x.want(3, 4);
        CHECK.due("forget", x.forget(), 2);
        CHECK.due("told(1)", x.told(1), 0);
        CHECK.due("forget again", x.forget(), 0);
        x.put(1, 1);
        CHECK.due("hidden after forget", x.show(-1), 9);
        CHECK.due("want anew", x.want(9, 9), 1);
    }

    private static void show() {
        PathProofs x = new PathProofs();
        x.put(0x1234, 0x0102030405060708L);
        x.put(0x1235, -2);
        x.want(0x1234, 0x1235);
        CHECK.due("show", x.show(-1), 26);
        tapeIs(x, "two leaves", 1, 15, 0x12, 0x34,
                2, 0x12, 0x34, 1, 2, 3, 4, 5, 6, 7, 8,
                2, 0x12, 0x35, 255, 255, 255, 255, 255, 255, 255, 254);
        x.forget();
        x.want(0x1235, 0x1235);
        CHECK.due("show the second", x.show(-1), 24);
        CHECK.due("the first is hidden", x.octet(4), 0);
        CHECK.due("its digest", longAt(x, 5), Digests.leaf(0x1234, 0x0102030405060708L));
        CHECK.due("the second is a leaf", x.octet(13), 2);
        x.forget();
        CHECK.due("show nothing", x.show(-1), 9);
        CHECK.due("the whole is hidden", x.octet(0), 0);
        CHECK.due("the whole digest", longAt(x, 1), x.root(-1));
        CHECK.due("show(-2)", x.show(-2), PathProofs.BAD);
        CHECK.due("show(0)", x.show(0), PathProofs.BAD);
        CHECK.due("show(max)", x.show(Integer.MAX_VALUE), PathProofs.BAD);
        CHECK.due("the tape after BAD", x.told(0), 9);
    }

    private static void showsEmptyAndOneLeaf() {
        PathProofs x = new PathProofs();
        CHECK.due("EMPTY, nothing wanted", x.show(-1), 9);
        CHECK.due("EMPTY is hidden", longAt(x, 1), Digests.EMPTY);
        x.want(0, 0);
        CHECK.due("EMPTY, path 0 wanted", x.show(-1), 1);
        x.forget();
        x.want(65535, 65535);
        CHECK.due("EMPTY, path 65535 wanted", x.show(-1), 1);
        x.forget();
        x.want(77, 77);
        CHECK.due("EMPTY, wanted", x.show(-1), 1);
        tapeIs(x, "EMPTY", 3);
        x.put(60000, 1);
        CHECK.due("another leaf has the whole place", x.show(-1), 11);
        tapeIs(x, "leaf", 2, 0xEA, 0x60, 0, 0, 0, 0, 0, 0, 0, 1);
    }

    /** The fork of 64 and 65 has the place 0 .. 32767, though it takes in 64 .. 65 alone. */
    private static void placesDecide() {
        PathProofs x = new PathProofs();
        x.put(64, 1);
        x.put(65, 2);
        x.put(40000, 3);
        x.want(32767, 32767);
        CHECK.due("the last of the place", x.show(-1), 4 + (4 + 9 + 9) + 9);
        x.forget();
        x.want(32768, 32768);
        CHECK.due("the first of the next place", x.show(-1), 4 + 9 + 11);
        x.want(64, 64);
        CHECK.due("two ranges", x.show(-1), 4 + (4 + 11 + 9) + 11);
        x.want(0, 65535);
        CHECK.due("all", x.show(-1), 4 + (4 + 11 + 11) + 11);
        x.forget();
        x.want(32767, 32768);
        CHECK.due("both sides of the middle", x.show(-1), 4 + (4 + 9 + 9) + 11);
    }

    private static void showsWhatIsNotThere() {
        PathProofs x = new PathProofs();
        x.put(64, 1);
        x.put(65, 2);
        x.want(1000, 1000);
        CHECK.due("the whole fork does not take it in", x.show(-1), 4 + 9 + 9);
        CHECK.due("take", x.take(x.root(-1)), 3);
        CHECK.due("it is not there", x.get(1000), 0);
        CHECK.due("the others are hidden", x.get(64), PathProofs.MISSING);
    }

    private static void showsVersions() {
        PathProofs x = new PathProofs();
        x.want(0, 65535);
        x.keep();
        x.put(1, 1);
        x.keep();
        x.put(2, 1);
        CHECK.due("show(0)", x.show(0), 1);
        CHECK.due("show(1)", x.show(1), 11);
        CHECK.due("show(-1)", x.show(-1), 26);
        CHECK.due("show(2)", x.show(2), PathProofs.BAD);
    }

    private static void showIsFull() {
        PathProofs x = new PathProofs();
        x.want(0, 65535);
        for (int i = 0; i < 266; i++) {
            x.put(i * 240, i);
        }
        CHECK.due("266 leaves", x.show(-1), 11 * 266 + 4 * 265);
        x.put(65535, 1);
        long root = x.root(-1);
        CHECK.due("267 leaves", x.show(-1), PathProofs.FULL);
        CHECK.due("the tape after FULL", x.told(0), 11 * 266 + 4 * 265);
        CHECK.due("its first octet", x.octet(0), 1);
        CHECK.due("its last octet", x.octet(11 * 266 + 4 * 265 - 1), 265 & 255);
        x.forget();
        x.want(0, 63000);
        int octets = x.show(-1);
        x.take(root);
        int forks = (x.told(3) - 1) / 2;
        int hidden = x.told(4);
        int leaves = x.told(3) - forks - hidden;
        CHECK.due("263 are wanted, and 63120 has 63000 in its place 62976 .. 63231", leaves, 264);
        CHECK.due("the rest is hidden", octets, 4 * forks + 9 * hidden + 11 * leaves);
    }

    /** 260 leaves and 8 hidden ones with their 267 forks have just 4000 octets. */
    private static void showFitsExactly() {
        PathProofs x = new PathProofs();
        for (int path = 0; path < 252; path++) {
            x.put(path, 1);
        }
        x.want(0, 251);
        for (int pair = 0; pair < 8; pair++) {
            x.put(32768 + 2 * pair, 1);
            x.put(32769 + 2 * pair, 1);
            x.want(32768 + 2 * pair, 32768 + 2 * pair);
        }
        CHECK.due("show 4000 octets", x.show(-1), 4000);
        CHECK.due("take them", x.take(x.root(-1)), 260 + 8 + 267);
        x.cut(0);
        CHECK.due("pass them", x.pass(), 4000);
        CHECK.due("the last octet", x.octet(3999), Digests.leaf(32783, 1) & 255);
        x.want(32769, 32769);
        CHECK.due("show 4002 octets", x.show(-1), PathProofs.FULL);
    }

    private static void pass() {
        PathProofs x = new PathProofs();
        CHECK.due("pass without a view", x.pass(), PathProofs.NONE);
        x.put(1, 1);
        x.put(2, 2);
        x.put(50000, 3);
        x.want(1, 1);
        x.show(-1);
        CHECK.due("take", x.take(x.root(-1)), 5);
        x.cut(0);
        CHECK.due("pass the same", x.pass(), 4 + (4 + 11 + 9) + 9);
        CHECK.due("the first leaf", x.octet(8), 2);
        CHECK.due("its path", x.octet(10), 1);
        x.want(0, 65535);
        CHECK.due("what is hidden stays so", x.pass(), 4 + (4 + 11 + 9) + 9);
        x.forget();
        x.want(50000, 50000);
        CHECK.due("what is not wanted is hidden", x.pass(), 4 + 9 + 9);
        CHECK.due("the digest is the same", x.take(x.root(-1)), 3);
        x.forget();
        CHECK.due("nothing is wanted", x.pass(), 9);
        CHECK.due("the digest of all", longAt(x, 1), x.root(-1));
        CHECK.due("the view stays", x.told(3), 3);
    }

    private static void passIsFull() {
        PathProofs x = new PathProofs();
        x.feed(1, 3);
        CHECK.due("take EMPTY", x.take(Digests.EMPTY), 1);
        CHECK.due("pass EMPTY, nothing wanted", x.pass(), 9);
        x.want(0, 65535);
        CHECK.due("pass EMPTY", x.pass(), 1);
        for (int i = 0; i < 266; i++) {
            x.write(i, i);
        }
        CHECK.due("pass 266 leaves", x.pass(), 11 * 266 + 4 * 265);
        x.write(266, 266);
        CHECK.due("pass 267 leaves", x.pass(), PathProofs.FULL);
        CHECK.due("the tape after FULL", x.told(0), 11 * 266 + 4 * 265);
        CHECK.due("its last octet", x.octet(11 * 266 + 4 * 265 - 1), 265 & 255);
        x.forget();
        CHECK.due("pass hidden", x.pass(), 9);
    }
}
