/** Promises 1 to 6: a new object, put, remove, keep, root, leaves; and told(5). */
public final class TreeTest {
    private static final Check CHECK = new Check("TreeTest");

    public static void main(String[] args) {
        newObject();
        put();
        putIsFull();
        remove();
        orderDoesNotMatter();
        keep();
        root();
        leaves();
        mostForks();
        CHECK.end();
    }

    private static void newObject() {
        PathProofs x = new PathProofs();
        CHECK.due("new root(-1)", x.root(-1), Digests.EMPTY);
        CHECK.due("new leaves(-1)", x.leaves(-1), 0);
        for (int what = 0; what <= 5; what++) {
            CHECK.due("new told(" + what + ")", x.told(what), 0);
        }
        CHECK.due("new octet(0)", x.octet(0), PathProofs.BAD);
        CHECK.due("new root(0)", x.root(0), 0);
        CHECK.due("new leaves(0)", x.leaves(0), PathProofs.BAD);
        CHECK.due("new view()", x.view(), 0);
        CHECK.due("new value()", x.value(), 0);
        CHECK.due("new place()", x.place(), PathProofs.NONE);
        CHECK.due("new get(0)", x.get(0), PathProofs.NONE);
        CHECK.due("new forget()", x.forget(), 0);
        CHECK.due("new show(-1): nothing is wanted", x.show(-1), 9);
    }

    private static void put() {
        PathProofs x = new PathProofs();
        CHECK.due("put(-1)", x.put(-1, 1), PathProofs.BAD);
        CHECK.due("put(65536)", x.put(65536, 1), PathProofs.BAD);
        CHECK.due("put(min)", x.put(Integer.MIN_VALUE, 1), PathProofs.BAD);
        CHECK.due("put(max)", x.put(Integer.MAX_VALUE, 1), PathProofs.BAD);
        CHECK.due("root after BAD", x.root(-1), Digests.EMPTY);
        CHECK.due("put(0)", x.put(0, -1), 1);
        CHECK.due("root of a leaf", x.root(-1), Digests.leaf(0, -1));
        CHECK.due("put(65535)", x.put(65535, 7), 1);
        CHECK.due("root of two", x.root(-1), Digests.fork(0, 0, Digests.leaf(0, -1), Digests.leaf(65535, 7)));
        CHECK.due("put(0) again", x.put(0, Long.MIN_VALUE), 0);
        long low = Digests.leaf(0, Long.MIN_VALUE);
        CHECK.due("root of two, rewritten", x.root(-1), Digests.fork(0, 0, low, Digests.leaf(65535, 7)));
        CHECK.due("put(65534)", x.put(65534, 6), 1);
        long high = Digests.fork(15, 65534, Digests.leaf(65534, 6), Digests.leaf(65535, 7));
        CHECK.due("root of three", x.root(-1), Digests.fork(0, 0, low, high));
        CHECK.due("put above a fork", x.put(0xF000, 5), 1);
        high = Digests.fork(4, 0xF000, Digests.leaf(0xF000, 5), high);
        CHECK.due("root of four", x.root(-1), Digests.fork(0, 0, low, high));
    }

    private static void putIsFull() {
        PathProofs x = new PathProofs();
        for (int i = 0; i < 300; i++) {
            CHECK.due("put leaf " + i, x.put(i * 218, i), 1);
        }
        long root = x.root(-1);
        CHECK.due("a 301st leaf", x.put(1, 1), PathProofs.FULL);
        CHECK.due("bad before full", x.put(65536, 1), PathProofs.BAD);
        CHECK.due("root after FULL", x.root(-1), root);
        CHECK.due("leaves after FULL", x.leaves(-1), 300);
        CHECK.due("one of the 300 again", x.put(218, 99), 0);
        CHECK.holds("the root changed", x.root(-1) != root);
        CHECK.due("remove one", x.remove(0), 1);
        CHECK.due("room again", x.put(1, 1), 1);
        CHECK.due("full again", x.put(2, 1), PathProofs.FULL);
    }

    private static void remove() {
        PathProofs x = new PathProofs();
        CHECK.due("remove(-1)", x.remove(-1), PathProofs.BAD);
        CHECK.due("remove(65536)", x.remove(65536), PathProofs.BAD);
        CHECK.due("remove of EMPTY", x.remove(5), 0);
        x.put(5, 1);
        CHECK.due("remove of another leaf", x.remove(4), 0);
        x.put(4, 2);
        x.put(40000, 3);
        CHECK.due("remove what a fork does not take in", x.remove(1024), 0);
        CHECK.due("remove one of a deep fork", x.remove(4), 1);
        CHECK.due("root", x.root(-1), Digests.fork(0, 0, Digests.leaf(5, 1), Digests.leaf(40000, 3)));
        CHECK.due("remove it again", x.remove(4), 0);
        CHECK.due("remove at the top", x.remove(40000), 1);
        CHECK.due("root of a leaf", x.root(-1), Digests.leaf(5, 1));
        CHECK.due("remove the last", x.remove(5), 1);
        CHECK.due("root of none", x.root(-1), Digests.EMPTY);
        CHECK.due("leaves of none", x.leaves(-1), 0);
    }

    private static void orderDoesNotMatter() {
        int[] paths = {0, 1, 2, 3, 4096, 4097, 8191, 32767, 32768, 49152, 65534, 65535};
        PathProofs up = new PathProofs();
        PathProofs down = new PathProofs();
        PathProofs around = new PathProofs();
        for (int i = 0; i < paths.length; i++) {
            up.put(paths[i], i);
            down.put(paths[paths.length - 1 - i], paths.length - 1 - i);
            around.put(paths[i * 5 % 12], 77);
            around.put(paths[i * 5 % 12] ^ 8, 77);
        }
        for (int i = 0; i < paths.length; i++) {
            around.remove(paths[i] ^ 8);
            around.put(paths[i], i);
        }
        CHECK.due("root, other order", down.root(-1), up.root(-1));
        CHECK.due("root, with removed ones", around.root(-1), up.root(-1));
    }

    private static void keep() {
        PathProofs x = new PathProofs();
        long[] roots = new long[8];
        for (int i = 0; i < 8; i++) {
            roots[i] = x.root(-1);
            CHECK.due("keep", x.keep(), i);
            CHECK.due("told(2)", x.told(2), i + 1);
            x.put(i, i);
        }
        CHECK.due("a 9th version", x.keep(), PathProofs.FULL);
        CHECK.due("told(2) after FULL", x.told(2), 8);
        CHECK.due("root(8) of 8 versions", x.root(8), 0);
        CHECK.due("leaves(8) of 8 versions", x.leaves(8), PathProofs.BAD);
        CHECK.due("show(8) of 8 versions", x.show(8), PathProofs.BAD);
        x.remove(0);
        for (int i = 0; i < 8; i++) {
            CHECK.due("root of version " + i, x.root(i), roots[i]);
            CHECK.due("leaves of version " + i, x.leaves(i), i);
        }
    }

    private static void root() {
        PathProofs x = new PathProofs();
        x.put(3, 3);
        CHECK.due("keep", x.keep(), 0);
        CHECK.due("root(-1)", x.root(-1), Digests.leaf(3, 3));
        CHECK.due("root(0)", x.root(0), Digests.leaf(3, 3));
        CHECK.due("root(1)", x.root(1), 0);
        CHECK.due("root(-2)", x.root(-2), 0);
        CHECK.due("root(8)", x.root(8), 0);
        CHECK.due("root(max)", x.root(Integer.MAX_VALUE), 0);
        CHECK.due("root(min)", x.root(Integer.MIN_VALUE), 0);
    }

    private static void leaves() {
        PathProofs x = new PathProofs();
        x.put(0, 1);
        x.put(65535, 1);
        x.keep();
        x.put(9, 9);
        x.put(9, 8);
        CHECK.due("leaves(-1)", x.leaves(-1), 3);
        CHECK.due("leaves(0)", x.leaves(0), 2);
        CHECK.due("leaves(1)", x.leaves(1), PathProofs.BAD);
        CHECK.due("leaves(-2)", x.leaves(-2), PathProofs.BAD);
        CHECK.due("leaves(8)", x.leaves(8), PathProofs.BAD);
    }

    private static void mostForks() {
        PathProofs x = new PathProofs();
        CHECK.due("told(5) of a leaf", x.put(0, 1) + x.told(5), 1);
        for (int i = 0; i < 16; i++) {
            x.put(1 << i, i);
            CHECK.due("told(5)", x.told(5), i + 1);
        }
        x.put(65535, 1);
        CHECK.due("told(5): the greatest", x.told(5), 16);
        x.remove(1);
        CHECK.due("told(5) after remove", x.told(5), 15);
        PathProofs high = new PathProofs();
        high.put(0, 0);
        high.put(65535, 0);
        high.put(65534, 0);
        CHECK.due("told(5) by the high one", high.told(5), 2);
    }
}
