/** Promises 11, 12, 13 and 24: feed, cut, spoil, octet. */
public final class TapeTest {
    private static final Check CHECK = new Check("TapeTest");

    public static void main(String[] args) {
        feed();
        feedIsFull();
        cut();
        spoil();
        octet();
        CHECK.end();
    }

    private static void feed() {
        PathProofs x = new PathProofs();
        CHECK.due("feed(0)", x.feed(0, 1), PathProofs.BAD);
        CHECK.due("feed(9)", x.feed(9, 1), PathProofs.BAD);
        CHECK.due("feed(-1)", x.feed(-1, 1), PathProofs.BAD);
        CHECK.due("feed(min)", x.feed(Integer.MIN_VALUE, 1), PathProofs.BAD);
        CHECK.due("feed(max)", x.feed(Integer.MAX_VALUE, 1), PathProofs.BAD);
        int length = 0;
        for (int n = 1; n <= 8; n++) {
            CHECK.due("feed(" + n + ")", x.feed(n, 0xF1F2F3F4F5F6F7F8L), length + n);
            for (int i = 0; i < n; i++) {
                CHECK.due("octet of feed(" + n + ")", x.octet(length + i), 0xF8 - (n - 1 - i));
            }
            length += n;
        }
        CHECK.due("told(0)", x.told(0), 36);
    }

    private static void feedIsFull() {
        PathProofs x = new PathProofs();
        for (int i = 1; i <= 499; i++) {
            CHECK.due("feed", x.feed(8, -1), 8 * i);
        }
        x.feed(7, -1);
        CHECK.due("feed beyond 4000", x.feed(2, 5), PathProofs.FULL);
        CHECK.due("bad before full", x.feed(9, 5), PathProofs.BAD);
        CHECK.due("told(0) after FULL", x.told(0), 3999);
        CHECK.due("feed up to 4000", x.feed(1, 5), 4000);
        CHECK.due("the last octet", x.octet(3999), 5);
        CHECK.due("feed one more", x.feed(1, 5), PathProofs.FULL);
        CHECK.due("octet(4000)", x.octet(4000), PathProofs.BAD);
        CHECK.due("cut one", x.cut(3999), 1);
        CHECK.due("feed again", x.feed(1, 6), 4000);
    }

    private static void cut() {
        PathProofs x = new PathProofs();
        CHECK.due("cut(0) of none", x.cut(0), 0);
        CHECK.due("cut(1) of none", x.cut(1), PathProofs.BAD);
        x.feed(8, 0x0102030405060708L);
        CHECK.due("cut(-1)", x.cut(-1), PathProofs.BAD);
        CHECK.due("cut(9)", x.cut(9), PathProofs.BAD);
        CHECK.due("cut(8)", x.cut(8), 0);
        CHECK.due("cut(5)", x.cut(5), 3);
        CHECK.due("told(0)", x.told(0), 5);
        CHECK.due("octet(4)", x.octet(4), 5);
        CHECK.due("octet(5)", x.octet(5), PathProofs.BAD);
        CHECK.due("cut(6)", x.cut(6), PathProofs.BAD);
        CHECK.due("feed behind", x.feed(1, 9), 6);
        CHECK.due("octet(5) is the new one", x.octet(5), 9);
        CHECK.due("cut(0)", x.cut(0), 6);
    }

    private static void spoil() {
        PathProofs x = new PathProofs();
        CHECK.due("spoil of none", x.spoil(0, 1), PathProofs.BAD);
        x.feed(2, 0x0F80);
        CHECK.due("spoil(0, 255)", x.spoil(0, 255), 0xF0);
        CHECK.due("spoil(1, 128)", x.spoil(1, 128), 0);
        CHECK.due("spoil(1, 0)", x.spoil(1, 0), 0);
        CHECK.due("spoil(0, 256)", x.spoil(0, 256), PathProofs.BAD);
        CHECK.due("spoil(0, -1)", x.spoil(0, -1), PathProofs.BAD);
        CHECK.due("spoil(2, 1)", x.spoil(2, 1), PathProofs.BAD);
        CHECK.due("spoil(-1, 1)", x.spoil(-1, 1), PathProofs.BAD);
        CHECK.due("octet(0)", x.octet(0), 0xF0);
        CHECK.due("octet(1)", x.octet(1), 0);
        x.cut(1);
        CHECK.due("spoil what is cut off", x.spoil(1, 1), PathProofs.BAD);
    }

    private static void octet() {
        PathProofs x = new PathProofs();
        CHECK.due("octet(0) of none", x.octet(0), PathProofs.BAD);
        x.feed(3, 0xFF007F);
        CHECK.due("octet(0)", x.octet(0), 255);
        CHECK.due("octet(1)", x.octet(1), 0);
        CHECK.due("octet(2)", x.octet(2), 127);
        CHECK.due("octet(3)", x.octet(3), PathProofs.BAD);
        CHECK.due("octet(-1)", x.octet(-1), PathProofs.BAD);
        CHECK.due("octet(max)", x.octet(Integer.MAX_VALUE), PathProofs.BAD);
        CHECK.due("octet(min)", x.octet(Integer.MIN_VALUE), PathProofs.BAD);
    }
}
