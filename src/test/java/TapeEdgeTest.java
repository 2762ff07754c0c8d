/** Promises 11 to 13 and 24: each sentence that names a boundary has its own test. */
public final class TapeEdgeTest {
    private static final Check CHECK = new Check("TapeEdgeTest");
    private static final int BAD = PathProofs.BAD, FULL = PathProofs.FULL;

    public static void main(String[] args) {
        feedLowestOctets();
        feedBad();
        for (int n = 1; n <= 8; n++) {
            feedFull(n);
        }
        feedBehindWhatIsShown();
        cutBad();
        cutKeepsTheFirst();
        cutOfAFullTape();
        spoilBadOctet();
        spoilBadMask();
        spoilEveryMask();
        octetBad();
        octetOfAFullTape();
        CHECK.end();
    }

    private static Run run(String sentence) {
        return new Run(CHECK, sentence);
    }

    private static Run full(String sentence, int octets) {
        Run run = run(sentence);
        for (int length = 8; length <= octets; length += 8) {
            run.feed(8, -1, length);
        }
        for (int length = octets / 8 * 8 + 1; length <= octets; length++) {
            run.feed(1, length, length);
        }
        return run;
    }

    private static void feedLowestOctets() {
        Run run = run("feed: the n lowest octets of v, the highest of them first");
        run.feed(1, 0x1FF, 1);
        run.feed(1, 0x100, 2);
        run.feed(2, 0x0A0B0C, 4);
        run.feed(7, 0xF102030405060708L, 11);
        run.feed(8, 0xF102030405060708L, 19);
        run.feed(8, Long.MIN_VALUE, 27);
        run.feed(1, -128, 28);
        run.tapeIs(255, 0, 0x0B, 0x0C, 2, 3, 4, 5, 6, 7, 8, 0xF1, 2, 3, 4, 5, 6, 7, 8, 128, 0, 0, 0, 0, 0, 0, 0, 128);
    }

    private static void feedBad() {
        Run run = run("feed: BAD: n is not 1 .. 8");
        int[] bad = {0, 9, -1, -8, 16, 257, Integer.MIN_VALUE, Integer.MAX_VALUE};
        for (int n : bad) {
            run.same().feed(n, -1, BAD);
        }
        run.feed(1, 1, 1);
        run.feed(8, 8, 9);
        for (int n : bad) {
            run.same().feed(n, -1, BAD);
        }
        run.tapeIs(1, 0, 0, 0, 0, 0, 0, 0, 8);
    }

    private static void feedFull(int n) {
        Run run = full("feed: FULL: " + n + " octets behind " + (4001 - n), 4001 - n);
        run.same().feed(n, 0, FULL);
        run.same().feed(9, 0, BAD);
        run.cut(4000 - n, 1);
        run.feed(n, -2, 4000);
        run.octet(3999, 254);
    }

    private static void feedBehindWhatIsShown() {
        Run run = run("feed: come behind THE TAPE");
        run.want(0, 65535, 1);
        for (int i = 0; i < 266; i++) {
            run.put(i, 0x77, 1);
        }
        run.show(-1, 3986);
        run.octet(3985, 0x77);
        run.feed(8, 1, 3994);
        run.same().feed(7, 0, FULL);
        run.feed(6, 2, 4000);
        run.same().feed(1, 0, FULL);
        run.octet(3985, 0x77);
        run.octet(3986, 0);
        run.octet(3993, 1);
        run.octet(3999, 2);
        run.fault(6, 3986);
        run.show(-1, 3986);
    }

    private static void cutBad() {
        Run run = run("cut: BAD");
        run.same().cut(-1, BAD);
        run.same().cut(1, BAD);
        run.same().cut(0, 0);
        run.feed(3, 0x0A0B0C, 3);
        int[] bad = {-1, 4, 5, 4000, 4001, Integer.MIN_VALUE, Integer.MAX_VALUE};
        for (int n : bad) {
            run.same().cut(n, BAD);
        }
        run.same().cut(3, 0);
        run.cut(2, 1);
        run.same().cut(3, BAD);
        run.tapeIs(0x0A, 0x0B);
        run.cut(0, 2);
        run.same().cut(1, BAD);
        run.tapeIs();
    }

    private static void cutKeepsTheFirst() {
        Run run = run("cut: THE TAPE keeps its first n octets: how many went");
        run.feed(8, 0x0102030405060708L, 8);
        run.cut(8, 0);
        run.cut(7, 1);
        run.tapeIs(1, 2, 3, 4, 5, 6, 7);
        run.cut(1, 6);
        run.tapeIs(1);
        run.feed(1, 9, 2);
        run.tapeIs(1, 9);
        run.same().octet(2, BAD);
        run.cut(0, 2);
        run.same().octet(0, BAD);
    }

    private static void cutOfAFullTape() {
        Run run = full("cut: of 4000 octets", 4000);
        run.same().cut(4001, BAD);
        run.cut(4000, 0);
        run.cut(3999, 1);
        run.feed(1, 5, 4000);
        run.octet(3999, 5);
        run.cut(0, 4000);
        run.told(0, 0);
    }

    private static void spoilBadOctet() {
        Run run = run("spoil: octet i of THE TAPE; BAD");
        run.same().spoil(0, 1, BAD);
        run.feed(3, 0x0A0B0C, 3);
        int[] bad = {-1, 3, 4, 3999, 4000, Integer.MIN_VALUE, Integer.MAX_VALUE};
        for (int i : bad) {
            run.same().spoil(i, 1, BAD);
        }
        run.spoil(0, 1, 0x0B);
        run.spoil(2, 1, 0x0D);
        run.tapeIs(0x0B, 0x0B, 0x0D);
        run.cut(2, 1);
        run.same().spoil(2, 1, BAD);
        run.spoil(1, 1, 0x0A);
    }

    private static void spoilBadMask() {
        Run run = run("spoil: mask (0 .. 255)");
        run.feed(2, 0x5A00, 2);
        int[] bad = {-1, 256, 257, 511, -255, -256, Integer.MIN_VALUE, Integer.MAX_VALUE};
        for (int mask : bad) {
            run.same().spoil(0, mask, BAD);
            run.same().spoil(1, mask, BAD);
            run.same().spoil(2, mask, BAD);
        }
        run.same().spoil(0, 0, 0x5A);
        run.spoil(0, 255, 0xA5);
        run.spoil(0, 1, 0xA4);
        run.spoil(1, 255, 255);
        run.spoil(1, 254, 1);
        run.tapeIs(0xA4, 1);
    }

    private static void spoilEveryMask() {
        Run run = run("spoil: is exclusive or with mask: what it is");
        run.feed(1, 0xC3, 1);
        for (int mask = 0; mask < 256; mask++) {
            run.spoil(0, mask, mask % 4 == 0 ? 0xC3 ^ mask : mask % 4 == 1 ? 0xC2 : mask % 4 == 2 ? 0xC2 ^ mask : 0xC3);
        }
        run.octet(0, 0xC3);
    }

    private static void octetBad() {
        Run run = run("octet: octet i of THE TAPE. BAD");
        run.same().octet(0, BAD);
        run.same().octet(-1, BAD);
        run.feed(3, 0xFF007F, 3);
        int[] bad = {-1, 3, 4, 3999, 4000, Integer.MIN_VALUE, Integer.MAX_VALUE};
        for (int i : bad) {
            run.same().octet(i, BAD);
        }
        run.same().octet(0, 255);
        run.same().octet(1, 0);
        run.same().octet(2, 127);
    }

    private static void octetOfAFullTape() {
        Run run = full("octet: of 3999 and 4000 octets", 3999);
        run.octet(3998, 3999 & 255);
        run.octet(3999, BAD);
        run.feed(1, 6, 4000);
        run.octet(3999, 6);
        run.octet(4000, BAD);
    }
}
