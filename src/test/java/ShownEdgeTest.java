/** Promises 7 to 10: each sentence that names a boundary has its own test. */
public final class ShownEdgeTest {
    private static final Check CHECK = new Check("ShownEdgeTest");
    private static final int BAD = PathProofs.BAD, NONE = PathProofs.NONE, FULL = PathProofs.FULL;

    public static void main(String[] args) {
        wantNoneSuchPaths();
        wantFromAboveTo();
        wantFull();
        wantedTwiceCountsTwice();
        forgetHowManyThereWere();
        showBad();
        showHowManyOctets();
        showFullMoreThan4000();
        showFullOfAVersion();
        passNone();
        passHiddenStaysSo();
        passFullMoreThan4000();
        passJust4000();
        CHECK.end();
    }

    private static Run run(String sentence) {
        return new Run(CHECK, sentence);
    }

    private static void wantNoneSuchPaths() {
        Run run = run("want: BAD: none such PATHS");
        run.put(0, 1, 1);
        run.put(65535, 1, 1);
        run.same().want(-1, 0, BAD);
        run.same().want(-1, -1, BAD);
        run.same().want(65535, 65536, BAD);
        run.same().want(65536, 65536, BAD);
        run.same().want(Integer.MIN_VALUE, Integer.MAX_VALUE, BAD);
        run.told(1, 0);
        run.want(0, 0, 1);
        run.want(65535, 65535, 2);
        run.want(0, 65535, 3);
        run.told(1, 3);
    }

    private static void wantFromAboveTo() {
        Run run = run("want: BAD: from is above to");
        run.put(4, 1, 1);
        run.put(5, 1, 1);
        run.same().want(5, 4, BAD);
        run.same().want(1, 0, BAD);
        run.same().want(65535, 65534, BAD);
        run.same().want(65535, 0, BAD);
        run.show(-1, 9);
        run.want(5, 5, 1);
        run.show(-1, 4 + 9 + 11);
        run.want(4, 5, 2);
        run.show(-1, 4 + 11 + 11);
    }

    private static void wantFull() {
        Run run = run("want: how many RANGES there are; FULL");
        run.put(4, 1, 1);
        run.put(5, 1, 1);
        for (int i = 1; i <= 19; i++) {
            run.want(5, 5, i);
        }
        run.told(1, 19);
        run.want(5, 5, 20);
        run.same().want(4, 4, FULL);
        run.same().want(5, 5, FULL);
        run.same().want(5, 4, BAD);
        run.same().want(0, 65536, BAD);
        run.told(1, 20);
        run.show(-1, 4 + 9 + 11);
        run.forget(20);
        run.want(4, 4, 1);
        run.show(-1, 4 + 11 + 9);
    }

    private static void wantedTwiceCountsTwice() {
        Run run = run("want: the RANGE is WANTED, too: how many RANGES there are");
        run.want(7, 9, 1);
        run.want(7, 9, 2);
        run.want(8, 8, 3);
        run.want(10, 10, 4);
        run.told(1, 4);
        run.forget(4);
    }

    private static void forgetHowManyThereWere() {
        Run run = run("forget: how many RANGES there were");
        run.put(7, 1, 1);
        run.same().forget(0);
        run.want(7, 7, 1);
        run.show(-1, 11);
        run.forget(1);
        run.told(1, 0);
        run.show(-1, 9);
        run.same().forget(0);
        for (int i = 1; i <= 20; i++) {
            run.want(0, i, i);
        }
        run.same().want(7, 7, FULL);
        run.forget(20);
        run.told(1, 0);
        run.show(-1, 9);
        run.want(0, 1, 1);
        run.forget(1);
    }

    private static void showBad() {
        Run run = run("show: BAD");
        int[] none = {-2, 0, 1, 7, 8, Integer.MIN_VALUE, Integer.MAX_VALUE};
        run.feed(3, 0x010203, 3);
        for (int version : none) {
            run.same().show(version, BAD);
        }
        run.keep(0);
        run.same().show(1, BAD);
        run.show(0, 9);
        for (int i = 1; i < 8; i++) {
            run.same().show(i, BAD);
            run.keep(i);
            run.show(i, 9);
        }
        run.same().show(8, BAD);
        run.same().show(-2, BAD);
        run.show(-1, 9);
    }

    private static void showHowManyOctets() {
        Run run = run("show: THE TAPE becomes it: how many octets");
        run.feed(8, -1, 8);
        run.feed(8, -1, 16);
        run.want(32768, 32768, 1);
        run.show(-1, 1);
        run.tapeIs(3);
        run.put(0x0102, 0x0304050607080910L, 1);
        run.show(-1, 11);
        run.tapeIs(2, 1, 2, 3, 4, 5, 6, 7, 8, 9, 16);
        run.put(0xFFFF, 0, 1);
        run.show(-1, 24);
        run.octet(0, 1);
        run.octet(4, 0);
        run.octet(13, 2);
        run.octet(23, 0);
        run.octet(24, BAD);
        run.remove(0x0102, 1);
        run.remove(0xFFFF, 1);
        run.show(-1, 1);
        run.tapeIs(3);
        run.forget(1);
        run.show(-1, 9);
        run.octet(0, 0);
        run.octet(9, BAD);
    }

    /** 260 leaves and 8 hidden ones with their 267 forks have 4000 octets. */
    private static void showFullMoreThan4000() {
        Run run = run("show: FULL: more than 4000");
        for (int path = 0; path < 252; path++) {
            run.put(path, 1, 1);
        }
        run.want(0, 251, 1);
        for (int pair = 0; pair < 8; pair++) {
            run.put(32768 + 2 * pair, 1, 1);
            run.put(32769 + 2 * pair, 1, 1);
            run.want(32768 + 2 * pair, 32768 + 2 * pair, 2 + pair);
        }
        run.show(-1, 4000);
        run.octet(3999, (int) (Digests.leaf(32783, 1) & 255));
        run.want(32769, 32769, 10);
        run.same().show(-1, FULL);
        run.remove(32783, 1);
        run.show(-1, 4000 + 2 - 13);
    }

    /** 267 leaves with 266 forks have 4001 octets. */
    private static void showFullOfAVersion() {
        Run run = run("show: FULL: more than 4000, 4001 of a VERSION");
        run.want(0, 65535, 1);
        for (int i = 0; i < 266; i++) {
            run.put(i * 240, i, 1);
        }
        run.keep(0);
        run.show(-1, 3986);
        run.put(65535, 1, 1);
        run.keep(1);
        run.same().show(-1, FULL);
        run.same().show(1, FULL);
        run.same().show(2, BAD);
        run.feed(1, 5, 3987);
        run.show(0, 3986);
        run.put(65534, 1, 1);
        run.same().show(1, FULL);
        run.remove(65534, 1);
        run.remove(65535, 1);
        run.show(-1, 3986);
        run.same().show(1, FULL);
        run.forget(1);
        run.show(1, 9);
    }

    private static void passNone() {
        Run run = run("pass: NONE");
        run.feed(2, 0x0303, 2);
        run.same().pass(NONE);
        run.fault(6, 1);
        run.same().pass(NONE);
        run.want(0, 0, 1);
        run.same().pass(NONE);
        run.cut(1, 1);
        run.take(Digests.EMPTY, 1);
        run.cut(0, 1);
        run.pass(1);
        run.tapeIs(3);
    }

    private static void passHiddenStaysSo() {
        Run run = run("pass: what is HIDDEN there stays so, whatever is WANTED");
        run.fork(12, 16);
        run.leaf(16, 160);
        run.hidden(0x0102030405060708L);
        long digest = Digests.fork(12, 16, Digests.leaf(16, 160), 0x0102030405060708L);
        run.take(digest, 3);
        run.pass(9);
        run.want(24, 31, 1);
        run.pass(4 + 9 + 9);
        run.octet(13, 0);
        run.octet(14, 1);
        run.octet(21, 8);
        run.want(23, 23, 2);
        run.pass(4 + 11 + 9);
        run.want(0, 65535, 3);
        run.pass(4 + 11 + 9);
        run.octet(15, 0);
        run.octet(16, 1);
        run.octet(23, 8);
        run.octet(24, BAD);
        run.take(digest, 3);
        run.cutAll();
        run.hidden(-1);
        run.take(-1, 1);
        run.cutAll();
        run.pass(9);
        run.tapeIs(0, 255, 255, 255, 255, 255, 255, 255, 255);
    }

    /** 267 leaves with 266 forks have 4001 octets. */
    private static void passFullMoreThan4000() {
        Run run = run("pass: FULL: more than 4000, 4001");
        run.want(0, 65535, 1);
        run.empty();
        run.take(Digests.EMPTY, 1);
        for (int i = 0; i < 266; i++) {
            run.write(i * 240, i, 1);
        }
        run.pass(3986);
        run.write(65535, 1, 1);
        run.same().pass(FULL);
        run.erase(0, 1);
        run.pass(3986);
        run.write(0, 1, 1);
        run.same().pass(FULL);
        run.forget(1);
        run.pass(9);
    }

    /** 8 hidden ones and 260 leaves with 267 forks have 4000 octets. */
    private static void passJust4000() {
        Run run = run("pass: FULL: more than 4000, with HIDDEN ones");
        run.want(0, 65535, 1);
        run.fork(0, 0);
        long hidden = feedHidden(run, 13, 0);
        run.leaf(32768, 0);
        run.take(Digests.fork(0, 0, hidden, Digests.leaf(32768, 0)), 17);
        for (int i = 1; i < 259; i++) {
            run.write(32768 + i, i, 1);
        }
        run.pass(3985);
        run.write(32768 + 259, 259, 1);
        run.pass(4000);
        run.octet(3998, 1);
        run.octet(3999, 3);
        run.write(65535, 1, 1);
        run.same().pass(FULL);
        run.erase(65535, 1);
        run.pass(4000);
    }

    /** All nodes from this fork on, down to hidden ones of one path each; the digest of the fork. */
    private static long feedHidden(Run run, int bit, int stem) {
        if (bit == 16) {
            run.hidden(stem);
            return stem;
        }
        run.fork(bit, stem);
        long low = feedHidden(run, bit + 1, stem);
        return Digests.fork(bit, stem, low, feedHidden(run, bit + 1, stem + (0x8000 >> bit)));
    }
}
