/** Promises 1 to 6: each sentence that names a boundary has its own test. */
public final class TreeEdgeTest {
    private static final Check CHECK = new Check("TreeEdgeTest");
    private static final int BAD = PathProofs.BAD, NONE = PathProofs.NONE, FULL = PathProofs.FULL;

    public static void main(String[] args) {
        newTreeIsEmpty();
        nothingIsWanted();
        newTapeIsEmpty();
        thereIsNoView();
        newOrThere();
        putFull301stLeaf();
        putFullOfTheDeepestTree();
        putFullDoesNotCountVersions();
        removedOrNotThere();
        removeToTheLast();
        keepNumbers();
        keepFull();
        keptStaysAsItIs();
        rootNoneSuch();
        rootOfEveryVersion();
        leavesBad();
        leavesFromNoneToFull();
        CHECK.end();
    }

    private static Run run(String sentence) {
        return new Run(CHECK, sentence);
    }

    private static void newTreeIsEmpty() {
        Run run = run("THE TREE is EMPTY");
        run.root(-1, Digests.EMPTY);
        run.leaves(-1, 0);
        run.told(2, 0);
        run.told(5, 0);
        run.root(0, 0);
        run.leaves(0, BAD);
        run.same().remove(0, 0);
        run.want(0, 65535, 1);
        run.show(-1, 1);
        run.tapeIs(3);
        run.put(0, 0, 1);
        run.leaves(-1, 1);
    }

    private static void nothingIsWanted() {
        Run run = run("nothing is WANTED");
        run.told(1, 0);
        run.same().forget(0);
        run.put(0, 0, 1);
        run.show(-1, 9);
        run.want(0, 0, 1);
        run.told(1, 1);
        run.show(-1, 11);
    }

    private static void newTapeIsEmpty() {
        Run run = run("THE TAPE is empty");
        run.told(0, 0);
        run.same().octet(0, BAD);
        run.same().spoil(0, 0, BAD);
        run.same().cut(0, 0);
        run.same().cut(1, BAD);
        run.fault(1, 0);
        run.feed(1, 9, 1);
        run.told(0, 1);
        run.octet(0, 9);
    }

    private static void thereIsNoView() {
        Run run = run("there is no VIEW");
        run.same().view(0);
        run.same().told(3, 0);
        run.same().told(4, 0);
        run.same().get(0, NONE);
        run.same().value(0);
        run.same().place(NONE);
        run.same().write(0, 0, NONE);
        run.same().erase(0, NONE);
        run.same().count(0, 65535, NONE);
        run.same().next(0, NONE);
        run.same().pass(NONE);
        run.empty();
        run.take(Digests.EMPTY, 1);
        run.view(Digests.EMPTY);
        run.told(3, 1);
    }

    private static void newOrThere() {
        Run run = run("put: 1 it is new, 0 it was there");
        run.put(8, 1, 1);
        run.put(9, 1, 1);
        run.put(8, 1, 0);
        run.put(9, 2, 0);
        run.leaves(-1, 2);
        run.root(-1, Digests.fork(15, 8, Digests.leaf(8, 1), Digests.leaf(9, 2)));
        run.remove(8, 1);
        run.put(8, 3, 1);
        run.root(-1, Digests.fork(15, 8, Digests.leaf(8, 3), Digests.leaf(9, 2)));
        run.put(8, 1, 0);
        run.put(9, 2, 0);
        run.root(-1, Digests.fork(15, 8, Digests.leaf(8, 1), Digests.leaf(9, 2)));
    }

    private static void putFull301stLeaf() {
        Run run = run("put: FULL: a 301st LEAF");
        for (int i = 0; i < 299; i++) {
            run.put(i * 200, i, 1);
        }
        run.leaves(-1, 299);
        run.put(0, -1, 0);
        run.leaves(-1, 299);
        run.put(65535, 1, 1);
        run.leaves(-1, 300);
        run.same().put(65534, 1, FULL);
        run.same().put(1, 1, FULL);
        run.same().put(65536, 1, BAD);
        run.put(65535, 2, 0);
        run.put(0, 2, 0);
        run.leaves(-1, 300);
        run.remove(200, 1);
        run.put(201, 1, 1);
        run.same().put(200, 1, FULL);
        run.leaves(-1, 300);
    }

    /** On the way to 0 are 16 forks, the most there can be. */
    private static void putFullOfTheDeepestTree() {
        Run run = run("put: FULL: a 301st LEAF, with 16 FORKS on a WAY");
        run.put(0, 1, 1);
        for (int i = 0; i < 16; i++) {
            run.put(1 << i, 1, 1);
        }
        run.told(5, 16);
        for (int i = 17; i < 299; i++) {
            run.put(65535 - i, 1, 1);
        }
        run.leaves(-1, 299);
        run.put(65535, 1, 1);
        run.leaves(-1, 300);
        run.same().put(65534, 1, FULL);
        run.same().put(3, 1, FULL);
        run.put(0, 2, 0);
        run.put(1, 2, 0);
        run.told(5, 16);
        run.remove(0, 1);
        run.told(5, 15);
        run.put(3, 1, 1);
        run.same().put(0, 1, FULL);
    }

    private static void putFullDoesNotCountVersions() {
        Run run = run("put: FULL: a 301st LEAF of THE TREE as it is now");
        for (int i = 0; i < 300; i++) {
            run.put(i, i, 1);
        }
        run.keep(0);
        run.same().put(300, 1, FULL);
        run.remove(0, 1);
        run.put(300, 1, 1);
        run.same().put(0, 1, FULL);
        run.leaves(0, 300);
        run.leaves(-1, 300);
    }

    private static void removedOrNotThere() {
        Run run = run("remove: 1; 0: it was not there");
        run.same().remove(8, 0);
        run.put(8, 1, 1);
        run.same().remove(9, 0);
        run.same().remove(7, 0);
        run.put(9, 1, 1);
        // Beside what the fork of 8 and 9 takes in.
        run.same().remove(7, 0);
        run.same().remove(10, 0);
        run.remove(8, 1);
        run.same().remove(8, 0);
        run.root(-1, Digests.leaf(9, 1));
    }

    private static void removeToTheLast() {
        Run run = run("remove: the whole NODE, if it is the LEAF, EMPTY");
        run.put(0, 1, 1);
        run.put(65535, 1, 1);
        run.remove(0, 1);
        run.root(-1, Digests.leaf(65535, 1));
        run.leaves(-1, 1);
        run.remove(65535, 1);
        run.root(-1, Digests.EMPTY);
        run.leaves(-1, 0);
        run.same().remove(65535, 0);
        run.put(65535, 1, 1);
        run.root(-1, Digests.leaf(65535, 1));
    }

    private static void keepNumbers() {
        Run run = run("keep: its number (0, 1, .. 7)");
        for (int i = 0; i < 8; i++) {
            run.told(2, i);
            run.keep(i);
            run.told(2, i + 1);
            run.root(i, Digests.EMPTY);
            run.leaves(i, 0);
            run.root(i + 1, 0);
        }
        Run twice = run("keep: the same tree twice has two numbers");
        twice.keep(0);
        twice.put(1, 1, 1);
        twice.keep(1);
        twice.keep(2);
        twice.remove(1, 1);
        twice.keep(3);
        twice.root(0, Digests.EMPTY);
        twice.root(1, Digests.leaf(1, 1));
        twice.root(2, Digests.leaf(1, 1));
        twice.root(3, Digests.EMPTY);
    }

    private static void keepFull() {
        Run run = run("keep: FULL: there are 8");
        for (int i = 0; i < 7; i++) {
            run.put(i, i, 1);
            run.keep(i);
        }
        run.put(7, 7, 1);
        run.keep(7);
        run.put(8, 8, 1);
        run.same().keep(FULL);
        run.same().keep(FULL);
        run.told(2, 8);
        run.leaves(7, 8);
        run.leaves(-1, 9);
        run.root(8, 0);
        run.leaves(8, BAD);
        run.same().show(8, BAD);
        for (int i = 0; i < 8; i++) {
            run.leaves(i, i + 1);
        }
    }

    private static void keptStaysAsItIs() {
        Run run = run("keep: THE TREE as it is now");
        run.keep(0);
        run.put(1, 1, 1);
        run.keep(1);
        run.put(1, 2, 0);
        run.put(2, 1, 1);
        run.keep(2);
        run.remove(1, 1);
        run.remove(2, 1);
        run.root(-1, Digests.EMPTY);
        run.root(0, Digests.EMPTY);
        run.root(1, Digests.leaf(1, 1));
        run.root(2, Digests.fork(14, 0, Digests.leaf(1, 2), Digests.leaf(2, 1)));
        run.leaves(0, 0);
        run.leaves(1, 1);
        run.leaves(2, 2);
        run.want(0, 65535, 1);
        run.show(2, 26);
        run.show(1, 11);
        run.show(0, 1);
    }

    private static void rootNoneSuch() {
        Run run = run("root: 0: none such");
        int[] none = {-2, 0, 1, 7, 8, 9, Integer.MIN_VALUE, Integer.MAX_VALUE};
        run.put(1, 1, 1);
        for (int version : none) {
            run.same().root(version, 0);
        }
        run.same().root(-1, Digests.leaf(1, 1));
        run.keep(0);
        run.same().root(0, Digests.leaf(1, 1));
        run.same().root(1, 0);
        run.same().root(-2, 0);
    }

    private static void rootOfEveryVersion() {
        Run run = run("root: the DIGEST of a VERSION, or of THE TREE as it is now (-1)");
        for (int i = 0; i < 8; i++) {
            run.put(5, i, i == 0 ? 1 : 0);
            run.keep(i);
            run.root(i, Digests.leaf(5, i));
            run.root(i + 1, 0);
        }
        run.put(5, 8, 0);
        for (int i = 0; i < 8; i++) {
            run.same().root(i, Digests.leaf(5, i));
        }
        run.root(-1, Digests.leaf(5, 8));
        run.root(8, 0);
        run.root(-2, 0);
    }

    private static void leavesBad() {
        Run run = run("leaves: BAD");
        int[] none = {-2, 0, 1, 7, 8, 9, Integer.MIN_VALUE, Integer.MAX_VALUE};
        run.put(1, 1, 1);
        for (int version : none) {
            run.same().leaves(version, BAD);
        }
        run.same().leaves(-1, 1);
        for (int i = 0; i < 8; i++) {
            run.same().leaves(i, BAD);
            run.keep(i);
            run.same().leaves(i, 1);
        }
        run.same().leaves(8, BAD);
        run.same().leaves(-2, BAD);
    }

    private static void leavesFromNoneToFull() {
        Run run = run("leaves: how many LEAVES a VERSION, or THE TREE (-1), has");
        run.leaves(-1, 0);
        run.keep(0);
        run.put(65535, 1, 1);
        run.leaves(-1, 1);
        run.keep(1);
        for (int i = 0; i < 299; i++) {
            run.put(i * 219, 1, 1);
        }
        run.leaves(-1, 300);
        run.keep(2);
        run.remove(0, 1);
        run.leaves(-1, 299);
        run.leaves(0, 0);
        run.leaves(1, 1);
        run.leaves(2, 300);
    }
}
