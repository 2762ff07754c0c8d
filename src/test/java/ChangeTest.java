import java.util.ArrayList;
import java.util.Arrays;
import java.util.LinkedHashMap;
import java.util.List;
import java.util.Map;
import java.util.Set;
import java.util.TreeSet;

/**
 * Each call changes just the parts of an object that its promise names: where it is carried out, where it is
 * refused in an object that has all parts, in one without a view, and in one that is full in every way.
 */
public final class ChangeTest {
    private static final Check CHECK = new Check("ChangeTest");
    private static final int BAD = PathProofs.BAD, NONE = PathProofs.NONE;
    private static final int FULL = PathProofs.FULL, MISSING = PathProofs.MISSING;
    private static final long TAKEN = Digests.fork(0, 0, Digests.fork(12, 0x1000, Digests.leaf(0x1003, 30), 99),
            Digests.leaf(0x9000, 40));
    private static final int FIRST_OCTETS = 45, LAST_OCTETS = 40;
    private static final Map<String, Part> PARTS = new LinkedHashMap<>();

    private interface Call {
        long on(PathProofs x);
    }

    private interface Part {
        List<Long> of(PathProofs x);
    }

    private interface State {
        PathProofs made();
    }

    private final State state;

    private ChangeTest(State state) {
        this.state = state;
    }

    public static void main(String[] args) {
        PARTS.put("tree", ChangeTest::tree);
        PARTS.put("versions", ChangeTest::versions);
        PARTS.put("wanted", ChangeTest::wanted);
        PARTS.put("tape", ChangeTest::tape);
        PARTS.put("view", ChangeTest::view);
        PARTS.put("place", x -> List.of((long) x.place()));
        PARTS.put("value", x -> List.of(x.value()));
        ChangeTest usual = new ChangeTest(ChangeTest::withView);
        usual.treeCalls();
        usual.shownCalls();
        usual.tapeCalls();
        usual.readerCalls();
        usual.badCalls();
        usual.missingCalls();
        new ChangeTest(ChangeTest::withoutView).noneCalls();
        new ChangeTest(ChangeTest::full).fullCalls();
        CHECK.end();
    }

    // ---- the calls, with their answers and the parts that they change

    private void treeCalls() {
        changes("put, a new path", x -> x.put(9, 9), 1, "tree");
        changes("put, one that is there", x -> x.put(0x5000, 9), 0, "tree");
        changes("remove", x -> x.remove(0x5000), 1, "tree");
        changes("remove, not there", x -> x.remove(9), 0);
        changes("keep", PathProofs::keep, 2, "versions");
        changes("root", x -> x.root(2), 0);
        changes("leaves", x -> x.leaves(-1), 7);
    }

    private void shownCalls() {
        changes("want", x -> x.want(0, 65535), 3, "wanted");
        changes("forget", PathProofs::forget, 2, "wanted");
        changes("show", x -> x.show(0), 4 * 4 + 11 + 4 * 9, "tape");
        changes("pass", PathProofs::pass, 4 + 11 + 9, "tape");
    }

    private void tapeCalls() {
        changes("feed", x -> x.feed(8, 5), 48, "tape");
        changes("cut", x -> x.cut(7), 33, "tape");
        changes("cut, nothing goes", x -> x.cut(40), 0);
        changes("spoil", x -> x.spoil(39, 3), 3, "tape");
        changes("spoil with 0", x -> x.spoil(39, 0), 0);
        changes("octet", x -> x.octet(0), 1);
    }

    private void readerCalls() {
        changes("take, a fault at the same place", x -> x.take(1), -16);
        changes("take, a fault elsewhere", x -> x.cut(38) + x.take(1), 2 - 11, "tape", "place");
        changes("take", x -> x.cut(39) + x.take(TAKEN), 1 + 5, "tape", "view", "place");
        changes("place", PathProofs::place, 39);
        changes("get, there", x -> x.get(0x1003), 1, "value");
        changes("get, not there", x -> x.get(0x9002), 0, "value");
        changes("value", PathProofs::value, 40);
        changes("write, a new path", x -> x.write(0x9002, 5), 1, "view");
        changes("write, one that is there", x -> x.write(0x1003, 5), 0, "view");
        changes("erase", x -> x.erase(0x1003), 1, "view");
        changes("erase, not there", x -> x.erase(0x9002), 0);
        changes("view", PathProofs::view, Digests.fork(12, 0x1000, Digests.leaf(0x1003, 30), 99));
        changes("count", x -> x.count(0, 0x1007), 1);
        changes("next", x -> x.next(0), 0x1003);
        int[] due = {40, 2, 2, 3, 1, 5};
        for (int i = 0; i < due.length; i++) {
            int what = i;
            changes("told(" + what + ")", x -> x.told(what), due[what]);
        }
    }

    /** "They change nothing", but for value(), which is 0 when the latest get() did not answer 1. */
    private void badCalls() {
        changes("put, BAD", x -> x.put(65536, 1), BAD);
        changes("remove, BAD", x -> x.remove(-1), BAD);
        changes("leaves, BAD", x -> x.leaves(2), BAD);
        changes("want, BAD", x -> x.want(2, 1), BAD);
        changes("show, BAD", x -> x.show(2), BAD);
        changes("feed, BAD", x -> x.feed(0, 1), BAD);
        changes("cut, BAD", x -> x.cut(41), BAD);
        changes("spoil, BAD", x -> x.spoil(40, 1), BAD);
        changes("octet, BAD", x -> x.octet(40), BAD);
        changes("get, BAD", x -> x.get(65536), BAD, "value");
        changes("write, BAD", x -> x.write(-1, 1), BAD);
        changes("erase, BAD", x -> x.erase(65536), BAD);
        changes("count, BAD", x -> x.count(1, 0), BAD);
        changes("next, BAD", x -> x.next(65536), BAD);
        changes("told, BAD", x -> x.told(6), BAD);
    }

    private void missingCalls() {
        changes("get, MISSING", x -> x.get(0x1008), MISSING, "value");
        changes("write, MISSING", x -> x.write(0x1008, 1), MISSING);
        changes("erase, MISSING", x -> x.erase(0x1008), MISSING);
        changes("count, MISSING", x -> x.count(0, 65535), MISSING);
        changes("next, MISSING", x -> x.next(0x1004), MISSING);
    }

    private void noneCalls() {
        changes("pass, NONE", PathProofs::pass, NONE);
        changes("get, NONE", x -> x.get(0x1003), NONE);
        changes("write, NONE", x -> x.write(0x1003, 1), NONE);
        changes("erase, NONE", x -> x.erase(0x1003), NONE);
        changes("count, NONE", x -> x.count(0, 65535), NONE);
        changes("next, NONE", x -> x.next(0), NONE);
        changes("view, 0", PathProofs::view, 0);
        changes("told(3), 0", x -> x.told(3), 0);
        changes("told(4), 0", x -> x.told(4), 0);
    }

    private void fullCalls() {
        changes("put, FULL", x -> x.put(65535, 1), FULL);
        changes("keep, FULL", PathProofs::keep, FULL);
        changes("want, FULL", x -> x.want(0, 65535), FULL);
        changes("show, FULL", x -> x.show(-1), FULL);
        changes("pass, FULL", PathProofs::pass, FULL);
        changes("feed, FULL", x -> x.feed(8, -1), FULL);
        changes("write, FULL", x -> x.write(0x4FFF, 1), FULL);
    }

    // ---- the objects on which they are called

    /** Version 0 has leaves on both sides of the first range, so that what is shown of it tells of the range. */
    private static PathProofs withoutView() {
        PathProofs x = new PathProofs();
        x.put(0x2000, 0);
        x.put(0x3FFF, 1);
        x.put(0x4000, 2);
        x.put(0x5000, 3);
        x.put(0xA000, 4);
        x.keep();
        x.put(0x4001, 5);
        x.keep();
        x.put(0x4002, 6);
        x.want(0x4000, 0x4FFF);
        x.want(0x1000, 0x1007);
        x.feed(4, 0x01000000);
        x.feed(4, 0x010C1000);
        x.feed(3, 0x021003);
        x.feed(8, 30);
        x.feed(1, 0);
        x.feed(8, 99);
        x.feed(3, 0x029000);
        x.feed(8, 40);
        x.feed(1, 0);
        x.take(TAKEN);
        return x;
    }

    /** A fault is there, too, and a value; the view is another one than the tape tells. */
    private static PathProofs withView() {
        PathProofs x = withoutView();
        x.cut(39);
        x.take(TAKEN);
        x.get(0x9000);
        x.erase(0x9000);
        x.feed(1, 0);
        x.take(TAKEN);
        return x;
    }

    /** 300 leaves, 8 versions, 20 ranges, 3996 octets, 699 nodes; tree and view have too many octets to be shown. */
    private static PathProofs full() {
        PathProofs x = new PathProofs();
        x.put(0x3FFF, 1);
        x.put(0x4000, 2);
        x.put(0x5000, 3);
        x.put(0xA000, 4);
        x.keep();
        for (int i = 1; i < 264; i++) {
            x.put(0x4000 + i, i);
        }
        x.want(0x4000, 0x4FFF);
        CHECK.due("264 leaves, 3 hidden ones and 266 forks", x.show(-1), 11 * 264 + 9 * 3 + 4 * 266);
        CHECK.due("their nodes", x.take(x.root(-1)), 533);
        for (int i = 264; i < 297; i++) {
            x.put(0x4000 + i, i);
        }
        for (int i = 1; i < 8; i++) {
            x.keep();
        }
        for (int i = 1; i < 20; i++) {
            x.want(0x4000 + i, 0x4000 + i);
        }
        for (int i = 264; i < 264 + 83; i++) {
            x.write(0x4000 + i, -i);
        }
        x.get(0x4000);
        x.feed(1, 7);
        x.take(0);
        return x;
    }

    // ---- how they are compared; no object is asked more than 90 questions, for full() has had its 420 calls

    private void changes(String name, Call call, long due, String... parts) {
        CHECK.due(name, call.on(state.made()), due);
        Set<String> changed = new TreeSet<>();
        for (Map.Entry<String, Part> part : PARTS.entrySet()) {
            PathProofs after = state.made();
            call.on(after);
            if (!part.getValue().of(after).equals(part.getValue().of(state.made()))) {
                changed.add(part.getKey());
            }
        }
        Set<String> named = new TreeSet<>(Arrays.asList(parts));
        CHECK.holds(name + " must change " + named + ", and changes " + changed, changed.equals(named));
    }

    private static List<Long> tree(PathProofs x) {
        return List.of(x.root(-1), (long) x.leaves(-1), (long) x.told(5));
    }

    private static List<Long> versions(PathProofs x) {
        List<Long> answers = new ArrayList<>();
        answers.add((long) x.told(2));
        for (int version = 0; version < 8; version++) {
            answers.add(x.root(version));
            answers.add((long) x.leaves(version));
        }
        return answers;
    }

    private static List<Long> wanted(PathProofs x) {
        List<Long> answers = new ArrayList<>();
        answers.add((long) x.told(1));
        x.show(0);
        answers.addAll(tape(x));
        return answers;
    }

    private static List<Long> tape(PathProofs x) {
        List<Long> answers = new ArrayList<>();
        int length = x.told(0);
        answers.add((long) length);
        for (int i = 0; i <= length; i++) {
            if (i < FIRST_OCTETS || i > length - LAST_OCTETS) {
                answers.add((long) x.octet(i));
            }
        }
        return answers;
    }

    private static List<Long> view(PathProofs x) {
        return List.of(x.view(), (long) x.told(3), (long) x.told(4), (long) x.count(0, 65535), (long) x.next(0));
    }
}
