import java.util.ArrayList;
import java.util.Arrays;
import java.util.LinkedHashMap;
import java.util.List;
import java.util.Map;
import java.util.Set;
import java.util.TreeSet;

/** Each call, where it is carried out, changes just the parts of the object that its promise names. */
public final class ChangeTest {
    private static final Check CHECK = new Check("ChangeTest");
    private static final long VIEW = Digests.fork(0, 0, Digests.fork(12, 0x1000, Digests.leaf(0x1003, 30), 99),
            Digests.leaf(0x9000, 40));

    private interface Call {
        long on(PathProofs x);
    }

    private interface Part {
        List<Long> of(PathProofs x);
    }

    private static final Map<String, Part> PARTS = new LinkedHashMap<>();

    public static void main(String[] args) {
        PARTS.put("tree", ChangeTest::tree);
        PARTS.put("versions", ChangeTest::versions);
        PARTS.put("wanted", ChangeTest::wanted);
        PARTS.put("tape", ChangeTest::tape);
        PARTS.put("view", ChangeTest::view);
        PARTS.put("place", x -> List.of((long) x.place()));
        PARTS.put("value", x -> List.of(x.value()));
        theTree();
        whatIsShown();
        theTape();
        theReader();
        theRefused();
        CHECK.end();
    }

    private static void theTree() {
        changes("put, a new path", x -> x.put(9, 9), 1, "tree");
        changes("put, one that is there", x -> x.put(0x1004, 9), 0, "tree");
        changes("remove", x -> x.remove(0x1004), 1, "tree");
        changes("remove, not there", x -> x.remove(9), 0);
        changes("keep", PathProofs::keep, 2, "versions");
        changes("root", x -> x.root(0), Digests.leaf(0x1003, 3));
        changes("leaves", x -> x.leaves(-1), 3);
    }

    private static void whatIsShown() {
        changes("want", x -> x.want(0, 65535), 3, "wanted");
        changes("forget", PathProofs::forget, 2, "wanted");
        changes("show", x -> x.show(0), 11, "tape");
        changes("pass", PathProofs::pass, 4 + 9 + (4 + 11 + 11), "tape");
    }

    private static void theTape() {
        changes("feed", x -> x.feed(8, 5), 48, "tape");
        changes("cut", x -> x.cut(7), 33, "tape");
        changes("cut, nothing goes", x -> x.cut(40), 0);
        changes("spoil", x -> x.spoil(39, 3), 3, "tape");
        changes("spoil with 0", x -> x.spoil(39, 0), 0);
        changes("octet", x -> x.octet(0), 1);
    }

    private static void theReader() {
        changes("take, a fault", x -> x.take(1), -16);
        changes("take, a fault elsewhere", x -> x.cut(38) + x.take(1), 2 - 11, "tape", "place");
        changes("take", x -> x.cut(39) + x.take(VIEW), 1 + 5, "tape", "view", "place");
        changes("place", PathProofs::place, 39);
        changes("get, there", x -> x.get(0x9001), 1, "value");
        changes("get, not there", x -> x.get(0x9002), 0, "value");
        changes("value", PathProofs::value, 40);
        changes("write, a new path", x -> x.write(0x9002, 5), 1, "view");
        changes("write, one that is there", x -> x.write(0x9001, 5), 0, "view");
        changes("erase", x -> x.erase(0x1003), 1, "view");
        changes("erase, not there", x -> x.erase(0x9002), 0);
        changes("view", x -> x.view() == VIEW ? 1 : 0, 0);
        changes("count", x -> x.count(0x1010, 65535), 2);
        changes("next", x -> x.next(0x1010), 0x9000);
        for (int i = 0; i <= 5; i++) {
            int what = i;
            int[] due = {40, 2, 2, 7, 1, 2};
            changes("told(" + what + ")", x -> x.told(what), due[what]);
        }
    }

    /** "They change nothing", but for value(), which is 0 when the latest get() did not answer 1. */
    private static void theRefused() {
        changes("put, BAD", x -> x.put(65536, 1), PathProofs.BAD);
        changes("remove, BAD", x -> x.remove(-1), PathProofs.BAD);
        changes("leaves, BAD", x -> x.leaves(2), PathProofs.BAD);
        changes("want, BAD", x -> x.want(2, 1), PathProofs.BAD);
        changes("show, BAD", x -> x.show(2), PathProofs.BAD);
        changes("feed, BAD", x -> x.feed(0, 1), PathProofs.BAD);
        changes("cut, BAD", x -> x.cut(41), PathProofs.BAD);
        changes("spoil, BAD", x -> x.spoil(40, 1), PathProofs.BAD);
        changes("octet, BAD", x -> x.octet(40), PathProofs.BAD);
        changes("get, BAD", x -> x.get(65536), PathProofs.BAD, "value");
        changes("get, MISSING", x -> x.get(0x1008), PathProofs.MISSING, "value");
        changes("write, BAD", x -> x.write(-1, 1), PathProofs.BAD);
        changes("write, MISSING", x -> x.write(0x1008, 1), PathProofs.MISSING);
        changes("erase, BAD", x -> x.erase(65536), PathProofs.BAD);
        changes("erase, MISSING", x -> x.erase(0x1008), PathProofs.MISSING);
        changes("count, BAD", x -> x.count(1, 0), PathProofs.BAD);
        changes("count, MISSING", x -> x.count(0, 65535), PathProofs.MISSING);
        changes("next, BAD", x -> x.next(65536), PathProofs.BAD);
        changes("next, MISSING", x -> x.next(0x1004), PathProofs.MISSING);
        changes("told, BAD", x -> x.told(6), PathProofs.BAD);
    }

    /** Every part has something that a call could lose: two versions, two ranges, a fault, a value. */
    private static PathProofs object() {
        PathProofs x = new PathProofs();
        x.put(0x1003, 3);
        x.keep();
        x.put(0x1004, 4);
        x.keep();
        x.put(0x1006, 6);
        x.want(0x9000, 0x9003);
        x.want(0xF000, 0xFFFF);
        x.feed(4, 0x01000000);
        x.feed(4, 0x010C1000);
        x.feed(3, 0x021003);
        x.feed(8, 30);
        x.feed(1, 0);
        x.feed(8, 99);
        x.feed(3, 0x029000);
        x.feed(8, 40);
        x.take(VIEW);
        x.get(0x9000);
        x.write(0x9001, 41);
        x.feed(1, 0);
        x.take(VIEW);
        return x;
    }

    private static void changes(String name, Call call, long due, String... parts) {
        CHECK.due(name, call.on(object()), due);
        Set<String> changed = new TreeSet<>();
        for (Map.Entry<String, Part> part : PARTS.entrySet()) {
            PathProofs after = object();
            call.on(after);
            if (!part.getValue().of(after).equals(part.getValue().of(object()))) {
                changed.add(part.getKey());
            }
        }
        Set<String> named = new TreeSet<>(Arrays.asList(parts));
        CHECK.holds(name + " changes " + named + ", and not " + changed, changed.equals(named));
    }

    private static List<Long> tree(PathProofs x) {
        return List.of(x.root(-1), (long) x.leaves(-1), (long) x.told(5));
    }

    private static List<Long> versions(PathProofs x) {
        List<Long> answers = new ArrayList<>();
        answers.add((long) x.told(2));
        for (int version = 0; version < 8; version++) {
            answers.add(x.root(version));
            answers.add((long) x.leaves(version));
        }
        return answers;
    }

    /** What is wanted of a view that no other call has touched. */
    private static List<Long> wanted(PathProofs x) {
        List<Long> answers = new ArrayList<>();
        answers.add((long) x.told(1));
        x.cut(0);
        x.feed(1, 3);
        x.take(Digests.EMPTY);
        for (int i = 0; i < 16; i++) {
            x.write(i << 12, i);
        }
        x.pass();
        answers.addAll(tape(x));
        return answers;
    }

    private static List<Long> tape(PathProofs x) {
        List<Long> answers = new ArrayList<>();
        int length = x.told(0);
        for (int i = 0; i <= length; i++) {
            answers.add((long) x.octet(i));
        }
        return answers;
    }

    private static List<Long> view(PathProofs x) {
        List<Long> answers = new ArrayList<>(List.of(x.view(), (long) x.told(3), (long) x.told(4)));
        x.forget();
        x.want(0, 65535);
        x.pass();
        answers.addAll(tape(x));
        return answers;
    }
}
