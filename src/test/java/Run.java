import java.util.ArrayList;
import java.util.List;

/**
 * Calls on one new object, each compared with the answer that is due, for one sentence of the document.
 * The calls are kept and can be made again on other objects: two of them, of which one has had a call more,
 * show by their later answers whether that call has changed something.
 */
final class Run {
    /** The document promises nothing of an object after these. */
    private static final int MOST_CALLS = 512;

    private interface Call {
        long on(PathProofs x);
    }

    private record Question(String name, Call call) {
    }

    private final Check check;
    private final String sentence;
    private final PathProofs object = new PathProofs();
    private final List<Call> calls = new ArrayList<>();
    private boolean mustChangeNothing = false;
    private boolean mayMovePlace = false;

    Run(Check check, String sentence) {
        this.check = check;
        this.sentence = sentence;
    }

    /** The next call must change nothing. */
    Run same() {
        mustChangeNothing = true;
        return this;
    }

    /** The next call must change nothing but what place() answers, as a take() that is refused does. */
    Run sameButPlace() {
        mayMovePlace = true;
        return same();
    }

    // ---- the calls of the document, each with the answer that is due

    void put(int path, long value, int due) {
        due("put(" + path + ", " + value + ")", x -> x.put(path, value), due);
    }

    void remove(int path, int due) {
        due("remove(" + path + ")", x -> x.remove(path), due);
    }

    void keep(int due) {
        due("keep()", PathProofs::keep, due);
    }

    void root(int version, long due) {
        due("root(" + version + ")", x -> x.root(version), due);
    }

    void leaves(int version, int due) {
        due("leaves(" + version + ")", x -> x.leaves(version), due);
    }

    void want(int from, int to, int due) {
        due("want(" + from + ", " + to + ")", x -> x.want(from, to), due);
    }

    void forget(int due) {
        due("forget()", PathProofs::forget, due);
    }

    void show(int version, int due) {
        due("show(" + version + ")", x -> x.show(version), due);
    }

    void pass(int due) {
        due("pass()", PathProofs::pass, due);
    }

    void feed(int n, long v, int due) {
        due("feed(" + n + ", " + v + ")", x -> x.feed(n, v), due);
    }

    void cut(int n, int due) {
        due("cut(" + n + ")", x -> x.cut(n), due);
    }

    void spoil(int i, int mask, int due) {
        due("spoil(" + i + ", " + mask + ")", x -> x.spoil(i, mask), due);
    }

    void take(long digest, int due) {
        due("take(" + digest + ")", x -> x.take(digest), due);
    }

    void place(int due) {
        due("place()", PathProofs::place, due);
    }

    void get(int path, int due) {
        due("get(" + path + ")", x -> x.get(path), due);
    }

    void value(long due) {
        due("value()", PathProofs::value, due);
    }

    void write(int path, long value, int due) {
        due("write(" + path + ", " + value + ")", x -> x.write(path, value), due);
    }

    void erase(int path, int due) {
        due("erase(" + path + ")", x -> x.erase(path), due);
    }

    void view(long due) {
        due("view()", PathProofs::view, due);
    }

    void count(int from, int to, int due) {
        due("count(" + from + ", " + to + ")", x -> x.count(from, to), due);
    }

    void next(int from, int due) {
        due("next(" + from + ")", x -> x.next(from), due);
    }

    void told(int what, int due) {
        due("told(" + what + ")", x -> x.told(what), due);
    }

    void octet(int i, int due) {
        due("octet(" + i + ")", x -> x.octet(i), due);
    }

    // ---- several calls at once

    /** THE TAPE has these octets and no more. */
    void tapeIs(int... octets) {
        told(0, octets.length);
        for (int i = 0; i < octets.length; i++) {
            octet(i, octets[i]);
        }
    }

    void fork(int bit, int stem) {
        step(x -> x.feed(4, 1L << 24 | (long) bit << 16 | stem));
    }

    void leaf(int path, long value) {
        step(x -> x.feed(3, 2L << 16 | path));
        step(x -> x.feed(8, value));
    }

    void hidden(long digest) {
        step(x -> x.feed(1, 0));
        step(x -> x.feed(8, digest));
    }

    void empty() {
        step(x -> x.feed(1, 3));
    }

    void cutAll() {
        step(x -> x.cut(0));
    }

    /** THE TAPE is refused with this FAULT at this place, and THE VIEW stays. */
    void fault(int fault, int where) {
        fault(fault, where, 0);
    }

    void fault(int fault, int where, long digest) {
        sameButPlace().take(digest, -10 - fault);
        place(where);
    }

    // ---- how they are made and looked at

    private void step(Call call) {
        calls.add(call);
        check.holds(sentence + ": at most 512 calls", calls.size() <= MOST_CALLS);
        call.on(object);
    }

    private void due(String name, Call call, long due) {
        if (mustChangeNothing) {
            lookForChange(name, call);
        }
        mustChangeNothing = false;
        mayMovePlace = false;
        calls.add(call);
        check.holds(sentence + ": at most 512 calls", calls.size() <= MOST_CALLS);
        check.due(sentence + ": " + calls.size() + ", " + name, call.on(object), due);
    }

    private PathProofs again() {
        PathProofs x = new PathProofs();
        for (Call call : calls) {
            call.on(x);
        }
        return x;
    }

    private void lookForChange(String name, Call call) {
        List<Question> questions = questions();
        int room = MOST_CALLS - calls.size() - 1;
        check.holds(sentence + ": " + name + " leaves room for questions", room >= 3);
        for (int first = 0; first < questions.size() && room >= 3; first += room) {
            askBoth(name, call, questions.subList(first, Math.min(first + room, questions.size())));
        }
        for (List<Question> changes : changes()) {
            askBoth(name, call, changes);
        }
    }

    private void askBoth(String name, Call call, List<Question> questions) {
        PathProofs without = again();
        PathProofs with = again();
        call.on(with);
        for (Question question : questions) {
            String text = sentence + ": " + (calls.size() + 1) + ", " + name + " changes nothing: " + question.name;
            check.due(text, question.call.on(with), question.call.on(without));
        }
    }

    /** What can be asked without a change. */
    private List<Question> questions() {
        List<Question> all = new ArrayList<>();
        if (!mayMovePlace) {
            all.add(new Question("place()", PathProofs::place));
        }
        all.add(new Question("value()", PathProofs::value));
        all.add(new Question("view()", PathProofs::view));
        all.add(new Question("count(0, 65535)", x -> x.count(0, 65535)));
        all.add(new Question("next(0)", x -> x.next(0)));
        for (int i = 0; i <= 5; i++) {
            int what = i;
            all.add(new Question("told(" + what + ")", x -> x.told(what)));
        }
        for (int i = -1; i <= 8; i++) {
            int version = i;
            all.add(new Question("root(" + version + ")", x -> x.root(version)));
            all.add(new Question("leaves(" + version + ")", x -> x.leaves(version)));
        }
        int length = again().told(0);
        for (int i = 0; i <= length; i++) {
            int at = i;
            all.add(new Question("octet(" + at + ")", x -> x.octet(at)));
        }
        return all;
    }

    /** What shows more, but changes something itself. */
    private static List<List<Question>> changes() {
        return List.of(
                List.of(new Question("forget()", PathProofs::forget)),
                List.of(new Question("keep()", PathProofs::keep)),
                List.of(new Question("show(-1)", x -> x.show(-1)), new Question("octet(4)", x -> x.octet(4))),
                List.of(new Question("pass()", PathProofs::pass), new Question("octet(4)", x -> x.octet(4))),
                List.of(new Question("want(0, 65535)", x -> x.want(0, 65535)),
                        new Question("pass()", PathProofs::pass)));
    }
}
