import java.util.Random;

/** Long runs of calls, made up from fixed seeds, on an object and on the model: each answer must be the same. */
public final class ModelTest {
    private static final int RUNS = 2400;
    private static final int CALLS = 512;
    /** The longest group of calls that one turn of play() makes. */
    private static final int MOST_AT_ONCE = 24;
    private static final int[] ODD_NUMBERS = {-1, -2, 65535, 65536, 4000, 4001, 255, 256, Integer.MIN_VALUE, Integer.MAX_VALUE};

    private final Check check;
    private final Random random;
    private final int run;
    private final PathProofs real = new PathProofs();
    private final Model model = new Model();
    /** How wide the paths of this run lie: narrow ones meet each other often. */
    private final int pathMask;
    private int call = 0;

    private ModelTest(Check check, int run) {
        this.check = check;
        this.run = run;
        this.random = new Random(run);
        int[] masks = {0xFFFF, 0x000F, 0xF00F, 0x00FF, 0x8421, 0xFFFF, 0x7F00, 0x0003};
        this.pathMask = masks[run % masks.length];
    }

    public static void main(String[] args) {
        Check check = new Check("ModelTest");
        for (int run = 0; run < RUNS; run++) {
            new ModelTest(check, run).play();
        }
        check.end();
    }

    private void play() {
        int fill = run % 3 == 0 ? random.nextInt(320) : random.nextInt(30);
        for (int i = 0; i < fill; i++) {
            put(path(), random.nextLong());
        }
        int last = CALLS - MOST_AT_ONCE - (random.nextBoolean() ? random.nextInt(300) : 0);
        while (call < last) {
            if (random.nextInt(3) == 0) {
                readerCall();
            } else if (random.nextInt(12) == 0) {
                freshProof();
            } else {
                anyCall();
            }
        }
        int first = random.nextInt(model.tapeLength() + 1);
        for (int i = first; i <= model.tapeLength() && call < CALLS; i++) {
            octet(i);
        }
    }

    private int path() {
        if (random.nextInt(40) == 0) {
            return odd();
        }
        if (random.nextInt(3) == 0 && model.leaves(-1) > 0) {
            return model.pathInTree(random.nextInt(model.leaves(-1)));
        }
        return random.nextInt(65536) & pathMask;
    }

    private int odd() {
        return ODD_NUMBERS[random.nextInt(ODD_NUMBERS.length)];
    }

    private int version() {
        return random.nextInt(3) == 0 ? random.nextInt(11) - 2 : -1;
    }

    private int place() {
        return random.nextInt(20) == 0 ? odd() : random.nextInt(model.tapeLength() + 2) - 1;
    }

    private long smallOrWide() {
        return random.nextBoolean() ? random.nextInt(5) : random.nextLong();
    }

    private void due(String name, long got, long want) {
        call++;
        check.holds("run " + run + ": at most 512 calls", call <= CALLS);
        check.due("run " + run + " call " + call + " " + name, got, want);
    }

    private void put(int path, long value) {
        due("put(" + path + ", " + value + ")", real.put(path, value), model.put(path, value));
    }

    private void want() {
        int from = path();
        int to = random.nextInt(4) == 0 ? path() : random.nextBoolean() ? from : from + random.nextInt(300);
        due("want(" + from + ", " + to + ")", real.want(from, to), model.want(from, to));
    }

    private void take(long digest) {
        due("take(" + digest + ")", real.take(digest), model.take(digest));
        due("place()", real.place(), model.place());
        due("view()", real.view(), model.view());
    }

    private void show(int version) {
        due("show(" + version + ")", real.show(version), model.show(version));
        someOctets();
    }

    private void octet(int i) {
        due("octet(" + i + ")", real.octet(i), model.octet(i));
    }

    private void someOctets() {
        for (int i = 0; i < 6 && model.tapeLength() > 0; i++) {
            octet(random.nextInt(model.tapeLength()));
        }
        octet(model.tapeLength() - 1);
        octet(model.tapeLength());
    }

    /** A tape that may be spoilt or cut somewhere, and is taken with the right digest mostly. */
    private void freshProof() {
        if (random.nextInt(3) == 0) {
            due("forget()", real.forget(), model.forget());
        }
        want();
        int version = version();
        show(version);
        int damage = random.nextInt(6);
        if (damage == 0) {
            spoil(place(), 1 << random.nextInt(8));
        } else if (damage == 1) {
            cut(place());
        } else if (damage == 2) {
            feed(1 + random.nextInt(3), smallOrWide());
        }
        take(random.nextInt(12) == 0 ? random.nextLong() : model.root(version));
    }

    private void spoil(int i, int mask) {
        due("spoil(" + i + ", " + mask + ")", real.spoil(i, mask), model.spoil(i, mask));
    }

    private void cut(int n) {
        due("cut(" + n + ")", real.cut(n), model.cut(n));
    }

    private void feed(int n, long v) {
        due("feed(" + n + ", " + v + ")", real.feed(n, v), model.feed(n, v));
    }

    private void anyCall() {
        switch (random.nextInt(16)) {
            case 0: case 1: put(path(), smallOrWide()); break;
            case 2: { int path = path(); due("remove(" + path + ")", real.remove(path), model.remove(path)); break; }
            case 3: if (random.nextInt(4) == 0) { due("keep()", real.keep(), model.keep()); } break;
            case 4: { int v = version(); due("root(" + v + ")", real.root(v), model.root(v)); break; }
            case 5: { int v = version(); due("leaves(" + v + ")", real.leaves(v), model.leaves(v)); break; }
            case 6: case 7: want(); break;
            case 8: if (random.nextInt(4) == 0) { due("forget()", real.forget(), model.forget()); } break;
            case 9: show(version()); break;
            case 10: due("pass()", real.pass(), model.pass()); someOctets(); break;
            case 11: feed(random.nextInt(10), smallOrWide()); break;
            case 12: if (random.nextInt(3) == 0) { cut(place()); } break;
            case 13: spoil(place(), random.nextInt(9) == 0 ? odd() : random.nextInt(256)); break;
            case 14: { int what = random.nextInt(8) - 1; due("told(" + what + ")", real.told(what), model.told(what)); break; }
            default: octet(place()); break;
        }
    }

    private void readerCall() {
        int path = path();
        switch (random.nextInt(9)) {
            case 0:
                take(random.nextBoolean() ? model.view() : model.root(-1));
                break;
            case 1:
                due("get(" + path + ")", real.get(path), model.get(path));
                break;
            case 2:
                due("value()", real.value(), model.value());
                due("place()", real.place(), model.place());
                break;
            case 3: case 4: {
                long value = smallOrWide();
                due("write(" + path + ", " + value + ")", real.write(path, value), model.write(path, value));
                due("view()", real.view(), model.view());
                break;
            }
            case 5:
                due("erase(" + path + ")", real.erase(path), model.erase(path));
                due("view()", real.view(), model.view());
                break;
            case 6: {
                int to = random.nextInt(3) == 0 ? path() : path + random.nextInt(2000);
                due("count(" + path + ", " + to + ")", real.count(path, to), model.count(path, to));
                break;
            }
            case 7:
                due("next(" + path + ")", real.next(path), model.next(path));
                break;
            default:
                due("told(3)", real.told(3), model.told(3));
                due("told(4)", real.told(4), model.told(4));
                break;
        }
    }
}
