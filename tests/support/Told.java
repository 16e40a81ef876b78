import java.util.NoSuchElementException;

/** A FenceHeap whose calls are counted, and whose exceptions are told as numbers that nothing else answers. */
final class Told {
    static final long NO_SUCH = Long.MIN_VALUE;
    static final long ILLEGAL = Long.MIN_VALUE + 1;
    static final long OTHER = Long.MIN_VALUE + 2;
    static final int MOST_CALLS = 512;

    /** The latest call of any object, for what a test prints. */
    static String latest = "";

    private final FenceHeap heap = new FenceHeap();
    private int calls = 0;

    interface Call {
        long ask();
    }

    /** An object that has read this text, which has no fault. */
    static Told of(String text) {
        Told made = new Told();
        long answer = made.tell(text);
        if (answer != 0) {
            throw new IllegalStateException("a text with a fault: " + text);
        }
        return made;
    }

    /** The text is fed, with blanks behind it up to twenty bytes, and is told: what heap() answers. */
    long tell(String text) {
        put(text);
        return heap(text.length());
    }

    void put(String text) {
        for (int i = 0; i < text.length(); i += 20) {
            int[] n = new int[5];
            for (int k = 0; k < 20; k++) {
                n[k / 4] = n[k / 4] << 8 | (i + k < text.length() ? text.charAt(i + k) : ' ');
            }
            feed(n[0], n[1], n[2], n[3], n[4]);
        }
    }

    private long made(String name, Call call) {
        calls++;
        latest = name;
        if (calls > MOST_CALLS) {
            throw new IllegalStateException("the test calls an object more often than the document allows");
        }
        try {
            return call.ask();
        } catch (NoSuchElementException e) {
            return NO_SUCH;
        } catch (IllegalArgumentException e) {
            return ILLEGAL;
        } catch (RuntimeException e) {
            return OTHER;
        }
    }

    long feed(int a, int b, int c, int d, int e) {
        return made("feed(..)", () -> heap.feed(a, b, c, d, e));
    }

    long heap(int n) {
        return made("heap(" + n + ")", () -> heap.heap(n));
    }

    long fault() {
        return made("fault()", heap::fault);
    }

    long count(int what) {
        return made("count(" + what + ")", () -> heap.count(what));
    }

    long word(int word, boolean media) {
        return made("word(" + word + ", " + media + ")", () -> heap.word(word, media));
    }

    long media(int word) {
        return word(word, true);
    }

    long now(int word) {
        return word(word, false);
    }

    long line(int line, int i) {
        return made("line(" + line + ", " + i + ")", () -> heap.line(line, i));
    }

    long pending(int line) {
        return line(line, -1);
    }

    long asked(int line) {
        return line(line, -2);
    }

    long micro(int i, int what) {
        return made("micro(" + i + ", " + what + ")", () -> heap.micro(i, what));
    }

    long orders() {
        return made("orders()", heap::orders);
    }

    long shape(int of, int what) {
        return made("shape(" + of + ", " + what + ")", () -> heap.shape(of, what));
    }

    long steps(int many) {
        return made("steps(" + many + ")", () -> heap.steps(many));
    }

    long evict(int line, int many) {
        return made("evict(" + line + ", " + many + ")", () -> heap.evict(line, many));
    }

    long crash(int order) {
        return made("crash(" + order + ")", () -> heap.crash(order));
    }

    long recover() {
        return made("recover()", heap::recover);
    }

    long later(int op, int one, int other) {
        return made("later(" + op + ", " + one + ", " + other + ")", () -> heap.later(op, one, other));
    }

    long site(int site) {
        return made("site(" + site + ")", () -> heap.site(site));
    }

    long undo() {
        return made("undo()", heap::undo);
    }

    long recovered(int order, int word) {
        return made("recovered(" + order + ", " + word + ")", () -> heap.recovered(order, word));
    }

    long fate(int order) {
        return made("fate(" + order + ")", () -> heap.fate(order));
    }

    long check(int what) {
        return made("check(" + what + ")", () -> heap.check(what));
    }

    long needless() {
        return made("needless()", heap::needless);
    }

    long least(int what) {
        return made("least(" + what + ")", () -> heap.least(what));
    }

    long chance(int what) {
        return made("chance(" + what + ")", () -> heap.chance(what));
    }

    long see(int word, int number) {
        return made("see(" + word + ", " + number + ")", () -> heap.see(word, number));
    }

    long explained(int what) {
        return made("explained(" + what + ")", () -> heap.explained(what));
    }

    long look(int what) {
        return made("look(" + what + ")", () -> heap.look(what));
    }

    long forget() {
        return made("forget()", () -> {
            heap.forget();
            return 0;
        });
    }

    long years(int seed, int n, int what) {
        return made("years(" + seed + ", " + n + ", " + what + ")", () -> heap.years(seed, n, what));
    }

    long image() {
        return made("image()", () -> {
            heap.image();
            return 0;
        });
    }

    /** 1: true. */
    long restore() {
        return made("restore()", () -> heap.restore() ? 1 : 0);
    }

    int callsMade() {
        return calls;
    }

    /** All that can be asked without changing anything, but for what takes long; some 300 calls. */
    String picture() {
        StringBuilder all = new StringBuilder();
        for (int what = 0; what < 20; what++) {
            all.append("count ").append(what).append(": ").append(count(what)).append('\n');
        }
        for (int word = 0; word < 64; word++) {
            all.append("word ").append(word).append(": ").append(now(word)).append(' ').append(media(word)).append('\n');
        }
        for (int line = 0; line < 16; line++) {
            long pending = pending(line);
            all.append("line ").append(line).append(": ").append(asked(line)).append(" of");
            for (int i = 0; i < pending; i++) {
                all.append(' ').append(line(line, i));
            }
            all.append('\n');
        }
        long left = count(4);
        for (int i = 0; i < left; i++) {
            all.append("micro ").append(i).append(':');
            for (int what = 0; what < 3; what++) {
                all.append(' ').append(micro(i, what));
            }
            all.append('\n');
        }
        all.append("orders: ").append(orders()).append('\n');
        all.append("fate: ").append(fate(0)).append('\n');
        all.append("explained: ").append(explained(0)).append(' ').append(explained(1)).append('\n');
        all.append("fault: ").append(fault()).append('\n');
        return all.toString();
    }
}
