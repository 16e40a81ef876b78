import java.util.ArrayDeque;
import java.util.ArrayList;
import java.util.Arrays;
import java.util.Deque;
import java.util.HashSet;
import java.util.List;
import java.util.NoSuchElementException;
import java.util.Random;
import java.util.Set;
import java.util.TreeSet;

/**
 * Random runs of calls on FenceHeap and on a slow second writing of the document, side by side: each answer, and
 * each exception, must be the same. The seeds are written here, so that every run of this test is the same.
 */
public final class ModelTest {
    private static int wrong = 0;
    private static int calls = 0;
    // What later calls on one object answer is free.
    private static final int MOST_CALLS = 512;
    // So many are left for the last look at all.
    private static final int LAST_CALLS = 300;

    public static void main(String[] args) {
        int runs = args.length > 1 ? Integer.parseInt(args[1]) : 700;
        int firstSeed = args.length > 2 ? Integer.parseInt(args[2]) : 1;
        for (int run = firstSeed; run < firstSeed + runs && wrong < 10; run++) {
            new Run(run).go();
        }
        System.out.println("ModelTest: " + calls + " calls in " + runs + " runs, " + wrong + " wrong");
        System.exit(wrong == 0 ? 0 : 1);
    }

    interface Call {
        long ask();
    }

    /** An answer, or an exception's name. */
    static String outcome(Call call) {
        try {
            return String.valueOf(call.ask());
        } catch (NoSuchElementException e) {
            return "NoSuchElement";
        } catch (IllegalArgumentException e) {
            return "IllegalArgument";
        } catch (RuntimeException e) {
            return e.toString();
        }
    }

    /** One object and its model, called alike. */
    static final class Run {
        final int number;
        final Random random;
        final FenceHeap heap = new FenceHeap();
        final Model model = new Model();
        final List<String> told = new ArrayList<>();
        private int made = 0;

        Run(int number) {
            this.number = number;
            this.random = new Random(number * 7919L);
        }

        void both(String name, Call one, Call other) {
            if (made == MOST_CALLS) {
                return;
            }
            made++;
            calls++;
            String got = outcome(one);
            String due = outcome(other);
            told.add(name + " = " + got);
            if (!got.equals(due)) {
                wrong++;
                System.out.println("run " + number + ": " + name + " answered " + got + ", due is " + due);
                for (String line : told.subList(Math.max(0, told.size() - 30), told.size())) {
                    System.out.println("    " + line);
                }
            }
        }

        int pick(int n) {
            return random.nextInt(n);
        }

        void go() {
            tell(Texts.make(random));
            int many = MOST_CALLS - (pick(3) == 0 ? 0 : LAST_CALLS);
            int before = wrong;
            while (made < many && wrong == before) {
                act();
                ask();
            }
            askAll();
        }

        void tell(String text) {
            for (int i = 0; i < text.length(); i += 20) {
                int[] n = new int[5];
                for (int k = 0; k < 20; k++) {
                    int sign = i + k < text.length() ? text.charAt(i + k) : 32;
                    n[k / 4] = n[k / 4] << 8 | sign;
                }
                both("feed " + text, () -> heap.feed(n[0], n[1], n[2], n[3], n[4]),
                    () -> model.feed(n[0], n[1], n[2], n[3], n[4]));
            }
            int length = text.length();
            both("heap(" + length + ") of " + text, () -> heap.heap(length), () -> model.heap(length));
            both("fault()", heap::fault, model::fault);
        }

        void act() {
            int a = pick(8) - 1;
            int b = pick(5) - 1;
            switch (pick(24)) {
                case 0: case 1: case 2: case 3: case 4: case 5: case 6: case 7: case 8:
                    int many = pick(30) == 0 ? pick(60) - 3 : 1 + pick(8);
                    both("steps(" + many + ")", () -> heap.steps(many), () -> model.steps(many));
                    break;
                case 9: case 10:
                    int line = pick(3) == 0 ? pick(18) - 1 : fullLine();
                    both("evict(" + line + ", " + b + ")", () -> heap.evict(line, b), () -> model.evict(line, b));
                    break;
                case 11:
                    int order = pick(4) == 0 ? a : pick((int) Math.min(Math.max(model.orders(), 1), 3000));
                    both("crash(" + order + ")", () -> heap.crash(order), () -> model.crash(order));
                    break;
                case 12: case 13: case 14:
                    both("recover()", heap::recover, model::recover);
                    break;
                case 15: case 16: case 17: case 18:
                    later();
                    break;
                case 19:
                    int site = pick(20) == 0 ? pick(12) - 3 : pick(7);
                    both("site(" + site + ")", () -> heap.site(site), () -> model.site(site));
                    break;
                case 20:
                    both("undo()", heap::undo, model::undo);
                    break;
                case 21:
                    see();
                    break;
                default:
                    rare();
                    break;
            }
        }

        int fullLine() {
            int line = pick(16);
            for (int i = 0; i < 16; i++) {
                if (model.line((line + i) % 16, -1) > 0) {
                    return (line + i) % 16;
                }
            }
            return line;
        }

        void later() {
            int op = pick(30) == 0 ? pick(9) - 2 : pick(5);
            boolean wild = pick(8) == 0;
            int one = wild ? pick(70) - 2 : op == 3 ? 20 + pick(pick(2) == 0 ? 8 : 44) : pick(4);
            int other = wild ? pick(130) - 10 : op == 2 ? pick(4) : pick(3) == 0 ? 4 * pick(17) : pick(100);
            both("later(" + op + ", " + one + ", " + other + ")", () -> heap.later(op, one, other),
                () -> model.later(op, one, other));
        }

        void see() {
            int word = pick(10) == 0 ? pick(70) - 3 : pick(2) == 0 ? 0 : 4 * fullLine() + pick(4);
            boolean honest = word >= 0 && word < 64 && pick(4) != 0;
            int number = honest ? model.word(word, pick(2) == 0) : pick(20) == 0 ? pick(1100) - 50 : pick(3);
            both("see(" + word + ", " + number + ")", () -> heap.see(word, number), () -> model.see(word, number));
        }

        void rare() {
            switch (pick(12)) {
                case 0: case 1:
                    both("forget()", () -> { heap.forget(); return 0; }, () -> { model.forget(); return 0; });
                    break;
                case 2: case 3: case 4:
                    both("image()", () -> { heap.image(); return 0; }, () -> { model.image(); return 0; });
                    break;
                case 5: case 6: case 7:
                    both("restore()", () -> heap.restore() ? 1 : 0, () -> model.restore() ? 1 : 0);
                    break;
                case 8:
                    int n = pick(700) - 5;
                    both("heap(" + n + ")", () -> heap.heap(n), () -> model.heap(n));
                    both("fault()", heap::fault, model::fault);
                    break;
                default:
                    tell(pick(3) == 0 ? Texts.make(random) : Texts.spoil(Texts.make(random), random));
                    break;
            }
        }

        void ask() {
            int a = pick(3);
            int w = pick(64);
            int order = pick((int) Math.min(model.orders() + 1, 3000));
            switch (pick(16)) {
                case 0: both("check(" + a + ")", () -> heap.check(a), () -> model.check(a)); break;
                case 1: both("needless()", heap::needless, model::needless); break;
                case 2: both("least(" + a % 2 + ")", () -> heap.least(a % 2), () -> model.least(a % 2)); break;
                case 3: case 4:
                    both("fate(" + order + ")", () -> heap.fate(order), () -> model.fate(order));
                    break;
                case 5: case 6:
                    both("recovered(" + order + ", " + w + ")", () -> heap.recovered(order, w),
                        () -> model.recovered(order, w));
                    break;
                case 7:
                    int seed = random.nextInt();
                    int n = pick(31);
                    both("years(" + seed + ", " + n + ", " + a + ")", () -> heap.years(seed, n, a),
                        () -> model.years(seed, n, a));
                    break;
                case 8: wrongCalls(); break;
                default:
                    int what = pick(20);
                    both("count(" + what + ")", () -> heap.count(what), () -> model.count(what));
                    break;
            }
        }

        void wrongCalls() {
            int a = pick(2) == 0 ? -1 - pick(3) : 3 + pick(30);
            int b = pick(7) - 2;
            both("count(" + a + ")", () -> heap.count(a), () -> model.count(a));
            both("word(" + a + ")", () -> heap.word(a * 3, b > 0), () -> model.word(a * 3, b > 0));
            both("line(" + a + ", " + b + ")", () -> heap.line(a, b), () -> model.line(a, b));
            both("micro(" + a + ", " + b + ")", () -> heap.micro(a, b), () -> model.micro(a, b));
            both("shape(" + b + ", " + a + ")", () -> heap.shape(b, a), () -> model.shape(b, a));
            both("check(" + a + ")", () -> heap.check(a), () -> model.check(a));
            both("least(" + a + ")", () -> heap.least(a), () -> model.least(a));
            both("chance(" + a + ")", () -> heap.chance(a), () -> model.chance(a));
            both("explained(" + a + ")", () -> heap.explained(a), () -> model.explained(a));
            both("look(" + a + ")", () -> heap.look(a), () -> model.look(a));
            both("years(1, " + a + ", " + b + ")", () -> heap.years(1, a, b), () -> model.years(1, a, b));
            both("recovered(-1, " + a * 3 + ")", () -> heap.recovered(-1, a * 3), () -> model.recovered(-1, a * 3));
            both("fate(" + a + ")", () -> heap.fate(a), () -> model.fate(a));
        }

        void askAll() {
            for (int i = 0; i < 20; i++) {
                int what = i;
                both("count(" + what + ")", () -> heap.count(what), () -> model.count(what));
            }
            both("orders()", heap::orders, model::orders);
            for (int i = 0; i < 3; i++) {
                int what = i;
                both("check(" + what + ")", () -> heap.check(what), () -> model.check(what));
                both("chance(" + what + ")", () -> heap.chance(what), () -> model.chance(what));
                both("explained(" + what + ")", () -> heap.explained(what), () -> model.explained(what));
                both("look(" + what + ")", () -> heap.look(what), () -> model.look(what));
            }
            for (int i = 0; i < 15; i++) {
                int of = i / 5;
                int what = i % 5;
                both("shape(" + of + ", " + what + ")", () -> heap.shape(of, what), () -> model.shape(of, what));
            }
            for (int i = 0; i < 64; i++) {
                int w = i;
                both("word(" + w + ", false)", () -> heap.word(w, false), () -> model.word(w, false));
                both("word(" + w + ", true)", () -> heap.word(w, true), () -> model.word(w, true));
            }
            askLines();
            askMicros();
        }

        /** One store more than pend, too. */
        void askLines() {
            for (int i = 0; i < 16; i++) {
                int line = i;
                for (int j = -2; j <= model.line(line, -1); j++) {
                    int k = j;
                    both("line(" + line + ", " + k + ")", () -> heap.line(line, k), () -> model.line(line, k));
                }
            }
        }

        /** One micro more than are left, too. */
        void askMicros() {
            for (int i = 0; i <= model.count(4); i++) {
                for (int k = 0; k < 3; k++) {
                    int m = i;
                    int what = k;
                    both("micro(" + m + ", " + what + ")", () -> heap.micro(m, what), () -> model.micro(m, what));
                }
            }
        }
    }

    /** Texts at random, most of them without a fault. */
    static final class Texts {
        static String make(Random random) {
            StringBuilder text = new StringBuilder();
            if (random.nextInt(4) == 0) {
                text.append("undo;");
            } else if (random.nextInt(2) == 0) {
                text.append("redo ; ");
            }
            if (random.nextInt(2) == 0) {
                text.append("without");
                for (char site : "abcdefg".toCharArray()) {
                    text.append(random.nextInt(3) == 0 ? " " + site : "");
                }
                text.append(text.toString().endsWith("t") ? " a;\n" : ";");
            }
            List<Integer> blocks = new ArrayList<>(List.of(0, 1, 2, 3, 4, 5, 6, 7, 8, 9));
            java.util.Collections.shuffle(blocks, random);
            for (int root = 0; root < 4; root++) {
                if (random.nextInt(2) == 0 && !blocks.isEmpty()) {
                    text.append("chain ").append(root);
                    int many = 1 + random.nextInt(3);
                    for (int i = 0; i < many && !blocks.isEmpty(); i++) {
                        text.append(' ').append(blocks.remove(0));
                    }
                    text.append(';');
                }
            }
            for (int i = random.nextInt(4) - 1; i > 0 && !blocks.isEmpty(); i--) {
                text.append("leak ").append(blocks.remove(0)).append(" ;");
            }
            for (int block = 0; block < 10; block++) {
                if (random.nextInt(9) == 0) {
                    text.append("data ").append(block).append(' ').append(random.nextInt(100)).append(' ')
                        .append(random.nextInt(100)).append(';');
                }
            }
            for (int i = random.nextInt(8); i > 0; i--) {
                text.append("do ");
                int many = random.nextInt(3) == 0 ? 1 + random.nextInt(4) : 1;
                for (int k = 0; k < many; k++) {
                    text.append(k == 0 ? "" : " , ").append(op(random));
                }
                text.append(";\n");
            }
            return text.length() <= 700 ? text.toString() : "do sweep;";
        }

        static String op(Random random) {
            int root = random.nextInt(4);
            switch (random.nextInt(6)) {
                case 0: return "new " + root + " " + random.nextInt(100);
                case 1: return "drop " + root;
                case 2: return "move " + root + " " + (root + 1 + random.nextInt(3)) % 4;
                case 3: return "set " + (20 + random.nextInt(44)) + " " + random.nextInt(100);
                case 4: return "set " + (20 + random.nextInt(8)) + " " + 4 * random.nextInt(17);
                default: return "sweep";
            }
        }

        static String spoil(String text, Random random) {
            String[] scraps = {";", ",", " ", "\n", "a", "z", "0", "9", "1234", "100", "19", "64", "4", "do", "do new",
                "undo;", "redo;", "without a;", "without g g;", "chain 0 1;", "leak 3;", "data 1 2 3;", "move 1 1", "X",
                "\u00e9", "\t", ", sweep, sweep, sweep, sweep", "do sweep;do sweep;do sweep;do sweep;do sweep;do sweep;"};
            StringBuilder spoilt = new StringBuilder(text);
            for (int i = 1 + random.nextInt(2); i > 0; i--) {
                int at = random.nextInt(spoilt.length() + 1);
                switch (random.nextInt(3)) {
                    case 0: spoilt.setLength(at); break;
                    case 1: spoilt.delete(at, Math.min(spoilt.length(), at + 1 + random.nextInt(3))); break;
                    default: spoilt.insert(at, scraps[random.nextInt(scraps.length)]); break;
                }
            }
            return spoilt.length() <= 700 ? spoilt.toString() : spoilt.substring(0, 700);
        }
    }

    /** A fault of a text. */
    static final class Fault extends RuntimeException {
        private static final long serialVersionUID = 1L;
        final int code;
        final int place;

        Fault(int code, int place) {
            this.code = code;
            this.place = place;
        }
    }

    static final class Op {
        final String name;
        final int one;
        final int other;

        Op(String name, int one, int other) {
            this.name = name;
            this.one = one;
            this.other = other;
        }
    }

    /** A micro: kind 0 store, 1 flush, 2 fence. */
    record Micro(int kind, int place, int number) { }

    record Store(int address, int number) { }

    /** What a text tells, and all that acts change, in the plainest form; copied whole for each act. */
    static final class World {
        int[] media = new int[64];
        List<List<Store>> pending = new ArrayList<>();
        int[] asked = new int[16];
        boolean redo = false;
        Set<Character> leftOut = new TreeSet<>();
        List<List<Op>> waiting = new ArrayList<>();
        Deque<Micro> flight = new ArrayDeque<>();
        // The heaps that are well: of what is in flight; none without.
        List<List<Integer>> aims = new ArrayList<>();
        int state = 0;
        int[] tally = new int[8];

        World() {
            for (int i = 0; i < 16; i++) {
                pending.add(new ArrayList<>());
            }
        }

        World copy() {
            World w = new World();
            w.media = media.clone();
            for (int i = 0; i < 16; i++) {
                w.pending.get(i).addAll(pending.get(i));
            }
            w.asked = asked.clone();
            w.redo = redo;
            w.leftOut = new TreeSet<>(leftOut);
            w.waiting = new ArrayList<>(waiting);
            w.flight = new ArrayDeque<>(flight);
            w.aims = new ArrayList<>(aims);
            w.state = state;
            w.tally = tally.clone();
            return w;
        }

        int[] words() {
            int[] words = media.clone();
            for (List<Store> row : pending) {
                for (Store s : row) {
                    words[s.address()] = s.number();
                }
            }
            return words;
        }

        static List<Integer> heapOf(int[] words) {
            List<Integer> heap = new ArrayList<>();
            for (int i = 20; i < 64; i++) {
                heap.add(words[i]);
            }
            return heap;
        }

        int[] recover(int[] image) {
            int[] words = image.clone();
            int n = Math.min(8, words[0]);
            List<Integer> entries = new ArrayList<>();
            for (int i = 0; i < n; i++) {
                entries.add(redo ? entries.size() : 0, i);
            }
            for (int i : entries) {
                int address = words[4 + 2 * i];
                if (address >= 20 && address <= 63) {
                    words[address] = words[5 + 2 * i];
                }
            }
            words[0] = 0;
            return words;
        }

        long orders() {
            long n = 1;
            for (List<Store> row : pending) {
                n *= row.size() + 1;
            }
            return n;
        }

        int[] rowOf(long order) {
            int[] row = new int[16];
            long place = orders();
            long rest = order;
            for (int line = 0; line < 16; line++) {
                place /= pending.get(line).size() + 1;
                row[line] = (int) (rest / place);
                rest %= place;
            }
            return row;
        }

        int[] imageOf(int[] row) {
            int[] image = media.clone();
            for (int line = 0; line < 16; line++) {
                for (Store s : pending.get(line).subList(0, row[line])) {
                    image[s.address()] = s.number();
                }
            }
            return image;
        }

        /** One heap or two, that before first. */
        List<List<Integer>> well() {
            if (state == 1) {
                return List.of(heapOf(recover(media)));
            }
            return flight.isEmpty() ? List.of(heapOf(words())) : aims;
        }

        int fateOf(int[] image) {
            List<Integer> heap = heapOf(recover(image));
            List<List<Integer>> well = well();
            if (well.size() == 1) {
                return heap.equals(well.get(0)) ? 2 : 3;
            }
            boolean before = heap.equals(well.get(0));
            boolean after = heap.equals(well.get(1));
            return before && after ? 2 : before ? 0 : after ? 1 : 3;
        }

        void reach(int line, int many) {
            for (int i = 0; i < many; i++) {
                Store s = pending.get(line).remove(0);
                media[s.address()] = s.number();
                asked[line] = Math.max(0, asked[line] - 1);
            }
        }

        /** The writes of a transaction; null if it is void. */
        List<Store> writes(List<Op> ops) {
            int[] words = words();
            List<Store> all = new ArrayList<>();
            for (Op op : ops) {
                List<Store> some = writesOf(op, words);
                if (some == null) {
                    return null;
                }
                for (Store s : some) {
                    words[s.address()] = s.number();
                    all.add(s);
                }
            }
            return all.size() > 8 ? null : all;
        }

        static boolean inUse(int[] words, int address) {
            return address >= 24 && address <= 60 && address % 4 == 0 && words[address] == 1;
        }

        static List<Store> writesOf(Op op, int[] words) {
            int root = 20 + op.one;
            switch (op.name) {
                case "new":
                    for (int b = 24; b < 64; b += 4) {
                        if (words[b] == 0) {
                            return List.of(new Store(b, 1), new Store(b + 1, words[root]), new Store(b + 2, op.other),
                                new Store(root, b));
                        }
                    }
                    return null;
                case "drop":
                    int d = words[root];
                    return inUse(words, d) ? List.of(new Store(root, words[d + 1]), new Store(d, 0)) : null;
                case "move":
                    int m = words[root];
                    return !inUse(words, m) ? null : List.of(new Store(root, words[m + 1]),
                        new Store(m + 1, words[20 + op.other]), new Store(20 + op.other, m));
                case "set":
                    return List.of(new Store(op.one, op.other));
                default:
                    List<Store> some = new ArrayList<>();
                    int leaked = shapeOf(words)[1];
                    for (int b = 0; b < 10; b++) {
                        if ((leaked & 1 << b) != 0) {
                            some.add(new Store(24 + 4 * b, 0));
                        }
                    }
                    return some.isEmpty() ? null : some;
            }
        }

        static int[] shapeOf(int[] words) {
            int[] shape = new int[5];
            for (int root = 0; root < 4; root++) {
                Set<Integer> met = new HashSet<>();
                int at = words[20 + root];
                while (at != 0) {
                    if (!inUse(words, at)) {
                        shape[3] |= 1 << root;
                        break;
                    }
                    if (!met.add(at)) {
                        shape[4] |= 1 << root;
                        break;
                    }
                    shape[0] |= 1 << (at / 4 - 6);
                    at = words[at + 1];
                }
            }
            for (int b = 24; b < 64; b += 4) {
                if (words[b] == 1) {
                    shape[2] |= 1 << (b / 4 - 6);
                }
            }
            shape[1] = shape[2] & ~shape[0];
            return shape;
        }

        void fence(char site) {
            if (!leftOut.contains(site)) {
                flight.add(new Micro(2, -1, -1));
            }
        }

        void flush(char site, int line) {
            if (!leftOut.contains(site)) {
                flight.add(new Micro(1, line, -1));
            }
        }

        void store(int address, int number) {
            flight.add(new Micro(0, address, number));
        }

        void begin(List<Store> writes) {
            int[] words = words();
            List<Integer> before = heapOf(words);
            flight.clear();
            for (int i = 0; i < writes.size(); i++) {
                Store w = writes.get(i);
                store(4 + 2 * i, w.address());
                store(5 + 2 * i, redo ? w.number() : words[w.address()]);
                flush('e', 1 + i / 2);
                if (!redo) {
                    fence('a');
                    store(0, i + 1);
                    flush('f', 0);
                    fence('b');
                    store(w.address(), w.number());
                }
                words[w.address()] = w.number();
            }
            if (redo) {
                fence('a');
                store(0, writes.size());
                flush('f', 0);
                fence('b');
                for (Store w : writes) {
                    store(w.address(), w.number());
                }
            }
            end(writes);
            aims = List.of(before, heapOf(words));
        }

        void end(List<Store> writes) {
            Set<Integer> lines = new java.util.LinkedHashSet<>();
            for (Store w : writes) {
                lines.add(w.address() / 4);
            }
            for (int line : lines) {
                flush('g', line);
            }
            fence('c');
            store(0, 0);
            flush('f', 0);
            fence('d');
        }

        void beginRecovery() {
            tally[3]++;
            state = 0;
            if (media[0] == 0) {
                return;
            }
            state = 2;
            aims = List.of(heapOf(recover(media)));
            List<Store> writes = new ArrayList<>();
            int n = Math.min(8, media[0]);
            for (int k = 0; k < n; k++) {
                int i = redo ? k : n - 1 - k;
                if (media[4 + 2 * i] >= 20 && media[4 + 2 * i] < 64) {
                    writes.add(new Store(media[4 + 2 * i], media[5 + 2 * i]));
                }
            }
            for (Store w : writes) {
                store(w.address(), w.number());
            }
            end(writes);
        }

        boolean soundWaits() {
            for (List<Op> ops : waiting) {
                if (writes(ops) != null) {
                    return true;
                }
            }
            return false;
        }

        boolean ready() {
            return state == 0 && flight.isEmpty() && soundWaits();
        }

        boolean step() {
            while (state == 0 && flight.isEmpty() && !waiting.isEmpty()) {
                List<Store> writes = writes(waiting.remove(0));
                if (writes == null) {
                    tally[1]++;
                } else {
                    begin(writes);
                }
            }
            if (flight.isEmpty()) {
                return false;
            }
            Micro m = flight.remove();
            tally[4]++;
            tally[5 + m.kind()]++;
            if (m.kind() == 0) {
                int line = m.place() / 4;
                if (pending.get(line).size() == 6) {
                    reach(line, 1);
                }
                pending.get(line).add(new Store(m.place(), m.number()));
            } else if (m.kind() == 1) {
                asked[m.place()] = pending.get(m.place()).size();
            } else {
                for (int line = 0; line < 16; line++) {
                    reach(line, asked[line]);
                }
            }
            if (flight.isEmpty()) {
                if (state == 0) {
                    tally[0]++;
                }
                state = 0;
            }
            return true;
        }

        void crash(int[] image) {
            media = image;
            for (List<Store> row : pending) {
                row.clear();
            }
            asked = new int[16];
            flight.clear();
            state = 1;
            tally[2]++;
        }

        /** How many are bad (-2 too many), behind how many steps, the first order. */
        int[] check() {
            World w = copy();
            if (w.state == 1) {
                w.beginRecovery();
            }
            int[] answer = {0, -1, -1};
            boolean follows = !w.flight.isEmpty() || state == 0 && w.ready();
            for (int steps = 0; ; steps++) {
                if (w.orders() > 2000) {
                    answer[0] = -2;
                    answer[1] = answer[1] == -1 ? -2 : answer[1];
                    answer[2] = answer[2] == -1 ? -2 : answer[2];
                    return answer;
                }
                for (int order = 0; order < w.orders(); order++) {
                    if (w.fateOf(w.imageOf(w.rowOf(order))) == 3) {
                        answer[0]++;
                        if (answer[1] == -1) {
                            answer[1] = steps;
                            answer[2] = order;
                        }
                    }
                }
                if (!follows || steps > 0 && w.flight.isEmpty()) {
                    return answer;
                }
                w.step();
            }
        }

        boolean soundWithout(Set<Character> sites) {
            World w = copy();
            w.leftOut = sites;
            return w.check()[0] == 0;
        }
    }

    /** The face, as the document tells it. */
    static final class Model {
        StringBuilder tape = new StringBuilder();
        int fault = -1;
        World world = new World();
        List<World> acts = new ArrayList<>();
        List<int[]> seen = new ArrayList<>();
        int[] status = new int[3];
        Model kept = null;

        int feed(int... numbers) {
            if (tape.length() + 20 > 700) {
                return -1;
            }
            for (int n : numbers) {
                tape.append((char) (n >>> 24)).append((char) (n >>> 16 & 255)).append((char) (n >>> 8 & 255))
                    .append((char) (n & 255));
            }
            return tape.length();
        }

        int heap(int n) {
            if (n < 0 || n > tape.length()) {
                throw new IllegalArgumentException();
            }
            String text = tape.substring(0, n);
            tape.setLength(0);
            try {
                world = new Parser(text).parse();
            } catch (Fault f) {
                fault = f.place;
                status[0]++;
                return f.code;
            }
            fault = -1;
            acts.clear();
            seen.clear();
            kept = null;
            return 0;
        }

        int fault() {
            return fault;
        }

        static void need(boolean is) {
            if (!is) {
                throw new NoSuchElementException();
            }
        }

        int count(int what) {
            need(what >= 0 && what < 20);
            int sites = 0;
            for (char c : world.leftOut) {
                sites |= 1 << (c - 'a');
            }
            int pends = 0;
            for (List<Store> row : world.pending) {
                pends += row.size();
            }
            int[] t = world.tally;
            return new int[] {world.state, world.redo ? 1 : 0, sites, world.waiting.size(), world.flight.size(), t[0], t[1],
                t[2], t[3], t[4], t[5], t[6], t[7], pends, acts.size(), seen.size(), tape.length(), status[0], status[1],
                status[2]}[what];
        }

        int word(int word, boolean media) {
            need(word >= 0 && word < 64);
            return media ? world.media[word] : world.words()[word];
        }

        int line(int line, int i) {
            need(line >= 0 && line < 16);
            List<Store> row = world.pending.get(line);
            if (i == -1 || i == -2) {
                return i == -1 ? row.size() : world.asked[line];
            }
            need(i >= 0 && i < row.size());
            return 100 * row.get(i).address() + row.get(i).number();
        }

        int micro(int i, int what) {
            need(what >= 0 && what < 3 && i >= 0 && i < world.flight.size());
            Micro m = new ArrayList<>(world.flight).get(i);
            return what == 0 ? m.kind() : what == 1 ? m.place() : m.number();
        }

        long orders() {
            return world.orders();
        }

        int shape(int of, int what) {
            need(of >= 0 && of < 3 && what >= 0 && what < 5);
            int[] words = of == 0 ? world.words() : of == 1 ? world.media : world.recover(world.media);
            return World.shapeOf(words)[what];
        }

        int refuse() {
            status[1]++;
            return -1;
        }

        void act() {
            acts.add(world.copy());
            if (acts.size() > 40) {
                acts.remove(0);
            }
        }

        int steps(int many) {
            if (world.state == 1 || many < 1 || many > 50 || world.flight.isEmpty() && !world.soundWaits()) {
                return refuse();
            }
            act();
            int made = 0;
            while (made < many && world.step()) {
                made++;
            }
            return made;
        }

        int evict(int line, int many) {
            need(line >= 0 && line < 16);
            if (many < 1 || many > world.pending.get(line).size()) {
                return refuse();
            }
            act();
            world.reach(line, many);
            return world.pending.get(line).size();
        }

        boolean isOrder(int order) {
            return order >= 0 && order < world.orders();
        }

        int crash(int order) {
            if (world.state == 1 || !isOrder(order)) {
                return refuse();
            }
            act();
            int[] image = world.imageOf(world.rowOf(order));
            int fate = world.fateOf(image);
            world.crash(image);
            return fate;
        }

        int recover() {
            if (world.state != 1) {
                return refuse();
            }
            act();
            world.beginRecovery();
            return world.flight.size();
        }

        int later(int op, int one, int other) {
            need(op >= 0 && op < 5);
            boolean root = one >= 0 && one <= 3;
            boolean number = other >= 0 && other <= 99;
            boolean[] fine = {root && number, root, root && other >= 0 && other <= 3 && one != other,
                one >= 20 && one <= 63 && number, true};
            if (world.waiting.size() == 12 || !fine[op]) {
                return refuse();
            }
            act();
            String[] names = {"new", "drop", "move", "set", "sweep"};
            world.waiting.add(List.of(new Op(names[op], one, other)));
            return world.waiting.size();
        }

        int site(int site) {
            need(site >= 0 && site < 7);
            act();
            char c = (char) ('a' + site);
            if (!world.leftOut.remove(c)) {
                world.leftOut.add(c);
            }
            return count(2);
        }

        int undo() {
            if (acts.isEmpty()) {
                return -1;
            }
            world = acts.remove(acts.size() - 1);
            return acts.size();
        }

        int recovered(int order, int word) {
            need(word >= 0 && word < 64);
            if (!isOrder(order)) {
                throw new IllegalArgumentException();
            }
            return world.recover(world.imageOf(world.rowOf(order)))[word];
        }

        int fate(int order) {
            if (!isOrder(order)) {
                throw new IllegalArgumentException();
            }
            return world.fateOf(world.imageOf(world.rowOf(order)));
        }

        int check(int what) {
            need(what >= 0 && what < 3);
            return world.check()[what];
        }

        int needless() {
            if (!world.ready()) {
                return -1;
            }
            int bits = 0;
            for (char c = 'a'; c <= 'g'; c++) {
                Set<Character> sites = new TreeSet<>(world.leftOut);
                if (sites.add(c) && world.soundWithout(sites)) {
                    bits |= 1 << (c - 'a');
                }
            }
            return bits;
        }

        int least(int what) {
            need(what >= 0 && what < 2);
            int best = -1;
            for (int kept = 0; kept < 16 && world.ready(); kept++) {
                Set<Character> sites = new TreeSet<>(world.leftOut);
                for (char c = 'a'; c <= 'd'; c++) {
                    sites.remove(c);
                    if ((kept & 1 << (c - 'a')) == 0) {
                        sites.add(c);
                    }
                }
                boolean fewer = best == -1 || Integer.bitCount(kept) < Integer.bitCount(best);
                if (fewer && world.soundWithout(sites)) {
                    best = kept;
                }
            }
            return what == 0 || best == -1 ? best : Integer.bitCount(best);
        }

        int chance(int what) {
            need(what >= 0 && what < 2);
            if (world.orders() > 2000) {
                return -1;
            }
            int good = 0;
            int all = (int) world.orders();
            for (int order = 0; order < all; order++) {
                int fate = fate(order);
                good += fate == 1 || fate == 2 ? 1 : 0;
            }
            int by = java.math.BigInteger.valueOf(good).gcd(java.math.BigInteger.valueOf(all)).intValue();
            return what == 0 ? good / by : all / by;
        }

        int see(int word, int number) {
            if (seen.size() == 8 || word < 0 || word > 63 || number < 0 || number > 999) {
                status[2]++;
                return -1;
            }
            seen.add(new int[] {word, number});
            return seen.size();
        }

        List<Integer> explaining() {
            List<Integer> some = new ArrayList<>();
            for (int order = 0; order < world.orders(); order++) {
                int[] image = world.imageOf(world.rowOf(order));
                boolean fits = true;
                for (int[] s : seen) {
                    fits &= image[s[0]] == s[1];
                }
                if (fits) {
                    some.add(order);
                }
            }
            return some;
        }

        int explained(int what) {
            need(what >= 0 && what < 2);
            if (world.orders() > 2000) {
                return -2;
            }
            List<Integer> some = explaining();
            return what == 0 ? some.size() : some.isEmpty() ? -1 : some.get(0);
        }

        int look(int what) {
            need(what >= 0 && what < 2);
            int best = -1;
            int most = 0;
            List<Integer> some = world.orders() > 2000 ? List.of() : explaining();
            List<int[]> images = new ArrayList<>();
            for (int order : some) {
                images.add(world.imageOf(world.rowOf(order)));
            }
            for (int word = 0; word < 64; word++) {
                Set<Integer> numbers = new HashSet<>();
                for (int[] image : images) {
                    numbers.add(image[word]);
                }
                if (numbers.size() > most) {
                    most = numbers.size();
                    best = word;
                }
            }
            return what == 0 ? best : most;
        }

        void forget() {
            seen.clear();
        }

        int years(int seed, int n, int what) {
            need(what >= 0 && what < 3);
            if (n < 0 || n > 30) {
                throw new IllegalArgumentException();
            }
            World w = world.copy();
            Dice dice = new Dice(seed);
            int crashes = 0;
            int bad = 0;
            for (int i = 0; i < n; i++) {
                int what1 = dice.draw(8);
                if (what1 <= 3) {
                    int many = dice.draw(6) + 1;
                    for (int k = 0; k < many; k++) {
                        w.step();
                    }
                } else if (what1 == 4) {
                    int line = dice.draw(16);
                    if (!w.pending.get(line).isEmpty()) {
                        w.reach(line, 1);
                    }
                } else if (what1 == 5) {
                    if (w.state != 1) {
                        int[] row = new int[16];
                        for (int line = 0; line < 16; line++) {
                            int pends = w.pending.get(line).size();
                            row[line] = pends > 0 ? dice.draw(pends + 1) : 0;
                        }
                        int[] image = w.imageOf(row);
                        crashes++;
                        bad += w.fateOf(image) == 3 ? 1 : 0;
                        w.crash(image);
                    }
                    w.media = w.recover(w.media);
                    w.state = 0;
                } else {
                    int root = dice.draw(4);
                    int number = what1 == 6 ? dice.draw(10) : 0;
                    if (w.waiting.size() < 12) {
                        w.waiting.add(List.of(new Op(what1 == 6 ? "new" : "drop", root, number)));
                    }
                }
            }
            return what == 0 ? crashes : what == 1 ? bad : Integer.bitCount(World.shapeOf(w.media)[1]);
        }

        static final class Dice {
            int seed;

            Dice(int seed) {
                this.seed = seed;
            }

            int draw(int n) {
                seed = (int) (seed * 1103515245L + 12345L);
                return (seed >> 16 & 0x7fff) % n;
            }
        }

        Model copy() {
            Model m = new Model();
            m.world = world.copy();
            for (World w : acts) {
                m.acts.add(w.copy());
            }
            m.seen = new ArrayList<>(seen);
            m.status = status.clone();
            return m;
        }

        void image() {
            kept = copy();
        }

        boolean restore() {
            if (kept == null) {
                return false;
            }
            Model m = kept.copy();
            world = m.world;
            acts = m.acts;
            seen = m.seen;
            status = m.status;
            return true;
        }
    }

    /** Reads a text by its rows of tokens. */
    static final class Parser {
        final List<String> tokens = new ArrayList<>();
        final List<Integer> places = new ArrayList<>();
        int next = 0;
        final World world = new World();
        boolean modeTold = false;
        final Set<Integer> data = new HashSet<>();
        final Set<Integer> chains = new HashSet<>();

        Parser(String text) {
            java.util.regex.Matcher m = java.util.regex.Pattern.compile("[a-z]+|[0-9]+|[^ \n]",
                java.util.regex.Pattern.DOTALL).matcher(text);
            while (m.find()) {
                tokens.add(m.group());
                places.add(m.start());
            }
            tokens.add("");
            places.add(text.length());
        }

        Fault fault(int code) {
            return new Fault(code, places.get(next - 1));
        }

        String take() {
            return tokens.get(next++);
        }

        boolean has(String token) {
            return tokens.get(next).equals(token);
        }

        void sign(String sign) {
            if (!take().equals(sign)) {
                throw fault(1);
            }
        }

        int number(int least, int most) {
            String token = take();
            if (!token.matches("[0-9]+")) {
                throw fault(1);
            }
            if (token.length() > 3 || Integer.parseInt(token) < least || Integer.parseInt(token) > most) {
                throw fault(2);
            }
            return Integer.parseInt(token);
        }

        int freshBlock() {
            int b = number(0, 9);
            if (world.media[24 + 4 * b] == 1) {
                throw fault(3);
            }
            world.media[24 + 4 * b] = 1;
            return 24 + 4 * b;
        }

        World parse() {
            while (!has("")) {
                clause(take());
                sign(";");
            }
            return world;
        }

        void clause(String name) {
            switch (name) {
                case "undo": case "redo":
                    if (modeTold) {
                        throw fault(4);
                    }
                    modeTold = true;
                    world.redo = name.equals("redo");
                    break;
                case "without":
                    do {
                        String site = take();
                        if (!site.matches("[a-g]")) {
                            throw fault(1);
                        }
                        if (!world.leftOut.add(site.charAt(0))) {
                            throw fault(4);
                        }
                    } while (!has(";"));
                    break;
                case "chain":
                    int root = number(0, 3);
                    if (!chains.add(root)) {
                        throw fault(4);
                    }
                    int link = 20 + root;
                    do {
                        int block = freshBlock();
                        world.media[link] = block;
                        link = block + 1;
                    } while (!has(";"));
                    break;
                case "leak":
                    freshBlock();
                    break;
                case "data":
                    int b = number(0, 9);
                    if (!data.add(b)) {
                        throw fault(3);
                    }
                    world.media[26 + 4 * b] = number(0, 99);
                    world.media[27 + 4 * b] = number(0, 99);
                    break;
                case "do":
                    if (world.waiting.size() == 12) {
                        throw fault(2);
                    }
                    List<Op> ops = new ArrayList<>();
                    ops.add(op(ops.size()));
                    while (has(",")) {
                        take();
                        ops.add(op(ops.size()));
                    }
                    world.waiting.add(ops);
                    break;
                default:
                    throw fault(1);
            }
        }

        Op op(int ahead) {
            String name = take();
            if (!Arrays.asList("new", "drop", "move", "set", "sweep").contains(name)) {
                throw fault(1);
            }
            if (ahead == 4) {
                throw fault(2);
            }
            switch (name) {
                case "new": {
                    int root = number(0, 3);
                    return new Op(name, root, number(0, 99));
                }
                case "drop":
                    return new Op(name, number(0, 3), 0);
                case "move": {
                    int root = number(0, 3);
                    int target = number(0, 3);
                    if (root == target) {
                        throw fault(3);
                    }
                    return new Op(name, root, target);
                }
                case "set": {
                    int address = number(20, 63);
                    return new Op(name, address, number(0, 99));
                }
                default:
                    return new Op(name, 0, 0);
            }
        }
    }
}
