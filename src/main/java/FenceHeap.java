import java.util.Arrays;
import java.util.NoSuchElementException;

/** A heap on a memory that is reached late: what ../shared/DOC.md promises, by its numbers and words. */
public final class FenceHeap {
    public static final int NONE = -1;
    public static final int TOO_MANY = -2;

    private static final int WORDS = 64;
    private static final int LINES = 16;
    private static final int LINE_WORDS = 4;
    private static final int MOST_PENDING = 6;

    private static final int COUNT_WORD = 0;
    private static final int LOG_START = 4;
    private static final int LOG_ENTRIES = 8;
    private static final int HEAP_START = 20;
    private static final int HEAP_WORDS = 44;
    private static final int ROOTS = 4;
    private static final int BLOCKS_START = 24;
    private static final int BLOCKS = 10;
    private static final int BLOCK_WORDS = 4;
    private static final int MOST_NUMBER = 99;

    private static final int RUNS = 0;
    private static final int DOWN = 1;
    private static final int RECOVERS = 2;
    private static final int UNDO = 0;
    private static final int REDO = 1;

    private static final int SITES = 7;
    private static final int SITE_A = 0;
    private static final int SITE_B = 1;
    private static final int SITE_C = 2;
    private static final int SITE_D = 3;
    private static final int SITE_E = 4;
    private static final int SITE_F = 5;
    private static final int SITE_G = 6;
    private static final int FENCE_SITES = 15;

    // A store is held as 100 * address + number; a micro and an op have 10000 * their kind above that.
    private static final int BY_ADDRESS = 100;
    private static final int BY_KIND = 10000;
    private static final int STORE = 0;
    private static final int FLUSH = 1;
    private static final int FENCE = 2;

    private static final int NEW = 0;
    private static final int DROP = 1;
    private static final int MOVE = 2;
    private static final int SET = 3;
    private static final int SWEEP = 4;
    private static final int OPS = 5;
    private static final int[] ARGUMENTS = {2, 1, 2, 2, 0};
    private static final int[] FIRST_LEAST = {0, 0, 0, 20, 0};
    private static final int[] FIRST_MOST = {3, 3, 3, 63, 0};
    private static final int[] SECOND_MOST = {99, 0, 3, 99, 0};

    private static final int MOST_WAITING = 12;
    private static final int MOST_OPS = 4;
    private static final int MOST_WRITES = 8;
    // By UNDO eight micros a write, a flush for each, and four at the end: 76.
    private static final int MOST_MICROS = 80;

    private static final int DONE = 0;
    private static final int VOID = 1;
    private static final int CRASHES = 2;
    private static final int RECOVERIES = 3;
    private static final int STEPS = 4;
    private static final int BY_MICRO = 5;
    private static final int TALLIES = 8;

    private static final int REFUSED_TEXT = 0;
    private static final int REFUSED_ACT = 1;
    private static final int REFUSED_SIGHT = 2;
    private static final int STATUSES = 3;

    private static final int MOST_BYTES = 700;
    private static final int FED_BYTES = 20;
    private static final int MOST_STEPS = 50;
    private static final int MOST_ACTS = 40;
    private static final int MOST_SEEN = 8;
    private static final int MOST_SEEN_NUMBER = 999;
    private static final int BY_SEEN_WORD = 1000;
    private static final int MOST_ORDERS = 2000;
    private static final int MOST_YEARS = 30;

    private final int[] tape = new int[MOST_BYTES];
    private int tapeLength = 0;
    private int faultPlace = NONE;
    private final All all = new All();
    private All kept = null;
    private boolean isKept = false;
    private final Planner planner = new Planner();
    private final Walk walk = new Walk();
    private final Shape surveyed = new Shape();
    private final Sight sight = new Sight();
    private final Checker checker = new Checker();
    private final Years ages = new Years();
    private final Reader reader = new Reader();

    public FenceHeap() {
    }

    public int feed(int a, int b, int c, int d, int e) {
        if (tapeLength + FED_BYTES > MOST_BYTES) {
            return NONE;
        }
        putBytes(a);
        putBytes(b);
        putBytes(c);
        putBytes(d);
        putBytes(e);
        return tapeLength;
    }

    private void putBytes(int number) {
        for (int shift = 24; shift >= 0; shift -= 8) {
            tape[tapeLength] = (number >> shift) & 255;
            tapeLength++;
        }
    }

    public int heap(int n) throws IllegalArgumentException {
        if (n < 0 || n > tapeLength) {
            throw new IllegalArgumentException("the tape has not so many bytes");
        }
        tapeLength = 0;
        int fault = reader.readText(tape, n);
        if (fault != 0) {
            faultPlace = reader.start;
            all.refused[REFUSED_TEXT]++;
            return fault;
        }
        faultPlace = NONE;
        isKept = false;
        all.renew(reader.machine);
        return 0;
    }

    public int fault() {
        return faultPlace;
    }

    public int count(int what) throws NoSuchElementException {
        Machine machine = all.machine;
        switch (what) {
            case 0: return machine.state;
            case 1: return machine.mode;
            case 2: return machine.sites;
            case 3: return machine.waits;
            case 4: return machine.microsLeft();
            case 13: return machine.cache.pendingInAll();
            case 14: return all.history.size;
            case 15: return all.seenSize;
            case 16: return tapeLength;
            default: break;
        }
        if (what >= 5 && what < 5 + TALLIES) {
            return machine.tallies[what - 5];
        }
        if (what >= 17 && what < 17 + STATUSES) {
            return all.refused[what - 17];
        }
        throw new NoSuchElementException("no such count");
    }

    public int word(int word, boolean media) throws NoSuchElementException {
        if (!isWord(word)) {
            throw new NoSuchElementException("no such word");
        }
        Cache cache = all.machine.cache;
        return media ? cache.media[word] : cache.wordNow(word);
    }

    public int line(int line, int i) throws NoSuchElementException {
        if (!isLine(line)) {
            throw new NoSuchElementException("no such line");
        }
        Cache cache = all.machine.cache;
        if (i == -1) {
            return cache.held[line];
        }
        if (i == -2) {
            return cache.asked[line];
        }
        if (i < 0 || i >= cache.held[line]) {
            throw new NoSuchElementException("no such store");
        }
        return cache.stores[line * MOST_PENDING + i];
    }

    public int micro(int i, int what) throws NoSuchElementException {
        Machine machine = all.machine;
        if (i < 0 || i >= machine.microsLeft() || what < 0 || what > 2) {
            throw new NoSuchElementException("no such micro, or nothing such of it");
        }
        int micro = machine.micros[machine.nextMicro + i];
        int kind = micro / BY_KIND;
        if (what == 0) {
            return kind;
        }
        if (kind == FENCE || (kind == FLUSH && what == 2)) {
            return NONE;
        }
        int place = micro % BY_KIND / BY_ADDRESS;
        return what == 1 ? place : micro % BY_ADDRESS;
    }

    public long orders() {
        return all.machine.cache.orderTotal();
    }

    public int shape(int of, int what) throws NoSuchElementException {
        if (of < 0 || of > 2 || what < 0 || what > 4) {
            throw new NoSuchElementException("no such shape");
        }
        Machine machine = all.machine;
        if (of == 0) {
            machine.cache.fillWords(planner.words);
            surveyed.survey(planner.words);
        } else {
            walk.start(machine.cache);
            walk.recoverPicture(machine.mode);
            surveyed.survey(of == 1 ? walk.picture : walk.settled);
        }
        return surveyed.answer(what);
    }

    public int steps(int many) {
        Machine machine = all.machine;
        if (many < 1 || many > MOST_STEPS || !machine.canStep(planner)) {
            return refuseAct();
        }
        all.history.keep(machine);
        int made = 0;
        while (made < many && machine.step(planner)) {
            made++;
        }
        return made;
    }

    private int refuseAct() {
        all.refused[REFUSED_ACT]++;
        return NONE;
    }

    public int evict(int line, int many) throws NoSuchElementException {
        if (!isLine(line)) {
            throw new NoSuchElementException("no such line");
        }
        Machine machine = all.machine;
        if (many < 1 || many > machine.cache.held[line]) {
            return refuseAct();
        }
        all.history.keep(machine);
        machine.cache.reach(line, many);
        return machine.cache.held[line];
    }

    public int crash(int order) {
        Machine machine = all.machine;
        if (machine.state == DOWN || !isOrder(order)) {
            return refuseAct();
        }
        all.history.keep(machine);
        walk.open(machine.cache, order);
        int fate = walk.fateBy(machine);
        machine.fall(walk);
        return fate;
    }

    public int recover() {
        Machine machine = all.machine;
        if (machine.state != DOWN) {
            return refuseAct();
        }
        all.history.keep(machine);
        machine.beginRecovery(planner);
        return machine.microsLeft();
    }

    public int later(int op, int one, int other) throws NoSuchElementException {
        if (op < 0 || op >= OPS) {
            throw new NoSuchElementException("no such op");
        }
        Machine machine = all.machine;
        if (machine.waits >= MOST_WAITING || !isAsTold(op, one, other)) {
            return refuseAct();
        }
        all.history.keep(machine);
        machine.addWaiting(packOp(op, one, other));
        return machine.waits;
    }

    private static boolean isAsTold(int op, int one, int other) {
        if (ARGUMENTS[op] > 0 && (one < FIRST_LEAST[op] || one > FIRST_MOST[op])) {
            return false;
        }
        if (ARGUMENTS[op] > 1 && (other < 0 || other > SECOND_MOST[op])) {
            return false;
        }
        return op != MOVE || one != other;
    }

    private static int packOp(int op, int one, int other) {
        int first = ARGUMENTS[op] > 0 ? one : 0;
        int second = ARGUMENTS[op] > 1 ? other : 0;
        // A packed 0 is no op: so kinds count from 1 here.
        return (op + 1) * BY_KIND + first * BY_ADDRESS + second;
    }

    public int site(int site) throws NoSuchElementException {
        if (site < 0 || site >= SITES) {
            throw new NoSuchElementException("no such site");
        }
        all.history.keep(all.machine);
        all.machine.sites ^= 1 << site;
        return all.machine.sites;
    }

    public int undo() {
        if (!all.history.giveBack(all.machine)) {
            return NONE;
        }
        return all.history.size;
    }

    public int recovered(int order, int word) throws NoSuchElementException, IllegalArgumentException {
        if (!isWord(word)) {
            throw new NoSuchElementException("no such word");
        }
        if (!isOrder(order)) {
            throw new IllegalArgumentException("no such order");
        }
        walk.open(all.machine.cache, order);
        walk.recoverPicture(all.machine.mode);
        return walk.settled[word];
    }

    public int fate(int order) throws IllegalArgumentException {
        if (!isOrder(order)) {
            throw new IllegalArgumentException("no such order");
        }
        walk.open(all.machine.cache, order);
        return walk.fateBy(all.machine);
    }

    public int check(int what) throws NoSuchElementException {
        if (what < 0 || what > 2) {
            throw new NoSuchElementException("no such answer of a check");
        }
        checker.run(all.machine, all.machine.sites, false);
        if (what == 0) {
            return checker.isTooMany ? TOO_MANY : checker.bad;
        }
        if (checker.bad == 0) {
            return checker.isTooMany ? TOO_MANY : NONE;
        }
        return what == 1 ? checker.firstStep : checker.firstOrder;
    }

    public int needless() {
        Machine machine = all.machine;
        if (!machine.isReady(planner)) {
            return NONE;
        }
        int bits = 0;
        for (int site = 0; site < SITES; site++) {
            int with = machine.sites | (1 << site);
            if (with != machine.sites) {
                checker.run(machine, with, true);
                bits |= checker.isSound() ? 1 << site : 0;
            }
        }
        return bits;
    }

    public int least(int what) throws NoSuchElementException {
        if (what < 0 || what > 1) {
            throw new NoSuchElementException("no such answer of the least");
        }
        Machine machine = all.machine;
        if (!machine.isReady(planner)) {
            return NONE;
        }
        int flushes = machine.sites & ~FENCE_SITES;
        for (int many = 0; many <= Integer.bitCount(FENCE_SITES); many++) {
            for (int fences = 0; fences <= FENCE_SITES; fences++) {
                if (Integer.bitCount(fences) == many) {
                    checker.run(machine, flushes | (FENCE_SITES & ~fences), true);
                    if (checker.isSound()) {
                        return what == 0 ? fences : many;
                    }
                }
            }
        }
        return NONE;
    }

    public int chance(int what) throws NoSuchElementException {
        if (what < 0 || what > 1) {
            throw new NoSuchElementException("no such part of a fraction");
        }
        Machine machine = all.machine;
        if (machine.cache.orderTotal() > MOST_ORDERS) {
            return NONE;
        }
        int total = (int) machine.cache.orderTotal();
        int good = 0;
        walk.start(machine.cache);
        for (int order = 0; order < total; order++) {
            int fate = walk.fateBy(machine);
            good += fate == 1 || fate == 2 ? 1 : 0;
            walk.goOn(machine.cache);
        }
        int common = commonDivisor(total, good);
        return (what == 0 ? good : total) / common;
    }

    // The greatest common divisor, at least 1; at most 2000 here, so that its loop is short.
    private static int commonDivisor(int larger, int smaller) {
        int one = larger;
        int other = smaller;
        for (int i = 0; i < MOST_ORDERS && other > 0; i++) {
            int rest = one % other;
            one = other;
            other = rest;
        }
        return Math.max(one, 1);
    }

    public int see(int word, int number) {
        if (all.seenSize >= MOST_SEEN || !isWord(word) || number < 0 || number > MOST_SEEN_NUMBER) {
            all.refused[REFUSED_SIGHT]++;
            return NONE;
        }
        all.seen[all.seenSize] = word * BY_SEEN_WORD + number;
        all.seenSize++;
        return all.seenSize;
    }

    public int explained(int what) throws NoSuchElementException {
        if (what < 0 || what > 1) {
            throw new NoSuchElementException("no such answer of what is explained");
        }
        Cache cache = all.machine.cache;
        if (cache.orderTotal() > MOST_ORDERS) {
            return TOO_MANY;
        }
        sight.narrow(cache, all.seen, all.seenSize);
        int many = sight.ordersLeft();
        if (what == 0) {
            return many;
        }
        return many == 0 ? NONE : sight.firstLeft(cache);
    }

    public int look(int what) throws NoSuchElementException {
        if (what < 0 || what > 1) {
            throw new NoSuchElementException("no such answer of where to look");
        }
        Cache cache = all.machine.cache;
        int best = NONE;
        int most = 0;
        if (cache.orderTotal() <= MOST_ORDERS) {
            sight.narrow(cache, all.seen, all.seenSize);
            for (int word = 0; word < WORDS && sight.ordersLeft() > 0; word++) {
                int unlike = sight.unlikeNumbers(cache, word);
                if (unlike > most) {
                    most = unlike;
                    best = word;
                }
            }
        }
        return what == 0 ? best : most;
    }

    public void forget() {
        all.seenSize = 0;
    }

    public int years(int seed, int n, int what) throws NoSuchElementException, IllegalArgumentException {
        if (what < 0 || what > 2) {
            throw new NoSuchElementException("no such answer of years");
        }
        if (n < 0 || n > MOST_YEARS) {
            throw new IllegalArgumentException("not so many years");
        }
        ages.start(all.machine, seed);
        for (int i = 0; i < n; i++) {
            ages.passOne();
        }
        if (what == 2) {
            surveyed.survey(ages.trial.cache.media);
            return Integer.bitCount(surveyed.leaked);
        }
        return what == 0 ? ages.crashes : ages.bad;
    }

    public void image() {
        if (kept == null) {
            kept = new All();
        }
        kept.copyFrom(all);
        isKept = true;
    }

    public boolean restore() {
        if (!isKept || kept == null) {
            return false;
        }
        all.copyFrom(kept);
        return true;
    }

    private static boolean isWord(int word) {
        return word >= 0 && word < WORDS;
    }

    private static boolean isLine(int line) {
        return line >= 0 && line < LINES;
    }

    private boolean isOrder(int order) {
        return order >= 0 && order < all.machine.cache.orderTotal();
    }

    private static int blockAddress(int block) {
        return BLOCKS_START + block * BLOCK_WORDS;
    }

    private static boolean isHeapAddress(int number) {
        return number >= HEAP_START && number < WORDS;
    }

    /** The word of the i-th entry that a recovery takes, of so many. */
    private static int entryPlace(int i, int entries, int mode) {
        return LOG_START + 2 * (mode == UNDO ? entries - 1 - i : i);
    }

    // The log is none of the heap: so what is written here does not change what is read.
    private static void recoverWords(int[] words, int mode) {
        int entries = Math.min(words[COUNT_WORD], LOG_ENTRIES);
        for (int i = 0; i < entries; i++) {
            int place = entryPlace(i, entries, mode);
            if (isHeapAddress(words[place])) {
                words[words[place]] = words[place + 1];
            }
        }
        words[COUNT_WORD] = 0;
    }

    private static boolean isBlockAddress(int number) {
        return number >= BLOCKS_START && number < WORDS && number % BLOCK_WORDS == 0;
    }

    /** MEDIA, and in front of it the stores that pend, line by line. */
    private static final class Cache {
        final int[] media = new int[WORDS];
        final int[] stores = new int[LINES * MOST_PENDING];
        final int[] held = new int[LINES];
        final int[] asked = new int[LINES];

        void copyFrom(Cache other) {
            System.arraycopy(other.media, 0, media, 0, WORDS);
            System.arraycopy(other.stores, 0, stores, 0, stores.length);
            System.arraycopy(other.held, 0, held, 0, LINES);
            System.arraycopy(other.asked, 0, asked, 0, LINES);
        }

        void holdMedia(int[] words) {
            System.arraycopy(words, 0, media, 0, WORDS);
            Arrays.fill(held, 0);
            Arrays.fill(asked, 0);
        }

        void put(int address, int number) {
            int line = address / LINE_WORDS;
            if (held[line] == MOST_PENDING) {
                reach(line, 1);
            }
            stores[line * MOST_PENDING + held[line]] = address * BY_ADDRESS + number;
            held[line]++;
        }

        void ask(int line) {
            asked[line] = held[line];
        }

        void await() {
            for (int line = 0; line < LINES; line++) {
                reach(line, asked[line]);
            }
        }

        /** The first so many stores of a line reach media. */
        void reach(int line, int many) {
            int first = line * MOST_PENDING;
            for (int i = first; i < first + many; i++) {
                media[stores[i] / BY_ADDRESS] = stores[i] % BY_ADDRESS;
            }
            held[line] -= many;
            System.arraycopy(stores, first + many, stores, first, held[line]);
            asked[line] = Math.max(0, asked[line] - many);
        }

        int wordNow(int word) {
            int line = word / LINE_WORDS;
            for (int i = held[line] - 1; i >= 0; i--) {
                int store = stores[line * MOST_PENDING + i];
                if (store / BY_ADDRESS == word) {
                    return store % BY_ADDRESS;
                }
            }
            return media[word];
        }

        void fillWords(int[] words) {
            System.arraycopy(media, 0, words, 0, WORDS);
            for (int line = 0; line < LINES; line++) {
                for (int i = 0; i < held[line]; i++) {
                    int store = stores[line * MOST_PENDING + i];
                    words[store / BY_ADDRESS] = store % BY_ADDRESS;
                }
            }
        }

        int pendingInAll() {
            int sum = 0;
            for (int line = 0; line < LINES; line++) {
                sum += held[line];
            }
            return sum;
        }

        // At most 7 to the 16th: a long holds it.
        long orderTotal() {
            long product = 1;
            for (int line = 0; line < LINES; line++) {
                product *= held[line] + 1;
            }
            return product;
        }
    }

    /** All that acts change. */
    private static final class Machine {
        final Cache cache = new Cache();
        final int[] micros = new int[MOST_MICROS];
        int nextMicro = 0;
        int microsEnd = 0;
        // What is well: alike, unless a transaction is in flight. They are kept as things happen, for
        // evictions don't change words, and a recovery, once begun, is to end where MEDIA then led.
        final int[] before = new int[HEAP_WORDS];
        final int[] after = new int[HEAP_WORDS];
        final int[] waiting = new int[MOST_WAITING * MOST_OPS];
        int waits = 0;
        int state = RUNS;
        int mode = UNDO;
        int sites = 0;
        final int[] tallies = new int[TALLIES];

        void copyFrom(Machine other) {
            cache.copyFrom(other.cache);
            System.arraycopy(other.micros, 0, micros, 0, MOST_MICROS);
            nextMicro = other.nextMicro;
            microsEnd = other.microsEnd;
            System.arraycopy(other.before, 0, before, 0, HEAP_WORDS);
            System.arraycopy(other.after, 0, after, 0, HEAP_WORDS);
            System.arraycopy(other.waiting, 0, waiting, 0, waiting.length);
            waits = other.waits;
            state = other.state;
            mode = other.mode;
            sites = other.sites;
            System.arraycopy(other.tallies, 0, tallies, 0, TALLIES);
        }

        /** From now on the heap of these words alone is well. */
        void settle(int[] words) {
            System.arraycopy(words, HEAP_START, before, 0, HEAP_WORDS);
            System.arraycopy(words, HEAP_START, after, 0, HEAP_WORDS);
        }

        void dropMicros() {
            nextMicro = 0;
            microsEnd = 0;
        }

        int microsLeft() {
            return microsEnd - nextMicro;
        }

        boolean isIdle() {
            return nextMicro == microsEnd;
        }

        void addWaiting(int packed) {
            if (waits < MOST_WAITING) {
                for (int i = 0; i < MOST_OPS; i++) {
                    waiting[waits * MOST_OPS + i] = i == 0 ? packed : 0;
                }
                waits++;
            }
        }

        private void takeWaiting() {
            waits--;
            System.arraycopy(waiting, MOST_OPS, waiting, 0, waits * MOST_OPS);
        }

        /** It runs, nothing is in flight, one waits that isn't void. */
        boolean isReady(Planner planner) {
            if (state != RUNS || !isIdle()) {
                return false;
            }
            for (int i = 0; i < waits; i++) {
                if (planner.plan(cache, waiting, i)) {
                    return true;
                }
            }
            return false;
        }

        boolean canStep(Planner planner) {
            return !isIdle() || isReady(planner);
        }

        /** A step, if one can be made; void ones ahead of it are gone in any case. */
        boolean step(Planner planner) {
            for (int i = 0; i < MOST_WAITING && state == RUNS && isIdle() && waits > 0; i++) {
                boolean sound = planner.plan(cache, waiting, 0);
                takeWaiting();
                if (sound) {
                    begin(planner);
                } else {
                    tallies[VOID]++;
                }
            }
            if (isIdle()) {
                return false;
            }
            doMicro(micros[nextMicro]);
            nextMicro++;
            tallies[STEPS]++;
            if (isIdle()) {
                finish();
            }
            return true;
        }

        private void doMicro(int micro) {
            int kind = micro / BY_KIND;
            int place = micro % BY_KIND / BY_ADDRESS;
            if (kind == STORE) {
                cache.put(place, micro % BY_ADDRESS);
            } else if (kind == FLUSH) {
                cache.ask(place);
            } else {
                cache.await();
            }
            tallies[BY_MICRO + kind]++;
        }

        private void finish() {
            if (state == RUNS) {
                tallies[DONE]++;
                System.arraycopy(after, 0, before, 0, HEAP_WORDS);
            }
            state = RUNS;
        }

        /** The transaction that is planned is in flight; before it is as it was well. */
        private void begin(Planner planner) {
            System.arraycopy(planner.words, HEAP_START, after, 0, HEAP_WORDS);
            dropMicros();
            if (mode == UNDO) {
                addUndoing(planner);
            } else {
                addRedoing(planner);
            }
            addEnding(planner);
        }

        private void addUndoing(Planner planner) {
            for (int i = 0; i < planner.writes; i++) {
                addEntry(i, planner.addresses[i], planner.olds[i]);
                addCount(i + 1, SITE_A, SITE_B);
                addMicro(STORE, planner.addresses[i], planner.numbers[i]);
            }
        }

        private void addRedoing(Planner planner) {
            for (int i = 0; i < planner.writes; i++) {
                addEntry(i, planner.addresses[i], planner.numbers[i]);
            }
            addCount(planner.writes, SITE_A, SITE_B);
            addWrites(planner);
        }

        private void addWrites(Planner planner) {
            for (int i = 0; i < planner.writes; i++) {
                addMicro(STORE, planner.addresses[i], planner.numbers[i]);
            }
        }

        private void addEntry(int entry, int address, int number) {
            int place = LOG_START + 2 * entry;
            addMicro(STORE, place, address);
            addMicro(STORE, place + 1, number);
            if (!isLeftOut(SITE_E)) {
                addMicro(FLUSH, place / LINE_WORDS, 0);
            }
        }

        private void addCount(int number, int fenceAhead, int fenceBehind) {
            if (!isLeftOut(fenceAhead)) {
                addMicro(FENCE, 0, 0);
            }
            addMicro(STORE, COUNT_WORD, number);
            if (!isLeftOut(SITE_F)) {
                addMicro(FLUSH, COUNT_WORD / LINE_WORDS, 0);
            }
            if (!isLeftOut(fenceBehind)) {
                addMicro(FENCE, 0, 0);
            }
        }

        private void addEnding(Planner planner) {
            int flushed = isLeftOut(SITE_G) ? -1 : 0;
            for (int i = 0; i < planner.writes; i++) {
                int line = planner.addresses[i] / LINE_WORDS;
                if ((flushed >> line & 1) == 0) {
                    addMicro(FLUSH, line, 0);
                    flushed |= 1 << line;
                }
            }
            addCount(0, SITE_C, SITE_D);
        }

        private boolean isLeftOut(int site) {
            return (sites >> site & 1) != 0;
        }

        private void addMicro(int kind, int place, int number) {
            if (microsEnd < MOST_MICROS) {
                micros[microsEnd] = kind * BY_KIND + place * BY_ADDRESS + number;
                microsEnd++;
            }
        }

        /** A crash by the order at which the walk stands, whose fate has been asked. */
        void fall(Walk walk) {
            cache.holdMedia(walk.picture);
            settle(walk.settled);
            dropMicros();
            state = DOWN;
            tallies[CRASHES]++;
        }

        void beginRecovery(Planner planner) {
            tallies[RECOVERIES]++;
            state = RUNS;
            if (cache.media[COUNT_WORD] != 0) {
                state = RECOVERS;
                planner.planRecovery(cache.media, mode);
                addWrites(planner);
                addEnding(planner);
            }
        }

        /** MEDIA is recovered without any micro, and it runs: as it was well since the crash. */
        void recoverAtOnce() {
            recoverWords(cache.media, mode);
            state = RUNS;
        }
    }

    /** Makes the writes of a transaction, or of a recovery. */
    private static final class Planner {
        // All words with the writes ahead.
        final int[] words = new int[WORDS];
        final int[] addresses = new int[MOST_WRITES];
        final int[] numbers = new int[MOST_WRITES];
        final int[] olds = new int[MOST_WRITES];
        int writes = 0;
        private boolean isSound = true;
        private final Shape shapeNow = new Shape();

        /** The writes of the transaction that waits as the which-th; false: it is void. */
        boolean plan(Cache cache, int[] waiting, int which) {
            cache.fillWords(words);
            writes = 0;
            isSound = true;
            for (int i = which * MOST_OPS; i < (which + 1) * MOST_OPS; i++) {
                int one = waiting[i] % BY_KIND / BY_ADDRESS;
                int other = waiting[i] % BY_ADDRESS;
                switch (waiting[i] / BY_KIND - 1) {
                    case NEW: planNew(one, other); break;
                    case DROP: planDrop(one); break;
                    case MOVE: planMove(one, other); break;
                    case SET: write(one, other); break;
                    case SWEEP: planSweep(); break;
                    default: break;
                }
            }
            return isSound;
        }

        private void write(int address, int number) {
            if (writes == MOST_WRITES) {
                isSound = false;
                return;
            }
            addresses[writes] = address;
            numbers[writes] = number;
            olds[writes] = words[address];
            words[address] = number;
            writes++;
        }

        private void planNew(int root, int number) {
            int block = 0;
            while (block < BLOCKS && words[blockAddress(block)] != 0) {
                block++;
            }
            if (block == BLOCKS) {
                isSound = false;
                return;
            }
            int address = blockAddress(block);
            write(address, 1);
            write(address + 1, words[HEAP_START + root]);
            write(address + 2, number);
            write(HEAP_START + root, address);
        }

        private void planDrop(int root) {
            int address = words[HEAP_START + root];
            if (!isBlockAddress(address) || words[address] != 1) {
                isSound = false;
                return;
            }
            write(HEAP_START + root, words[address + 1]);
            write(address, 0);
        }

        private void planMove(int root, int target) {
            int address = words[HEAP_START + root];
            if (!isBlockAddress(address) || words[address] != 1) {
                isSound = false;
                return;
            }
            write(HEAP_START + root, words[address + 1]);
            write(address + 1, words[HEAP_START + target]);
            write(HEAP_START + target, address);
        }

        private void planSweep() {
            shapeNow.survey(words);
            if (shapeNow.leaked == 0) {
                isSound = false;
                return;
            }
            for (int block = 0; block < BLOCKS; block++) {
                if ((shapeNow.leaked >> block & 1) != 0) {
                    write(blockAddress(block), 0);
                }
            }
        }

        /** The writes by which this media is recovered, but for the count. */
        void planRecovery(int[] media, int mode) {
            int entries = Math.min(media[COUNT_WORD], LOG_ENTRIES);
            writes = 0;
            for (int i = 0; i < entries; i++) {
                int place = entryPlace(i, entries, mode);
                if (isHeapAddress(media[place])) {
                    addresses[writes] = media[place];
                    numbers[writes] = media[place + 1];
                    writes++;
                }
            }
        }
    }

    /** What is reached, leaked, torn or goes round by some words. */
    private static final class Shape {
        private int reached = 0;
        private int leaked = 0;
        private int used = 0;
        private int torn = 0;
        private int round = 0;

        void survey(int[] words) {
            used = 0;
            for (int block = 0; block < BLOCKS; block++) {
                used |= words[blockAddress(block)] == 1 ? 1 << block : 0;
            }
            reached = 0;
            torn = 0;
            round = 0;
            for (int root = 0; root < ROOTS; root++) {
                follow(words, root);
            }
            leaked = used & ~reached;
        }

        private void follow(int[] words, int root) {
            int mine = 0;
            int address = words[HEAP_START + root];
            for (int i = 0; i <= BLOCKS && address != 0; i++) {
                int bit = isBlockAddress(address) ? 1 << (address - BLOCKS_START) / BLOCK_WORDS : 0;
                if ((used & bit) == 0) {
                    torn |= 1 << root;
                    break;
                }
                if ((mine & bit) != 0) {
                    round |= 1 << root;
                    break;
                }
                mine |= bit;
                address = words[address + 1];
            }
            reached |= mine;
        }

        int answer(int what) {
            switch (what) {
                case 0: return reached;
                case 1: return leaked;
                case 2: return used;
                case 3: return torn;
                default: return round;
            }
        }
    }

    /** Stands at an order: how many stores of each line have reached, and what media is then. */
    private static final class Walk {
        private final int[] row = new int[LINES];
        final int[] picture = new int[WORDS];
        // The picture recovered, as it was when last asked.
        final int[] settled = new int[WORDS];

        /** To order 0. */
        void start(Cache cache) {
            Arrays.fill(row, 0);
            System.arraycopy(cache.media, 0, picture, 0, WORDS);
        }

        /** To the order of this number, which must be one. */
        void open(Cache cache, int order) {
            start(cache);
            int rest = order;
            for (int line = LINES - 1; line >= 0; line--) {
                int many = cache.held[line] + 1;
                raise(cache, line, rest % many);
                rest /= many;
            }
        }

        /** So many stores more of a line have reached. */
        void raise(Cache cache, int line, int many) {
            for (int i = 0; i < many && row[line] < cache.held[line]; i++) {
                int store = cache.stores[line * MOST_PENDING + row[line]];
                picture[store / BY_ADDRESS] = store % BY_ADDRESS;
                row[line]++;
            }
        }

        /** To the next order; behind the last one to order 0. */
        void goOn(Cache cache) {
            for (int line = LINES - 1; line >= 0; line--) {
                if (row[line] < cache.held[line]) {
                    raise(cache, line, 1);
                    return;
                }
                if (row[line] > 0) {
                    row[line] = 0;
                    System.arraycopy(cache.media, line * LINE_WORDS, picture, line * LINE_WORDS, LINE_WORDS);
                }
            }
        }

        void recoverPicture(int mode) {
            System.arraycopy(picture, 0, settled, 0, WORDS);
            recoverWords(settled, mode);
        }

        int fateBy(Machine machine) {
            recoverPicture(machine.mode);
            boolean isBefore = true;
            boolean isAfter = true;
            for (int i = 0; i < HEAP_WORDS && (isBefore || isAfter); i++) {
                int number = settled[HEAP_START + i];
                isBefore = isBefore && number == machine.before[i];
                isAfter = isAfter && number == machine.after[i];
            }
            if (isBefore) {
                return isAfter ? 2 : 0;
            }
            return isAfter ? 1 : 3;
        }
    }

    /** Looks at all orders behind each step. */
    private static final class Checker {
        private final Machine trial = new Machine();
        private final Planner planner = new Planner();
        private final Walk walk = new Walk();
        int bad = 0;
        int firstStep = NONE;
        int firstOrder = NONE;
        boolean isTooMany = false;

        /** Hasty: the first bad order is enough. */
        void run(Machine from, int sites, boolean isHasty) {
            trial.copyFrom(from);
            trial.sites = sites;
            bad = 0;
            firstStep = NONE;
            firstOrder = NONE;
            isTooMany = false;
            boolean wasDown = trial.state == DOWN;
            if (wasDown) {
                trial.beginRecovery(planner);
            }
            // Down with a COUNT of 0 there is no step of a recovery, and one that waits isn't followed.
            boolean isNowAlone = wasDown && trial.isIdle();
            for (int step = 0; step <= MOST_MICROS; step++) {
                if (trial.cache.orderTotal() > MOST_ORDERS) {
                    isTooMany = true;
                    return;
                }
                countBad(step, isHasty);
                boolean isOver = isNowAlone || (step > 0 && trial.isIdle());
                if (isOver || (isHasty && bad > 0) || !trial.step(planner)) {
                    return;
                }
            }
        }

        private void countBad(int step, boolean isHasty) {
            int total = (int) trial.cache.orderTotal();
            walk.start(trial.cache);
            for (int order = 0; order < total; order++) {
                if (walk.fateBy(trial) == 3) {
                    if (bad == 0) {
                        firstStep = step;
                        firstOrder = order;
                    }
                    bad++;
                    if (isHasty) {
                        return;
                    }
                }
                walk.goOn(trial.cache);
            }
        }

        boolean isSound() {
            return bad == 0 && !isTooMany;
        }
    }

    /** Narrows the orders by what is seen: each line by itself, for no word of two lines is seen at once. */
    private static final class Sight {
        // By line: bit k is set, if the first k stores may have reached.
        private final int[] possible = new int[LINES];
        private final int[] lineWords = new int[LINE_WORDS];

        void narrow(Cache cache, int[] seen, int seenSize) {
            for (int line = 0; line < LINES; line++) {
                System.arraycopy(cache.media, line * LINE_WORDS, lineWords, 0, LINE_WORDS);
                possible[line] = 0;
                for (int k = 0; k <= cache.held[line]; k++) {
                    if (k > 0) {
                        int store = cache.stores[line * MOST_PENDING + k - 1];
                        lineWords[store / BY_ADDRESS % LINE_WORDS] = store % BY_ADDRESS;
                    }
                    possible[line] |= fits(line, seen, seenSize) ? 1 << k : 0;
                }
            }
        }

        private boolean fits(int line, int[] seen, int seenSize) {
            for (int i = 0; i < seenSize; i++) {
                int word = seen[i] / BY_SEEN_WORD;
                if (word / LINE_WORDS == line && lineWords[word % LINE_WORDS] != seen[i] % BY_SEEN_WORD) {
                    return false;
                }
            }
            return true;
        }

        int ordersLeft() {
            int product = 1;
            for (int line = 0; line < LINES; line++) {
                product *= Integer.bitCount(possible[line]);
            }
            return product;
        }

        /** The least order, if any is left: that of each line's least. */
        int firstLeft(Cache cache) {
            int order = 0;
            for (int line = 0; line < LINES; line++) {
                order = order * (cache.held[line] + 1) + Integer.numberOfTrailingZeros(possible[line]);
            }
            return order;
        }

        // Words are at most 99: two rows of 64 bits tell which numbers one has been.
        int unlikeNumbers(Cache cache, int word) {
            int line = word / LINE_WORDS;
            int number = cache.media[word];
            long low = 0;
            long high = 0;
            for (int k = 0; k <= cache.held[line]; k++) {
                int store = k > 0 ? cache.stores[line * MOST_PENDING + k - 1] : -1;
                if (k > 0 && store / BY_ADDRESS == word) {
                    number = store % BY_ADDRESS;
                }
                if ((possible[line] >> k & 1) != 0) {
                    low |= number < 64 ? 1L << number : 0;
                    high |= number < 64 ? 0 : 1L << (number - 64);
                }
            }
            return Long.bitCount(low) + Long.bitCount(high);
        }
    }

    /** Lets years pass by a seed, on a machine to try things on. */
    private static final class Years {
        final Machine trial = new Machine();
        private final Planner planner = new Planner();
        private final Walk walk = new Walk();
        private int seed = 0;
        int crashes = 0;
        int bad = 0;

        void start(Machine from, int firstSeed) {
            trial.copyFrom(from);
            seed = firstSeed;
            crashes = 0;
            bad = 0;
        }

        void passOne() {
            int what = draw(8);
            if (what < 4) {
                int left = draw(6) + 1;
                while (left > 0 && trial.step(planner)) {
                    left--;
                }
            } else if (what == 4) {
                int line = draw(LINES);
                trial.cache.reach(line, Math.min(1, trial.cache.held[line]));
            } else if (what == 5) {
                fallAndRecover();
            } else if (what == 6) {
                int root = draw(ROOTS);
                trial.addWaiting(packOp(NEW, root, draw(10)));
            } else {
                trial.addWaiting(packOp(DROP, draw(ROOTS), 0));
            }
        }

        private void fallAndRecover() {
            if (trial.state != DOWN) {
                walk.start(trial.cache);
                for (int line = 0; line < LINES; line++) {
                    if (trial.cache.held[line] > 0) {
                        walk.raise(trial.cache, line, draw(trial.cache.held[line] + 1));
                    }
                }
                crashes++;
                bad += walk.fateBy(trial) == 3 ? 1 : 0;
                trial.fall(walk);
            }
            trial.recoverAtOnce();
        }

        private int draw(int many) {
            seed = seed * 1103515245 + 12345;
            return (seed >>> 16 & 32767) % Math.max(many, 1);
        }
    }

    /** The machines as they were ahead of each act that is kept; rows are made once and used again. */
    private static final class History {
        private final Machine[] rows = new Machine[MOST_ACTS];
        private int first = 0;
        int size = 0;

        private Machine rowAt(int i) {
            int place = (first + i) % MOST_ACTS;
            if (rows[place] == null) {
                rows[place] = new Machine();
            }
            return rows[place];
        }

        void keep(Machine machine) {
            if (size == MOST_ACTS) {
                first = (first + 1) % MOST_ACTS;
                size--;
            }
            rowAt(size).copyFrom(machine);
            size++;
        }

        /** False: there is none. */
        boolean giveBack(Machine machine) {
            if (size == 0) {
                return false;
            }
            size--;
            machine.copyFrom(rowAt(size));
            return true;
        }

        void copyFrom(History other) {
            first = 0;
            size = other.size;
            for (int i = 0; i < size; i++) {
                rowAt(i).copyFrom(other.rowAt(i));
            }
        }
    }

    /** What an image of all keeps. */
    private static final class All {
        final Machine machine = new Machine();
        final History history = new History();
        final int[] seen = new int[MOST_SEEN];
        int seenSize = 0;
        final int[] refused = new int[STATUSES];

        void copyFrom(All other) {
            machine.copyFrom(other.machine);
            history.copyFrom(other.history);
            System.arraycopy(other.seen, 0, seen, 0, MOST_SEEN);
            seenSize = other.seenSize;
            System.arraycopy(other.refused, 0, refused, 0, STATUSES);
        }

        /** All anew, by what a text has told; but what was refused stays counted. */
        void renew(Machine told) {
            machine.copyFrom(told);
            history.size = 0;
            seenSize = 0;
        }
    }

    /** Reads a text: each part answers its fault, 0 without one, and then stands at its last token. */
    private static final class Reader {
        private static final int FITS_NOT = 1;
        private static final int TOO_MUCH = 2;
        private static final int IN_USE = 3;
        private static final int TOLD = 4;

        private static final int END = 0;
        private static final int LETTERS = 1;
        private static final int DIGITS = 2;
        private static final int SIGN = 3;
        private static final int BLANK = 4;
        private static final int MOST_DIGITS = 3;

        final Machine machine = new Machine();
        private final int[] media = machine.cache.media;
        private int[] text = new int[0];
        private int length = 0;
        private int at = 0;
        private int kind = END;
        // The first byte of the token at which it stands: that of the fault, if there is one.
        int start = 0;
        private int value = 0;
        private boolean isModeTold = false;
        private int dataTold = 0;
        private int chained = 0;

        int readText(int[] bytes, int many) {
            text = bytes;
            length = Math.min(many, bytes.length);
            at = 0;
            clear();
            goOn();
            for (int i = 0; i <= length && kind != END; i++) {
                int fault = readClause();
                if (fault != 0) {
                    return fault;
                }
                goOn();
            }
            machine.settle(media);
            return 0;
        }

        // The reader's machine never runs: there is no more to clear than what a text tells.
        private void clear() {
            Arrays.fill(media, 0);
            Arrays.fill(machine.waiting, 0);
            machine.waits = 0;
            machine.mode = UNDO;
            machine.sites = 0;
            isModeTold = false;
            dataTold = 0;
            chained = 0;
        }

        /** To the next token. */
        private void goOn() {
            while (at < length && kindOf(text[at]) == BLANK) {
                at++;
            }
            start = at;
            kind = at < length ? kindOf(text[at]) : END;
            boolean isRow = kind == LETTERS || kind == DIGITS;
            while (at < length && (at == start || isRow && kindOf(text[at]) == kind)) {
                at++;
            }
        }

        private static int kindOf(int sign) {
            if (sign >= 'a' && sign <= 'z') {
                return LETTERS;
            }
            if (sign >= '0' && sign <= '9') {
                return DIGITS;
            }
            return sign == ' ' || sign == '\n' ? BLANK : SIGN;
        }

        private boolean isSign(char sign) {
            return kind == SIGN && text[start] == sign;
        }

        private boolean isLetters(String name) {
            if (kind != LETTERS || at - start != name.length()) {
                return false;
            }
            for (int i = 0; i < name.length(); i++) {
                if (text[start + i] != name.charAt(i)) {
                    return false;
                }
            }
            return true;
        }

        private int judgeNumber(int least, int most) {
            if (kind != DIGITS) {
                return FITS_NOT;
            }
            if (at - start > MOST_DIGITS) {
                return TOO_MUCH;
            }
            value = 0;
            for (int i = start; i < at; i++) {
                value = value * 10 + text[i] - '0';
            }
            return value < least || value > most ? TOO_MUCH : 0;
        }

        private int readSemicolon() {
            goOn();
            return isSign(';') ? 0 : FITS_NOT;
        }

        private int readClause() {
            if (isLetters("undo")) {
                return readMode(UNDO);
            }
            if (isLetters("redo")) {
                return readMode(REDO);
            }
            if (isLetters("without")) {
                return readWithout();
            }
            if (isLetters("chain")) {
                return readChain();
            }
            if (isLetters("leak")) {
                return readLeak();
            }
            if (isLetters("data")) {
                return readData();
            }
            return isLetters("do") ? readDo() : FITS_NOT;
        }

        private int readMode(int mode) {
            if (isModeTold) {
                return TOLD;
            }
            isModeTold = true;
            machine.mode = mode;
            return readSemicolon();
        }

        private int readWithout() {
            for (int i = 0; i <= SITES; i++) {
                goOn();
                if (i > 0 && isSign(';')) {
                    return 0;
                }
                int site = kind == LETTERS && at - start == 1 ? text[start] - 'a' : SITES;
                if (site >= SITES) {
                    return FITS_NOT;
                }
                if ((machine.sites >> site & 1) != 0) {
                    return TOLD;
                }
                machine.sites |= 1 << site;
            }
            return FITS_NOT;
        }

        private int readChain() {
            goOn();
            int fault = judgeNumber(0, ROOTS - 1);
            if (fault != 0) {
                return fault;
            }
            if ((chained >> value & 1) != 0) {
                return TOLD;
            }
            chained |= 1 << value;
            int link = HEAP_START + value;
            for (int i = 0; i <= BLOCKS; i++) {
                goOn();
                if (i > 0 && isSign(';')) {
                    return 0;
                }
                fault = judgeBlock();
                if (fault != 0) {
                    return fault;
                }
                media[link] = blockAddress(value);
                link = blockAddress(value) + 1;
            }
            return FITS_NOT;
        }

        /** A block that isn't in use is in use from now on. */
        private int judgeBlock() {
            int fault = judgeNumber(0, BLOCKS - 1);
            if (fault != 0) {
                return fault;
            }
            if (media[blockAddress(value)] != 0) {
                return IN_USE;
            }
            media[blockAddress(value)] = 1;
            return 0;
        }

        private int readLeak() {
            goOn();
            int fault = judgeBlock();
            return fault != 0 ? fault : readSemicolon();
        }

        private int readData() {
            goOn();
            int fault = judgeNumber(0, BLOCKS - 1);
            if (fault != 0) {
                return fault;
            }
            int block = value;
            if ((dataTold >> block & 1) != 0) {
                return IN_USE;
            }
            dataTold |= 1 << block;
            for (int i = 2; i < BLOCK_WORDS; i++) {
                goOn();
                fault = judgeNumber(0, MOST_NUMBER);
                if (fault != 0) {
                    return fault;
                }
                media[blockAddress(block) + i] = value;
            }
            return readSemicolon();
        }

        private int readDo() {
            if (machine.waits == MOST_WAITING) {
                return TOO_MUCH;
            }
            for (int i = 0; i <= MOST_OPS; i++) {
                goOn();
                int fault = readOp(i);
                if (fault != 0) {
                    return fault;
                }
                goOn();
                if (isSign(';')) {
                    machine.waits++;
                    return 0;
                }
                if (!isSign(',')) {
                    return FITS_NOT;
                }
            }
            return FITS_NOT;
        }

        private int readOp(int i) {
            int op = opTold();
            if (op == NONE) {
                return FITS_NOT;
            }
            if (i >= MOST_OPS) {
                return TOO_MUCH;
            }
            int fault = 0;
            int one = 0;
            if (ARGUMENTS[op] > 0) {
                goOn();
                fault = judgeNumber(FIRST_LEAST[op], FIRST_MOST[op]);
                one = value;
            }
            if (ARGUMENTS[op] > 1 && fault == 0) {
                goOn();
                fault = judgeNumber(0, SECOND_MOST[op]);
            }
            if (fault != 0) {
                return fault;
            }
            if (op == MOVE && one == value) {
                return IN_USE;
            }
            machine.waiting[machine.waits * MOST_OPS + i] = packOp(op, one, value);
            return 0;
        }

        private int opTold() {
            if (isLetters("new")) {
                return NEW;
            }
            if (isLetters("drop")) {
                return DROP;
            }
            if (isLetters("move")) {
                return MOVE;
            }
            if (isLetters("set")) {
                return SET;
            }
            return isLetters("sweep") ? SWEEP : NONE;
        }
    }
}
