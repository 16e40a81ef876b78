/** The boundaries that "Terms" 2 and promises 5 to 19 name: the cache, transactions, recovery, acts. */
public final class MemoryEdges {
    private static final Edges edges = new Edges();
    private static final int LOW = Integer.MIN_VALUE;
    private static final int HIGH = Integer.MAX_VALUE;
    private static final String BARE = "without a b c d e f g;";

    private static void is(long due, long got) {
        edges.is(due, got);
    }

    private static void micro(Told heap, int i, int kind, int place, int number) {
        is(kind, heap.micro(i, 0));
        is(place, heap.micro(i, 1));
        is(number, heap.micro(i, 2));
    }

    /** So many acts were refused, and none of them is kept. */
    private static void refused(Told heap, int many, int acts) {
        is(many, heap.count(18));
        is(acts, heap.count(14));
    }

    /** A transaction that waits alone, and is void: it stays, and nothing is counted but the refused call. */
    private static void isVoid(String text) {
        Told heap = Told.of(text);
        Told same = Told.of(text);
        is(-1, heap.steps(50));
        is(-1, same.steps(0));
        edges.alike(same, heap);
        is(1, heap.count(3));
        is(0, heap.count(6));
        is(-1, heap.needless());
        is(0, heap.check(0));
    }

    /** A transaction that waits alone, and is done by as many steps. */
    private static Told isDone(String text, int steps) {
        Told heap = Told.of(text);
        long made = heap.steps(50);
        is(steps, made < 50 ? made : made + heap.steps(50));
        is(1, heap.count(5));
        is(0, heap.count(6));
        is(0, heap.count(3));
        return heap;
    }

    public static void main(String[] args) {
        cache();
        orders();
        byWords();
        news();
        otherOps();
        voids();
        transactionMicros();
        transactionEnds();
        recovery();
        recoveryEnds();
        steps();
        singleSteps();
        acts();
        counts();
        looksInside();
        stepsCall();
        evictCall();
        crashCall();
        recoverCall();
        laterCall();
        siteCall();
        undoCall();
        recoveredCall();
        fateCall();
        edges.end("MemoryEdges");
    }

    private static void cache() {
        edges.sentence("A WORD is what its last PENDING STORE tells, else as MEDIA has it.", () -> {
            Told heap = Told.of(BARE + "data 4 9 8;do set 42 5,set 42 6;");
            is(4, heap.steps(4));
            is(5, heap.now(42));
            is(4, heap.steps(4));
            is(6, heap.now(42));
            is(9, heap.media(42));
            is(8, heap.now(43));
            is(1, heap.evict(10, 1));
            is(6, heap.now(42));
            is(5, heap.media(42));
            is(0, heap.evict(10, 1));
            is(6, heap.now(42));
            is(6, heap.media(42));
            // What has reached at once, as the last ones of the last line, tells no more.
            Told last = Told.of(BARE + "do set 63 5,set 63 6,set 63 7,set 62 8;do set 60 1,set 60 2,set 60 3;");
            is(16, last.steps(16));
            is(0, last.evict(15, 4));
            is(7, last.now(63));
            is(8, last.now(62));
            is(0, last.now(61));
            is(1, last.undo());
            is(13, last.steps(13));
            is(6, last.pending(15));
            is(5, last.media(63));
            is(7, last.now(63));
            is(3, last.now(60));
            is(0, last.now(61));
            Told fenced = Told.of("do set 63 5,set 63 6;");
            is(21, fenced.steps(50));
            is(6, fenced.now(63));
            is(0, fenced.now(0));
            is(63, fenced.now(4));
        });
        edges.sentence("a STORE comes behind those of its LINE (if it has 6, the eldest REACHES MEDIA first)", () -> {
            Told heap = Told.of(BARE + "do set 40 1,set 40 2,set 40 3,set 40 4;do set 40 5,set 41 6,set 43 7,set 40 8;");
            is(17 + 4, heap.steps(21));
            is(5, heap.pending(10));
            is(4, heap.steps(4));
            is(6, heap.pending(10));
            is(0, heap.media(40));
            is(4001, heap.line(10, 0));
            is(4, heap.steps(4));
            is(6, heap.pending(10));
            is(1, heap.media(40));
            is(4002, heap.line(10, 0));
            is(4307, heap.line(10, 5));
            is(4, heap.steps(4));
            is(6, heap.pending(10));
            is(2, heap.media(40));
            is(0, heap.media(41));
            is(4008, heap.line(10, 5));
            is(8, heap.now(40));
        });
        edges.sentence("each LINE has a row of PENDING STORES (ADDRESS, number), the eldest first, of which the first so many are ASKED", () -> {
            Told heap = Told.of("without a b c d e g;do set 40 1,set 40 2,set 40 3,set 40 4;do set 41 1,set 41 2;");
            is(22, heap.steps(22));
            is(5, heap.asked(0));
            is(3, heap.steps(3));
            is(6, heap.pending(0));
            is(5, heap.asked(0));
            is(4, heap.steps(4));
            is(6, heap.asked(0));
            is(0, heap.media(0));
            // The seventh store of line 0: the eldest has reached, one less is asked.
            is(1, heap.steps(1));
            is(6, heap.pending(0));
            is(5, heap.asked(0));
            is(1, heap.media(0));
            is(2, heap.line(0, 0));
            is(2, heap.line(0, 5));
            is(1, heap.steps(1));
            is(6, heap.asked(0));
            is(3, heap.evict(0, 3));
            is(3, heap.asked(0));
        });
        edges.sentence("a FLUSH of a LINE: all its PENDING STORES are ASKED", () -> {
            Told none = Told.of("do set 40 5;");
            is(2, none.steps(2));
            is(0, none.evict(1, 2));
            is(1, none.steps(1));
            is(0, none.asked(1));
            is(1, none.steps(1));
            is(1, none.count(12));
            is(40, none.media(4));
            Told twice = Told.of("redo;do set 40 5,set 41 6;");
            is(5, twice.steps(5));
            is(4, twice.pending(1));
            is(2, twice.asked(1));
            is(1, twice.steps(1));
            is(4, twice.asked(1));
            is(0, twice.media(4));
        });
        edges.sentence("a FENCE: all that are ASKED REACH MEDIA (and PEND no more)", () -> {
            Told heap = Told.of("without a b c d f g;do set 40 5;do set 44 6;");
            is(6, heap.steps(6));
            is(2, heap.asked(1));
            is(127, heap.site(4));
            is(126, heap.site(0));
            is(2, heap.steps(2));
            is(4, heap.pending(1));
            is(2, heap.asked(1));
            is(1, heap.steps(1));
            is(1, heap.count(12));
            is(2, heap.pending(1));
            is(0, heap.asked(1));
            is(40, heap.media(4));
            is(444, heap.line(1, 0));
            is(500, heap.line(1, 1));
            is(2, heap.pending(0));
            is(1, heap.pending(10));
            Told never = Told.of("without g;do set 40 5;");
            is(12, never.steps(50));
            is(1, never.count(13));
            is(4005, never.line(10, 0));
            is(0, never.media(40));
        });
    }

    private static Told sixOrders() {
        Told heap = Told.of(BARE + "do set 60 1,set 60 2,set 20 3;");
        is(13, heap.steps(50));
        is(0, heap.evict(0, 4));
        is(0, heap.evict(1, 4));
        is(0, heap.evict(2, 2));
        return heap;
    }

    private static void orders() {
        edges.sentence("of each LINE so many of its PENDING STORES, the first ones, 0 to all, have REACHED MEDIA, no others", () -> {
            Told heap = sixOrders();
            is(6, heap.orders());
            int[][] images = {{0, 0}, {0, 1}, {0, 2}, {3, 0}, {3, 1}, {3, 2}};
            for (int order = 0; order < 6; order++) {
                is(images[order][0], heap.recovered(order, 20));
                is(images[order][1], heap.recovered(order, 60));
            }
            is(Told.ILLEGAL, heap.recovered(6, 20));
            is(0, heap.media(20));
        });
        edges.sentence("they are numbered from 0 as rows rise (LINE 15 counts up first)", () -> {
            for (int order = 0; order < 6; order++) {
                Told heap = sixOrders();
                is(order == 5 ? 2 : 3, heap.crash(order));
                is(order / 3 * 3, heap.media(20));
                is(order % 3, heap.media(60));
                is(0, heap.count(13));
                is(1, heap.orders());
            }
            is(1, new Told().orders());
            is(2, new Told().fate(0));
            is(Told.ILLEGAL, new Told().fate(1));
        });
        edges.sentence("How many ORDERS there are.", () -> {
            Told heap = manyOrders();
            is(13841287201L, heap.orders());
            is(-2, heap.check(0));
            is(-2, heap.explained(0));
            is(-1, heap.chance(0));
            is(-1, heap.look(0));
            is(3, heap.fate(HIGH));
            is(7, heap.recovered(HIGH, 60));
            is(Told.ILLEGAL, heap.fate(-1));
            is(Told.ILLEGAL, heap.fate(LOW));
            is(3, heap.crash(HIGH));
            // By sevens 2147483647 is 1 0 4 1 3 4 2 1 1 1 6 1, lines 0, 1, 2, 7, 8 .. 15.
            int[][] media = {{0, 1}, {28, 1}, {32, 3}, {36, 4}, {40, 2}, {44, 1}, {48, 7}, {52, 7}, {56, 12}, {60, 7}};
            for (int[] one : media) {
                is(one[1], heap.media(one[0]));
            }
            is(1, heap.orders());
        });
    }

    /** Six stores pend in twelve lines: 7 to the 12th orders. */
    private static Told manyOrders() {
        StringBuilder text = new StringBuilder(BARE);
        for (int i = 1; i <= 12; i++) {
            int first = i <= 6 ? 32 : 48;
            text.append("do set ").append(first).append(' ').append(i);
            for (int word = first + 4; word < first + 16; word += 4) {
                text.append(",set ").append(word).append(' ').append(i);
            }
            text.append(';');
        }
        Told heap = Told.of(text.toString());
        for (int i = 0; i < 4; i++) {
            is(50, heap.steps(50));
        }
        is(4, heap.steps(50));
        for (int i = 1; i <= 6; i++) {
            is(i, heap.later(3, 28, i));
        }
        is(30, heap.steps(50));
        return heap;
    }

    private static void byWords() {
        edges.sentence("become WRITES (ADDRESS, number), by all WORDS as they are, with the WRITES ahead of them", () -> {
            // What MEDIA has, if it is reached late, doesn't count.
            Told heap = Told.of(BARE + "do new 0 5;do drop 0;do move 0 1;");
            is(17 + 9, heap.steps(50));
            is(0, heap.media(20));
            is(0, heap.media(24));
            is(2, heap.count(5));
            is(1, heap.count(6));
            Told swept = Told.of(BARE + "leak 3;do sweep;do sweep;");
            is(5, swept.steps(50));
            is(8, swept.shape(1, 1));
            is(0, swept.shape(0, 1));
            is(1, swept.count(6));
            Told full = Told.of(BARE + "chain 0 0 1 2 3 4 5 6 7 8;do new 1 1;do new 1 2;do drop 1;do new 1 3;");
            is(17 + 9 + 17, full.steps(50));
            is(1, full.count(6));
            is(3, full.now(62));
            is(0, full.media(62));
        });
        edges.sentence("an ORDER is such a row of 16 numbers, and the IMAGE is MEDIA then", () -> {
            Told heap = Told.of(BARE + "do set 23 1,set 63 2;");
            is(9, heap.steps(9));
            // Line 0: COUNT 1, 2, 0; line 1: 23, 0, 63, 0; lines 5 and 15: one each.
            is(4 * 5 * 2 * 2, heap.orders());
            int[][] images = {{0, 0, 0, 0, 0}, {1, 0, 0, 0, 2}, {2, 0, 0, 1, 0}, {7, 0, 23, 1, 2}, {20, 1, 0, 0, 0},
                {47, 2, 23, 1, 2}, {75, 0, 23, 1, 2}, {79, 0, 23, 1, 2}};
            for (int[] image : images) {
                heap.crash(image[0]);
                is(image[1], heap.media(0));
                is(image[2], heap.media(4));
                is(image[3], heap.media(23));
                is(image[4], heap.media(63));
                is(1, heap.undo());
            }
        });
    }

    private static void news() {
        edges.sentence("'new' R V: of the first BLOCK that is free HEADER 1, NEXT as ROOT R is, the first of DATA V, ROOT R its ADDRESS.", () -> {
            Told first = isDone("data 0 8 9;do set 22 77,new 2 5;", 8 * 5 + 2 + 4);
            int[] words = {24, 0, 1, 77, 5, 9};
            for (int i = 0; i < words.length; i++) {
                is(words[i], first.media(22 + i));
            }
            Told last = isDone("chain 0 0 1 2 3 4 5 6 7 8;do new 1 99;", 38);
            is(60, last.media(21));
            is(1, last.media(60));
            is(0, last.media(61));
            is(99, last.media(62));
            Told two = isDone("do new 0 1,new 0 2;", 64 + 3 + 4);
            is(28, two.media(20));
            is(24, two.media(29));
            is(0, two.media(25));
            Told again = isDone("chain 0 0;do drop 0,new 1 3;", 48 + 2 + 4);
            is(0, again.media(20));
            is(24, again.media(21));
            is(1, again.media(24));
            Told set = isDone("chain 0 0 1 2 3 4 5 6 7 8 9;do set 52 0,new 3 1;", 40 + 2 + 4);
            is(52, set.media(23));
            isVoid("chain 0 0 1 2 3 4 5 6 7 8 9;do new 1 1;");
            isVoid("chain 0 0 1 2 3 4 5 6 7 8;do new 1 1,new 1 1;");
            isVoid("leak 0;leak 1;leak 2;leak 3;leak 4;leak 5;leak 6;leak 7;leak 8;leak 9;do new 1 1;");
        });
    }

    private static void otherOps() {
        edges.sentence("'drop' R: ROOT R must be the ADDRESS of a BLOCK in use (HEADER 1): ROOT R is its NEXT, its HEADER 0.", () -> {
            Told heap = isDone("chain 3 9;do set 61 99,drop 3;", 24 + 2 + 4);
            is(99, heap.media(23));
            is(0, heap.media(60));
            is(99, heap.media(61));
            isVoid("do drop 3;");
            isVoid("chain 3 9;do drop 3,drop 3;");
            isVoid("do set 23 60,drop 3;");
            isVoid("chain 3 9;do set 60 2,drop 3;");
            isVoid("leak 9;do set 23 62,drop 3;");
            isVoid("do set 23 64,drop 3;");
            isVoid("do set 23 99,drop 3;");
            isVoid("do set 22 1,set 23 22,drop 3;");
        });
        edges.sentence("'move' R Q: so, too: ROOT R is its NEXT, its NEXT as ROOT Q is, ROOT Q its ADDRESS.", () -> {
            Told heap = isDone("chain 0 0 1;chain 1 2;do move 0 1;", 24 + 2 + 4);
            is(28, heap.media(20));
            is(24, heap.media(21));
            is(32, heap.media(25));
            Told empty = isDone("chain 0 9;do move 0 3;", 24 + 2 + 4);
            is(0, empty.media(20));
            is(60, empty.media(23));
            is(0, empty.media(61));
            // Both roots lead to the same block: it leads to itself then.
            Told round = isDone("chain 0 0 1;do set 21 24,move 0 1;", 32 + 2 + 4);
            is(28, round.media(20));
            is(24, round.media(25));
            is(2, round.shape(1, 4));
            isVoid("do move 3 0;");
            isVoid("chain 0 0;do move 3 0;");
            isVoid("do set 23 60,move 3 0;");
            isVoid("chain 3 9;do set 60 2,move 3 0;");
            isVoid("chain 3 9;do move 3 0,move 3 0;");
        });
        edges.sentence("'set' A V: WORD A is V.", () -> {
            is(99, isDone("do set 20 99;", 13).media(20));
            is(99, isDone("do set 63 99;", 13).media(63));
            is(0, isDone("leak 0;do set 24 0;", 13).media(24));
        });
        edges.sentence("'sweep': of each BLOCK that is LEAKED (see 3) the HEADER is 0, the first first.", () -> {
            Told heap = Told.of("redo;" + BARE + "leak 9;chain 0 4;leak 0;leak 3;do sweep;");
            is(1, heap.steps(1));
            micro(heap, 1, 0, 6, 36);
            micro(heap, 3, 0, 8, 60);
            micro(heap, 6, 0, 24, 0);
            micro(heap, 7, 0, 36, 0);
            micro(heap, 8, 0, 60, 0);
            is(10, heap.count(4));
            is(10, heap.steps(50));
            is(16, heap.shape(0, 2));
            Told ahead = isDone("chain 0 0 1;do set 20 0,sweep;", 24 + 3 + 4);
            is(0, ahead.shape(1, 2));
            Told ring = isDone("chain 0 0 1;do set 29 24,set 20 0,sweep;", 32 + 3 + 4);
            is(0, ring.shape(1, 2));
            isVoid("do sweep;");
            isVoid("chain 0 0;do sweep;");
            isVoid("leak 0;do set 20 24,sweep;");
            isVoid("leak 0;do set 24 2,sweep;");
            isVoid("leak 0;do sweep,sweep;");
        });
    }

    private static void voids() {
        edges.sentence("It is VOID, and counts as that alone, if there is no such BLOCK, nothing LEAKED, or there are more than 8 WRITES in all.", () -> {
            Told heap = Told.of("do drop 0;do set 40 5;do sweep;");
            is(1, heap.steps(1));
            int[] counts = {0, 0, 0, 1, 12, 0, 1, 0, 0, 1, 1, 0, 0, 1, 1};
            for (int what = 0; what < counts.length; what++) {
                is(counts[what], heap.count(what));
            }
            isDone("do new 0 1,new 1 2;", 71);
            isVoid("do new 0 1,new 1 2,set 40 0;");
            isVoid("do set 40 0,new 0 1,new 1 2;");
            isDone("chain 0 0;chain 1 1;chain 2 2;chain 3 3;do drop 0,drop 1,drop 2,drop 3;", 64 + 5 + 4);
            isVoid("chain 0 0 1 2;do move 0 1,move 0 1,move 0 1;");
            isDone("chain 0 0 1 2;do move 0 1,move 0 1,drop 0;", 64 + 4 + 4);
            isDone("leak 0;leak 1;leak 2;leak 3;leak 4;leak 5;leak 6;leak 7;do sweep;", 64 + 8 + 4);
            isVoid("leak 0;leak 1;leak 2;leak 3;leak 4;leak 5;leak 6;leak 7;leak 8;do sweep;");
            isVoid("leak 0;leak 1;leak 2;leak 3;leak 4;leak 5;leak 6;leak 7;do sweep,set 20 0;");
        });
        edges.sentence("BEFORE is the HEAP as it is, AFTER with all WRITES.", () -> {
            Told heap = Told.of("redo;data 4 7 7;do set 42 7;do set 42 8,set 42 7;do set 42 8,set 43 8;");
            is(1, heap.steps(1));
            is(2, heap.fate(0));
            is(12, heap.steps(12));
            is(1, heap.steps(1));
            is(2, heap.fate(0));
            is(16, heap.steps(16));
            is(9, heap.steps(9));
            is(0, heap.fate(0));
            is(1, heap.steps(1));
            is(1, heap.fate(0));
        });
    }

    private static void transactionMicros() {
        edges.sentence("(a FLUSH, a FENCE in [ ] not, if that SITE is LEFT OUT as it BEGINS)", () -> {
            for (int site = 0; site < 7; site++) {
                Told one = Told.of("without " + (char) ('a' + site) + ";do set 40 5,set 41 6;do set 42 7;");
                // 16 and a flush of one line, 4 at the end: 21 with all.
                is(site == 0 || site == 1 || site == 4 ? 19 : site == 5 ? 18 : 20, one.steps(1) + one.count(4));
                is(0, one.site(site));
                is(site == 0 || site == 1 || site == 4 ? 18 : site == 5 ? 17 : 19, one.count(4));
                is(1 << site, one.site(site));
                Told other = Told.of("redo;do set 40 5,set 41 6;");
                is(1 << site, other.site(site));
                // 6, 4, 2, a flush of one line, 4 at the end: 17 with all.
                is(site == 4 || site == 5 ? 15 : 16, other.steps(1) + other.count(4));
            }
        });
        edges.sentence("STORE of its ADDRESS, then of the number that is there (with the WRITES ahead) to ENTRY i", () -> {
            Told heap = isDone("data 4 7 7;do set 42 5,set 42 6,set 43 1,set 42 9;", 32 + 1 + 4);
            int[] log = {42, 7, 42, 5, 43, 7, 42, 6};
            for (int i = 0; i < log.length; i++) {
                is(log[i], heap.media(4 + i));
            }
        });
        edges.sentence("[g: FLUSH of each LINE of WRITES, once, as they come first]", () -> {
            Told heap = Told.of("do set 60 1,set 20 2,set 61 3,set 21 4;");
            is(32, heap.steps(32));
            is(6, heap.count(4));
            micro(heap, 0, 1, 15, -1);
            micro(heap, 1, 1, 5, -1);
            micro(heap, 2, 2, -1, -1);
            micro(heap, 3, 0, 0, 0);
            micro(heap, 4, 1, 0, -1);
            micro(heap, 5, 2, -1, -1);
        });
        int[][] writes = {{24, 1}, {25, 0}, {26, 1}, {20, 24}, {28, 1}, {29, 0}, {30, 2}, {21, 28}};
        edges.sentence("[e: FLUSH of ENTRY i's LINE]; [a: FENCE]; STORE of i + 1 to the COUNT; [f: FLUSH of LINE 0]; [b: FENCE]; STORE of the WRITE.", () -> {
            Told heap = Told.of("do new 0 1,new 1 2;");
            is(1, heap.steps(1));
            is(70, heap.count(4));
            for (int i = 0; i < 8; i++) {
                if (i > 0) {
                    micro(heap, 8 * i - 1, 0, 4 + 2 * i, writes[i][0]);
                }
                micro(heap, 8 * i, 0, 5 + 2 * i, 0);
                micro(heap, 8 * i + 1, 1, 1 + i / 2, -1);
                micro(heap, 8 * i + 2, 2, -1, -1);
                micro(heap, 8 * i + 3, 0, 0, i + 1);
                micro(heap, 8 * i + 4, 1, 0, -1);
                micro(heap, 8 * i + 5, 2, -1, -1);
                micro(heap, 8 * i + 6, 0, writes[i][0], writes[i][1]);
            }
        });
        edges.sentence("By REDO: WRITE by WRITE: STORE of its ADDRESS, then of its number to ENTRY i; [e: FLUSH of that LINE]; behind all: [a: FENCE]", () -> {
            Told heap = Told.of("redo;do new 0 1,new 1 2;");
            is(1, heap.steps(1));
            is(42, heap.count(4));
            for (int i = 0; i < 8; i++) {
                if (i > 0) {
                    micro(heap, 3 * i - 1, 0, 4 + 2 * i, writes[i][0]);
                }
                micro(heap, 3 * i, 0, 5 + 2 * i, writes[i][1]);
                micro(heap, 3 * i + 1, 1, 1 + i / 2, -1);
                micro(heap, 27 + i, 0, writes[i][0], writes[i][1]);
            }
            micro(heap, 23, 2, -1, -1);
            micro(heap, 24, 0, 0, 8);
            micro(heap, 25, 1, 0, -1);
            micro(heap, 26, 2, -1, -1);
            micro(heap, 35, 1, 6, -1);
            micro(heap, 36, 1, 5, -1);
            micro(heap, 37, 1, 7, -1);
            micro(heap, 38, 2, -1, -1);
            micro(heap, 39, 0, 0, 0);
            micro(heap, 40, 1, 0, -1);
            micro(heap, 41, 2, -1, -1);
        });
        edges.sentence("STORE of how many they are to the COUNT", () -> {
            Told one = Told.of("redo;" + BARE + "do set 40 5;");
            is(2, one.steps(2));
            micro(one, 0, 0, 0, 1);
            Told eight = Told.of("redo;" + BARE + "do new 0 1,new 1 2;");
            is(16, eight.steps(16));
            micro(eight, 0, 0, 0, 8);
            micro(eight, 9, 0, 0, 0);
            is(10, eight.count(4));
            Told undo = Told.of(BARE + "do new 0 1,new 1 2;");
            is(30, undo.steps(30));
            micro(undo, 0, 0, 0, 8);
            micro(undo, 2, 0, 0, 0);
        });
    }

    /** The micros that are left, each as kind, place and number. */
    private static void left(Told heap, int... micros) {
        is(micros.length / 3, heap.count(4));
        for (int i = 0; i < micros.length / 3; i++) {
            micro(heap, i, micros[3 * i], micros[3 * i + 1], micros[3 * i + 2]);
        }
        is(Told.NO_SUCH, heap.micro(micros.length / 3, 0));
    }

    /** The write of 40 is the next step. */
    private static Told logged(String mode, String site) {
        Told heap = Told.of(mode + (site.isEmpty() ? "" : "without " + site + ";") + "do set 40 5;");
        is(1, heap.steps(1));
        while (heap.micro(0, 1) != 40) {
            is(1, heap.steps(1));
        }
        return heap;
    }

    private static void transactionEnds() {
        edges.sentence("; [c: FENCE]; STORE of 0 to the COUNT; [f: FLUSH of LINE 0]; [d: FENCE].", () -> {
            for (String mode : new String[] {"undo;", "redo;"}) {
                left(logged(mode, ""), 0, 40, 5, 1, 10, -1, 2, -1, -1, 0, 0, 0, 1, 0, -1, 2, -1, -1);
                left(logged(mode, "a b e"), 0, 40, 5, 1, 10, -1, 2, -1, -1, 0, 0, 0, 1, 0, -1, 2, -1, -1);
                left(logged(mode, "c"), 0, 40, 5, 1, 10, -1, 0, 0, 0, 1, 0, -1, 2, -1, -1);
                left(logged(mode, "d"), 0, 40, 5, 1, 10, -1, 2, -1, -1, 0, 0, 0, 1, 0, -1);
                left(logged(mode, "f"), 0, 40, 5, 1, 10, -1, 2, -1, -1, 0, 0, 0, 2, -1, -1);
                left(logged(mode, "g"), 0, 40, 5, 2, -1, -1, 0, 0, 0, 1, 0, -1, 2, -1, -1);
                left(logged(mode, "a b c d e f g"), 0, 40, 5, 0, 0, 0);
            }
        });
        edges.sentence("[f: FLUSH of LINE 0]; [b: FENCE]; then STORES of the WRITES.", () -> {
            String[] without = {"", "without a;", "without b;", "without f;", "without a b f;"};
            int[][] behindLog = {{2, 0, 1, 2}, {0, 1, 2}, {2, 0, 1}, {2, 0, 2}, {0}};
            for (int i = 0; i < without.length; i++) {
                Told heap = Told.of("redo;" + without[i] + "do set 40 5,set 20 6,set 40 7;");
                is(9, heap.steps(9));
                int next = 0;
                for (int kind : behindLog[i]) {
                    is(kind, heap.micro(next, 0));
                    is(kind == 2 ? -1 : 0, heap.micro(next, 1));
                    is(kind == 0 ? 3 : -1, heap.micro(next, 2));
                    next++;
                }
                micro(heap, next, 0, 40, 5);
                micro(heap, next + 1, 0, 20, 6);
                micro(heap, next + 2, 0, 40, 7);
                micro(heap, next + 3, 1, 10, -1);
                micro(heap, next + 4, 1, 5, -1);
                micro(heap, next + 5, 2, -1, -1);
            }
        });
    }

    private static void recovery() {
        edges.sentence("with COUNT n (of 8 ENTRIES, if it is more), by UNDO ENTRY n - 1 down to 0, by REDO 0 to n - 1", () -> {
            Told undo = Told.of("do new 0 1,new 1 2;");
            is(50, undo.steps(50));
            is(14, undo.steps(14));
            is(48, undo.orders());
            is(0, undo.crash(47));
            is(8, undo.media(0));
            is(28, undo.media(21));
            is(8 + 3 + 4, undo.recover());
            micro(undo, 0, 0, 21, 0);
            micro(undo, 1, 0, 30, 0);
            micro(undo, 7, 0, 24, 0);
            micro(undo, 8, 1, 5, -1);
            micro(undo, 9, 1, 7, -1);
            micro(undo, 10, 1, 6, -1);
            is(15, undo.steps(50));
            is(0, undo.shape(1, 2));
            is(0, undo.media(0));
            Told redo = Told.of("redo;do new 0 1,new 1 2;");
            is(28, redo.steps(28));
            is(1, redo.crash(0));
            is(15, redo.recover());
            micro(redo, 0, 0, 24, 1);
            micro(redo, 7, 0, 21, 28);
            micro(redo, 8, 1, 6, -1);
            micro(redo, 9, 1, 5, -1);
            micro(redo, 10, 1, 7, -1);
            is(15, redo.steps(50));
            is(3, redo.shape(1, 0));
        });
        edges.sentence("by UNDO ENTRY n - 1 down to 0, by REDO 0 to n - 1", () -> {
            // What an earlier transaction has left behind ENTRY n - 1 is none of it.
            Told redo = Told.of("redo;do set 40 5,set 44 6,set 48 7;do set 42 8;");
            is(9 + 4 + 3 + 3 + 4, redo.steps(23));
            is(7, redo.steps(7));
            is(44, redo.media(6));
            is(1, redo.crash(0));
            is(6, redo.recover());
            micro(redo, 0, 0, 42, 8);
            micro(redo, 1, 1, 10, -1);
            micro(redo, 2, 2, -1, -1);
            Told undo = Told.of("do set 40 5,set 44 6,set 48 7;do set 42 8;");
            is(24 + 3 + 4, undo.steps(31));
            is(7, undo.steps(7));
            is(44, undo.media(6));
            is(0, undo.recovered(0, 42));
            is(6, undo.recovered(0, 44));
            is(0, undo.crash(0));
            is(6, undo.recover());
            micro(undo, 0, 0, 42, 0);
            // Behind the eighth ENTRY stands ROOT 0: it is none.
            Told eight = Told.of("redo;chain 0 4;do new 0 1,new 1 2;");
            is(28, eight.steps(28));
            is(40, eight.media(20));
            is(1, eight.crash(0));
            is(15, eight.recover());
            micro(eight, 7, 0, 21, 28);
            micro(eight, 8, 1, 6, -1);
        });
        edges.sentence("its NUMBER to its ADDRESS, if that is of the HEAP; then the COUNT is 0", () -> {
            Told heap = Told.of(BARE + "do set 40 5,set 44 6;");
            is(7, heap.steps(7));
            // Line 0: COUNT 1, 2; line 1: 40, 0, 44, 0; line 10: 5.
            is(30, heap.orders());
            is(5, heap.recovered(21, 40));
            is(3, heap.fate(21));
            is(0, heap.recovered(23, 40));
            is(0, heap.recovered(23, 0));
            is(0, heap.recovered(25, 40));
            is(40, heap.recovered(25, 4));
            is(0, heap.fate(25));
            is(0, heap.crash(25));
            is(2, heap.media(0));
            is(2, heap.recover());
            micro(heap, 0, 0, 40, 0);
            micro(heap, 1, 0, 0, 0);
        });
        edges.sentence("[g], [c], STORE of 0 to the COUNT, [f], [d] as at the end of a TRANSACTION", () -> {
            int[] left = {8, 8, 7, 7, 8, 7, 6};
            for (int site = 0; site < 7; site++) {
                Told heap = Told.of("do set 40 5,set 44 6;");
                is(18, heap.steps(18));
                is(0, heap.crash(3));
                is(1 << site, heap.site(site));
                is(left[site], heap.recover());
                is(0, heap.site(site));
                is(left[site], heap.count(4));
                is(left[site], heap.steps(50));
                is(0, heap.now(40));
                is(0, heap.now(44));
                is(0, heap.now(0));
            }
        });
        edges.sentence("(none at all, if the COUNT is 0)", () -> {
            Told heap = Told.of("do set 40 5;");
            is(4, heap.steps(4));
            is(0, heap.crash(0));
            is(40, heap.media(4));
            is(0, heap.recover());
            is(0, heap.count(0));
            is(0, heap.count(4));
            is(1, heap.count(8));
            is(-1, heap.steps(1));
            // COUNT 1, and no entry has reached: the stores are none, what comes behind them is.
            Told bare = Told.of("without a;do set 40 5;");
            is(4, bare.steps(4));
            is(0, bare.crash(3));
            is(4, bare.recover());
            micro(bare, 0, 2, -1, -1);
            micro(bare, 1, 0, 0, 0);
            is(2, bare.count(0));
        });
    }

    private static void recoveryEnds() {
        edges.sentence("In MICROS: these STORES; [g], [c], STORE of 0 to the COUNT, [f], [d]", () -> {
            // By UNDO 44 is 0 again ahead of 40; by REDO 40 is 5 ahead of 44.
            for (String mode : new String[] {"undo;", "redo;"}) {
                boolean isUndo = mode.equals("undo;");
                int[] first = isUndo ? new int[] {44, 0, 40, 0} : new int[] {40, 5, 44, 6};
                for (int site = -1; site < 7; site++) {
                    Told heap = Told.of(mode + "do set 40 5,set 44 6;");
                    is(isUndo ? 18 : 14, heap.steps(isUndo ? 18 : 14));
                    is(isUndo ? 0 : 1, heap.crash(3));
                    is(2, heap.media(0));
                    if (site >= 0) {
                        is(1 << site, heap.site(site));
                    }
                    heap.recover();
                    micro(heap, 0, 0, first[0], first[1]);
                    micro(heap, 1, 0, first[2], first[3]);
                    int next = 2;
                    if (site != 6) {
                        micro(heap, next++, 1, first[0] / 4, -1);
                        micro(heap, next++, 1, first[2] / 4, -1);
                    }
                    if (site != 2) {
                        micro(heap, next++, 2, -1, -1);
                    }
                    micro(heap, next++, 0, 0, 0);
                    if (site != 5) {
                        micro(heap, next++, 1, 0, -1);
                    }
                    if (site != 3) {
                        micro(heap, next++, 2, -1, -1);
                    }
                    is(next, heap.count(4));
                }
            }
        });
        edges.sentence("What a WORD is, were the IMAGE of an ORDER RECOVERED.", () -> {
            Told heap = Told.of("without a b c d f g;do set 40 5;");
            Told same = Told.of("without a b c d f g;do set 40 5;");
            is(5, heap.steps(5));
            is(5, same.steps(5));
            // Line 0: COUNT 1; line 1: 40, 0; line 10: 5.
            is(2 * 3 * 2, heap.orders());
            for (int order = 0; order < 12; order++) {
                boolean isUndone = order >= 6 && order / 2 % 3 > 0;
                is(0, heap.recovered(order, 0));
                is(order / 2 % 3 > 0 ? 40 : 0, heap.recovered(order, 4));
                is(0, heap.recovered(order, 5));
                is(order % 2 == 0 || isUndone ? 0 : 5, heap.recovered(order, 40));
                is(0, heap.recovered(order, 63));
            }
            is(5, heap.now(40));
            is(0, heap.media(40));
            edges.alike(same, heap);
        });
    }

    private static void singleSteps() {
        edges.sentence("A STEP: if it RUNS, nothing is IN FLIGHT, and a TRANSACTION WAITS,", () -> {
            // As it RECOVERS, or with one in flight, none that waits begins, nor is a void one gone.
            Told heap = Told.of("do set 40 5;do drop 0;do set 41 6;");
            for (int made = 1; made <= 8; made++) {
                is(1, heap.steps(1));
                is(2, heap.count(3));
            }
            is(0, heap.crash(0));
            is(6, heap.recover());
            for (int left = 5; left >= 0; left--) {
                is(1, heap.steps(1));
                is(left, heap.count(4));
                is(2, heap.count(3));
                is(0, heap.count(6));
            }
            is(0, heap.count(0));
            is(0, heap.count(5));
            is(1, heap.steps(1));
            is(0, heap.count(3));
            is(1, heap.count(6));
            is(12, heap.count(4));
        });
        edges.sentence("Then the first MICRO of what is IN FLIGHT is done", () -> {
            Told heap = Told.of("do set 40 5;");
            is(1, heap.steps(1));
            is(440, heap.line(1, 0));
            is(1, heap.pending(1));
            long left = heap.count(4);
            while (left > 0) {
                long kind = heap.micro(0, 0);
                long before = heap.count(10 + (int) kind);
                is(1, heap.steps(1));
                is(before + 1, heap.count(10 + (int) kind));
                is(--left, heap.count(4));
            }
            is(5, heap.count(10));
            is(4, heap.count(11));
            is(4, heap.count(12));
        });
        edges.sentence(": STEPS are made (1 to 50);", () -> {
            Told heap = Told.of("do set 40 5;".repeat(5));
            is(-1, heap.steps(0));
            is(-1, heap.steps(51));
            is(1, heap.steps(1));
            is(50, heap.steps(50));
            is(5 * 13 - 51, heap.steps(50));
            is(3, heap.count(14));
            is(5, heap.count(5));
            is(2, heap.undo());
            is(51, heap.count(9));
            is(1, heap.undo());
            is(1, heap.count(9));
        });
    }

    private static void steps() {
        edges.sentence("the next that isn't VOID BEGINS (VOID ones ahead of it are gone)", () -> {
            Told heap = Told.of("do drop 0;do sweep;do new 0 5;do drop 0;do drop 0;");
            is(1, heap.steps(1));
            is(2, heap.count(6));
            is(2, heap.count(3));
            is(37, heap.steps(37));
            is(0, heap.count(4));
            is(2, heap.count(3));
            is(22, heap.steps(50));
            is(2, heap.count(5));
            is(3, heap.count(6));
            is(0, heap.count(3));
        });
        edges.sentence("behind its last one it is DONE (a TRANSACTION), or it RUNS again (RECOVERY), with nothing IN FLIGHT", () -> {
            Told heap = Told.of("do set 40 5;do set 41 6;");
            is(12, heap.steps(12));
            is(0, heap.count(5));
            is(1, heap.count(4));
            is(1, heap.steps(1));
            is(1, heap.count(5));
            is(0, heap.count(4));
            is(1, heap.count(3));
            is(8, heap.steps(8));
            is(0, heap.crash(1));
            is(6, heap.recover());
            is(5, heap.steps(5));
            is(2, heap.count(0));
            is(1, heap.steps(50));
            is(0, heap.count(0));
            is(0, heap.count(4));
            is(1, heap.count(5));
            is(5, heap.media(40));
            is(0, heap.media(41));
        });
        edges.sentence("If there is none, no STEP is made (VOID ones are gone, too).", () -> {
            Told heap = Told.of("do set 40 5;do drop 0;do sweep;");
            is(13, heap.steps(13));
            is(2, heap.count(3));
            is(0, heap.undo());
            is(13, heap.steps(14));
            is(0, heap.count(3));
            is(2, heap.count(6));
            is(13, heap.count(9));
            Told recovering = Told.of("do set 40 5;do drop 0;");
            is(8, recovering.steps(8));
            is(0, recovering.crash(0));
            is(-1, recovering.steps(50));
            is(1, recovering.count(3));
            is(6, recovering.recover());
            is(6, recovering.steps(6));
            is(1, recovering.count(3));
            is(-1, recovering.steps(1));
            is(1, recovering.count(3));
            is(3, recovering.undo());
            is(6, recovering.steps(7));
            is(0, recovering.count(3));
            is(1, recovering.count(6));
        });
    }

    private static void acts() {
        edges.sentence("ACTS (at most 40 are kept, the latest ones)", () -> {
            Told heap = new Told();
            for (int i = 1; i <= 43; i++) {
                heap.site(i % 7);
                is(Math.min(40, i), heap.count(14));
            }
            for (int left = 39; left >= 0; left--) {
                is(left, heap.undo());
            }
            // The three eldest, sites 1, 2 and 3, can't be undone any more.
            is(2 + 4 + 8, heap.count(2));
            is(-1, heap.undo());
            is(-1, heap.undo());
            is(15, heap.site(0));
            is(1, heap.count(14));
        });
        edges.sentence("a LINE is EVICTED: its first so many PENDING STORES REACH MEDIA", () -> {
            Told heap = Told.of(BARE + "do set 40 1,set 40 2,set 41 3,set 40 4;");
            is(16, heap.steps(16));
            is(4, heap.pending(10));
            is(2, heap.evict(10, 2));
            is(2, heap.media(40));
            is(0, heap.media(41));
            is(4103, heap.line(10, 0));
            is(0, heap.evict(10, 2));
            is(4, heap.media(40));
            is(3, heap.media(41));
        });
        edges.sentence("nothing IN FLIGHT (a TRANSACTION that was is gone), it is DOWN", () -> {
            Told heap = Told.of("do set 40 5;do set 41 6;");
            is(1, heap.steps(1));
            is(0, heap.crash(1));
            is(1, heap.count(0));
            is(0, heap.count(4));
            is(1, heap.count(3));
            is(0, heap.count(5));
            is(0, heap.count(6));
            is(0, heap.recover());
            is(13, heap.steps(50));
            is(0, heap.media(40));
            is(6, heap.media(41));
            is(1, heap.count(5));
        });
        edges.sentence("RECOVERY begins, if it is DOWN (with COUNT 0 it RUNS at once)", () -> {
            Told heap = Told.of("do set 40 5;");
            is(2, heap.crash(0));
            is(1, heap.count(0));
            is(0, heap.recover());
            is(0, heap.count(0));
            is(1, heap.count(8));
            is(13, heap.steps(50));
            Told logged = Told.of("do set 40 5;");
            is(7, logged.steps(7));
            is(0, logged.crash(0));
            is(6, logged.recover());
            is(2, logged.count(0));
        });
        edges.sentence("a TRANSACTION of one OP comes to those that WAIT (12 at most)", () -> {
            Told heap = Told.of("do set 40 5;".repeat(11));
            is(12, heap.later(3, 41, 6));
            is(-1, heap.later(3, 42, 7));
            is(12, heap.count(3));
            is(1, heap.steps(1));
            is(12, heap.later(3, 43, 8));
            is(-1, heap.later(3, 44, 9));
            refused(heap, 2, 3);
        });
        edges.sentence("They are UNDONE, the last one first.", () -> {
            Told heap = Told.of("do set 40 5;do set 41 6;");
            heap.steps(8);
            heap.evict(10, 1);
            heap.crash(0);
            heap.later(4, 0, 0);
            heap.site(6);
            heap.recover();
            heap.steps(1);
            is(7, heap.count(14));
            is(6, heap.undo());
            is(5, heap.count(4));
            is(5, heap.undo());
            is(1, heap.count(0));
            is(0, heap.count(8));
            is(4, heap.undo());
            is(0, heap.count(2));
            is(3, heap.undo());
            is(1, heap.count(3));
            is(2, heap.undo());
            is(0, heap.count(0));
            is(5, heap.count(4));
            is(0, heap.count(7));
            is(1, heap.undo());
            is(0, heap.media(40));
            is(1, heap.pending(10));
            is(0, heap.undo());
            edges.alike(Told.of("do set 40 5;do set 41 6;"), heap);
        });
    }

    private static void counts() {
        edges.sentence("NoSuchElementException: another what.", () -> {
            Told heap = new Told();
            for (int what : new int[] {LOW, -1, 20, 21, HIGH}) {
                is(Told.NO_SUCH, heap.count(what));
            }
            for (int what = 0; what < 20; what++) {
                is(0, heap.count(what));
            }
        });
        edges.sentence("STATE: 0 it RUNS, 1 it is DOWN, 2 it RECOVERS.", () -> {
            Told heap = Told.of("do set 40 5;do set 41 6;");
            is(0, heap.count(0));
            is(8, heap.steps(8));
            is(0, heap.count(0));
            is(0, heap.crash(1));
            is(1, heap.count(0));
            is(6, heap.recover());
            is(2, heap.count(0));
            is(5, heap.steps(5));
            is(2, heap.count(0));
            is(2, heap.crash(1));
            is(1, heap.count(0));
            is(0, heap.recover());
            is(0, heap.count(0));
        });
        edges.sentence("0 STATE, 1 MODE (0 UNDO, 1 REDO), 2 SITES that are LEFT OUT (bits)", () -> {
            Told heap = Told.of("redo;without a g;");
            is(0, heap.count(0));
            is(1, heap.count(1));
            is(65, heap.count(2));
            is(2, heap.crash(0));
            is(1, heap.count(0));
            is(1, heap.count(1));
        });
        edges.sentence("5 TRANSACTIONS DONE, 6 VOID, 7 CRASHES, 8 RECOVERIES that began", () -> {
            Told heap = Told.of("do set 40 5;do drop 0;do set 41 6;do set 42 7;");
            is(13, heap.steps(13));
            is(8, heap.steps(8));
            is(0, heap.crash(0));
            is(6, heap.recover());
            is(1, heap.steps(1));
            is(2, heap.crash(1));
            is(6, heap.recover());
            is(6 + 13, heap.steps(50));
            int[] due = {2, 1, 2, 2};
            for (int i = 0; i < due.length; i++) {
                is(due[i], heap.count(5 + i));
            }
        });
        edges.sentence("9 STEPS ever, 10 STORES, 11 FLUSHES, 12 FENCES ever (by STEPS), 13 STORES that are PENDING", () -> {
            Told heap = Told.of("do set 40 5;do set 41 6;");
            is(8, heap.steps(8));
            is(0, heap.evict(10, 1));
            is(0, heap.count(13));
            heap.check(0);
            heap.years(1, 30, 0);
            is(0, heap.crash(0));
            int[] fallen = {8, 4, 2, 2, 0};
            for (int i = 0; i < fallen.length; i++) {
                is(fallen[i], heap.count(9 + i));
            }
            is(6, heap.recover());
            is(4, heap.steps(4));
            int[] recovering = {12, 6, 3, 3, 1};
            for (int i = 0; i < recovering.length; i++) {
                is(recovering[i], heap.count(9 + i));
            }
        });
        edges.sentence("3 TRANSACTIONS that WAIT, 4 MICROS of what is IN FLIGHT that are left", () -> {
            Told heap = Told.of("do set 40 5;do set 41 6;");
            is(2, heap.count(3));
            is(0, heap.count(4));
            for (int made = 1; made <= 13; made++) {
                is(1, heap.steps(1));
                is(1, heap.count(3));
                is(13 - made, heap.count(4));
            }
        });
        edges.sentence("14 ACTS that are kept, 15 SEEN, 16 bytes of the tape, 17 to 19 STATUS 0 to 2", () -> {
            Told heap = new Told();
            heap.tell("x");
            heap.tell("y");
            heap.recover();
            heap.see(64, 0);
            heap.see(64, 0);
            heap.see(64, 0);
            heap.see(63, 0);
            heap.site(0);
            heap.put("undo;undo;undo;undo;undo;");
            int[] due = {1, 1, 40, 2, 1, 3};
            for (int i = 0; i < due.length; i++) {
                is(due[i], heap.count(14 + i));
            }
        });
    }

    private static void looksInside() {
        edges.sentence("NoSuchElementException: no such WORD (as everywhere).", () -> {
            Told heap = Told.of("do set 63 5;");
            is(8, heap.steps(8));
            is(5, heap.now(63));
            is(0, heap.media(63));
            for (int word : new int[] {LOW, -1, 64, HIGH}) {
                is(Told.NO_SUCH, heap.now(word));
                is(Told.NO_SUCH, heap.media(word));
                is(Told.NO_SUCH, heap.recovered(0, word));
            }
        });
        edges.sentence("Of a LINE: how many STORES are PENDING (i NONE), of these ASKED (i -2)", () -> {
            Told heap = Told.of("do set 63 5;");
            is(2, heap.steps(2));
            is(2, heap.line(1, -1));
            is(0, heap.line(1, -2));
            is(1, heap.steps(1));
            is(2, heap.line(1, -2));
            is(0, heap.line(0, -1));
            is(0, heap.line(15, -2));
            is(5, heap.steps(5));
            is(1, heap.line(15, -1));
            is(6305, heap.line(15, 0));
        });
        edges.sentence("of the i-th (0 the eldest) 100 by its ADDRESS, and its number", () -> {
            Told heap = Told.of(BARE + "do set 63 99,set 60 0,set 20 1;");
            is(13, heap.steps(50));
            is(6399, heap.line(15, 0));
            is(6000, heap.line(15, 1));
            is(2001, heap.line(5, 0));
            int[] counts = {1, 2, 3, 0};
            for (int i = 0; i < 4; i++) {
                is(counts[i], heap.line(0, i));
            }
            is(463, heap.line(1, 0));
            is(500, heap.line(1, 1));
            is(820, heap.line(2, 0));
        });
        edges.sentence("NoSuchElementException: no such LINE (as everywhere), no such STORE.", () -> {
            Told heap = Told.of("do set 63 5;");
            is(2, heap.steps(2));
            is(463, heap.line(1, 0));
            is(500, heap.line(1, 1));
            for (int i : new int[] {LOW, -4, -3, 2, 3, 6, 7, HIGH}) {
                is(Told.NO_SUCH, heap.line(1, i));
            }
            is(Told.NO_SUCH, heap.line(0, 0));
            for (int line : new int[] {LOW, -1, 16, 17, HIGH}) {
                for (int i = -2; i < 1; i++) {
                    is(Told.NO_SUCH, heap.line(line, i));
                }
                is(Told.NO_SUCH, heap.evict(line, 1));
            }
            refused(heap, 0, 1);
        });
        edges.sentence("1 its ADDRESS, LINE (NONE of a FENCE), 2 its number (NONE of a FLUSH, a FENCE)", () -> {
            Told heap = Told.of("do set 40 99;");
            is(1, heap.steps(1));
            micro(heap, 0, 0, 5, 0);
            micro(heap, 1, 1, 1, -1);
            micro(heap, 2, 2, -1, -1);
            micro(heap, 3, 0, 0, 1);
            micro(heap, 4, 1, 0, -1);
            micro(heap, 6, 0, 40, 99);
            micro(heap, 11, 2, -1, -1);
        });
        edges.sentence("A WORD as it is, or as MEDIA has it.", () -> {
            Told heap = Told.of("data 4 9 8;do set 42 5,set 63 7;");
            is(18, heap.steps(18));
            int[][] words = {{0, 2, 2}, {1, 0, 0}, {4, 42, 42}, {5, 9, 9}, {6, 63, 63}, {41, 0, 0}, {42, 5, 9}, {43, 8, 8},
                {63, 7, 0}};
            for (int[] one : words) {
                is(one[1], heap.now(one[0]));
                is(one[2], heap.media(one[0]));
            }
        });
        edges.sentence("Of the i-th MICRO that is left (0 the next): 0 what it is (0 a STORE, 1 a FLUSH, 2 a FENCE)", () -> {
            Told heap = Told.of("do set 40 5;");
            is(1, heap.steps(1));
            int[] kinds = {0, 1, 2, 0, 1, 2, 0, 1, 2, 0, 1, 2};
            for (int made = 0; made < kinds.length; made++) {
                for (int i = 0; made + i < kinds.length; i++) {
                    is(kinds[made + i], heap.micro(i, 0));
                }
                is(Told.NO_SUCH, heap.micro(kinds.length - made, 0));
                is(1, heap.steps(1));
            }
            is(Told.NO_SUCH, heap.micro(0, 0));
        });
        edges.sentence("NoSuchElementException: there is none, another what.", () -> {
            Told heap = Told.of("do set 40 5;do set 41 6;");
            is(Told.NO_SUCH, heap.micro(0, 0));
            is(12, heap.steps(12));
            is(2, heap.micro(0, 0));
            for (int i : new int[] {LOW, -1, 1, 2, 12, HIGH}) {
                is(Told.NO_SUCH, heap.micro(i, 0));
            }
            for (int what : new int[] {LOW, -1, 3, HIGH}) {
                is(Told.NO_SUCH, heap.micro(0, what));
            }
            is(1, heap.steps(1));
            is(Told.NO_SUCH, heap.micro(0, 0));
            is(1, heap.steps(1));
            is(0, heap.crash(0));
            is(Told.NO_SUCH, heap.micro(0, 0));
        });
    }

    private static void stepsCall() {
        edges.sentence("STEPS: how many were made. NONE (STATUS 1): it is DOWN, not 1 to 50, none could be made (VOID ones that WAIT stay).", () -> {
            String text = "do new 0 1,new 1 2;do drop 2;";
            Told heap = Told.of(text);
            Told same = Told.of(text);
            for (int many : new int[] {LOW, -50, -1, 0, 51, 52, HIGH}) {
                is(-1, heap.steps(many));
                same.crash(-1);
            }
            refused(heap, 7, 0);
            edges.alike(same, heap);
            is(50, heap.steps(50));
            is(1, heap.steps(1));
            is(20, heap.steps(50));
            is(0, heap.count(3));
            is(1, heap.count(6));
            is(-1, heap.steps(50));
            is(1, heap.later(1, 3, 0));
            is(-1, heap.steps(50));
            is(1, heap.count(3));
            is(1, heap.count(6));
            is(2, heap.crash(0));
            is(-1, heap.steps(1));
            refused(heap, 10, 5);
            is(1, heap.count(3));
        });
    }

    private static void evictCall() {
        edges.sentence("A LINE is EVICTED: how many of its STORES are PENDING then. NONE (STATUS 1): not 1 to as many as are.", () -> {
            Told heap = Told.of(BARE + "do set 40 1,set 40 2;");
            Told same = Told.of(BARE + "do set 40 1,set 40 2;");
            is(8, heap.steps(8));
            is(8, same.steps(8));
            for (int many : new int[] {LOW, -1, 0, 3, 6, HIGH}) {
                is(-1, heap.evict(10, many));
                same.recover();
            }
            is(-1, heap.evict(15, 1));
            is(-1, heap.evict(0, 3));
            same.recover();
            same.recover();
            refused(heap, 8, 1);
            edges.alike(same, heap);
            is(1, heap.evict(10, 1));
            is(-1, heap.evict(10, 2));
            is(0, heap.evict(10, 1));
            is(-1, heap.evict(10, 1));
            is(0, heap.evict(0, 2));
            refused(heap, 10, 4);
            heap.crash(0);
            is(-1, heap.evict(1, 1));
            refused(heap, 11, 5);
        });
        edges.sentence("A LINE is EVICTED: how many of its STORES are PENDING then.", () -> {
            Told heap = Told.of("do set 40 5;");
            is(8, heap.steps(8));
            is(0, heap.crash(1));
            is(6, heap.recover());
            is(1, heap.steps(1));
            is(0, heap.evict(10, 1));
            is(0, heap.media(40));
            is(2, heap.fate(0));
        });
    }

    private static void crashCall() {
        edges.sentence("A CRASH: the FATE. NONE (STATUS 1): it is DOWN, there is no such ORDER.", () -> {
            Told heap = Told.of("do set 40 5;");
            Told same = Told.of("do set 40 5;");
            is(2, heap.steps(2));
            is(2, same.steps(2));
            is(3, heap.orders());
            for (int order : new int[] {LOW, -1, 3, 4, HIGH}) {
                is(-1, heap.crash(order));
                same.recover();
            }
            refused(heap, 5, 1);
            edges.alike(same, heap);
            is(0, heap.crash(2));
            is(40, heap.media(4));
            is(-1, heap.crash(0));
            is(-1, heap.crash(1));
            refused(heap, 7, 2);
            is(1, heap.count(7));
            is(0, heap.recover());
            is(-1, heap.crash(1));
            is(2, heap.crash(0));
        });
        edges.sentence("a CRASH by an ORDER (not DOWN): MEDIA is its IMAGE, nothing is PENDING", () -> {
            Told heap = Told.of("do set 40 5;");
            is(8, heap.steps(8));
            is(0, heap.crash(1));
            is(5, heap.media(40));
            is(6, heap.recover());
            is(1, heap.steps(1));
            is(2, heap.crash(0));
            is(5, heap.media(40));
            is(0, heap.count(13));
            is(0, heap.count(4));
            is(6, heap.recover());
            is(6, heap.steps(50));
            is(0, heap.media(40));
            is(2, heap.count(7));
        });
    }

    private static void recoverCall() {
        edges.sentence("RECOVERY begins: how many MICROS are left. NONE (STATUS 1): it isn't DOWN.", () -> {
            Told heap = Told.of("do set 40 5;");
            is(-1, heap.recover());
            is(8, heap.steps(8));
            is(-1, heap.recover());
            is(0, heap.crash(0));
            is(6, heap.recover());
            is(-1, heap.recover());
            refused(heap, 3, 3);
            is(1, heap.count(8));
            is(6, heap.count(4));
            is(6, heap.steps(50));
            is(-1, heap.recover());
            is(2, heap.crash(0));
            is(0, heap.recover());
            is(-1, heap.recover());
            refused(heap, 5, 6);
            is(2, heap.count(8));
        });
    }

    private static void laterCall() {
        edges.sentence("NONE (STATUS 1): 12 do, a number not as told, both ROOTS alike.", () -> {
            int[][] wrong = {{0, -1, 0}, {0, 4, 0}, {0, 0, -1}, {0, 0, 100}, {0, LOW, 0}, {0, 0, HIGH}, {1, -1, 0}, {1, 4, 0},
                {1, HIGH, 0}, {2, -1, 0}, {2, 4, 0}, {2, 0, -1}, {2, 0, 4}, {2, 0, 0}, {2, 3, 3}, {2, -1, -1}, {3, 19, 0},
                {3, 64, 0}, {3, 20, -1}, {3, 20, 100}, {3, 0, 0}, {3, LOW, 0}, {3, 63, HIGH}};
            Told heap = new Told();
            Told same = new Told();
            for (int[] one : wrong) {
                is(-1, heap.later(one[0], one[1], one[2]));
                same.recover();
            }
            refused(heap, wrong.length, 0);
            edges.alike(same, heap);
            int[][] right = {{0, 0, 0}, {0, 3, 99}, {1, 0, 0}, {1, 3, 0}, {2, 0, 3}, {2, 3, 0}, {3, 20, 0}, {3, 63, 99}, {4, 0, 0},
                {0, 1, 50}, {1, 2, 0}, {4, 0, 0}};
            for (int i = 0; i < 12; i++) {
                is(i + 1, heap.later(right[i][0], right[i][1], right[i][2]));
            }
            for (int op = 0; op < 5; op++) {
                is(-1, heap.later(op, op == 3 ? 20 : 0, 1));
            }
            refused(heap, wrong.length + 5, 12);
            is(12, heap.count(3));
            is(11, heap.undo());
            is(12, heap.later(4, 0, 0));
        });
        edges.sentence("with what is told there (what isn't told isn't looked at): how many WAIT.", () -> {
            Told heap = Told.of("chain 3 9;leak 0;leak 4;");
            is(1, heap.later(1, 3, LOW));
            is(2, heap.later(4, HIGH, LOW));
            is(3, heap.later(4, -1, 100));
            is(4, heap.later(1, 3, 4));
            is(22, heap.steps(22));
            is(0, heap.media(23));
            is(22, heap.steps(22));
            is(0, heap.shape(1, 2));
            is(-1, heap.steps(50));
            is(2, heap.count(3));
        });
        edges.sentence("0 'new', 1 'drop', 2 'move', 3 'set', 4 'sweep'", () -> {
            Told heap = Told.of("chain 1 5;");
            heap.later(0, 0, 7);
            heap.later(2, 1, 0);
            heap.later(3, 20, 0);
            heap.later(4, 0, 0);
            heap.later(1, 0, 0);
            is(38, heap.steps(38));
            is(7, heap.media(26));
            is(24, heap.media(20));
            is(30, heap.steps(30));
            is(44, heap.media(20));
            is(24, heap.media(45));
            is(13, heap.steps(13));
            is(0, heap.media(20));
            is(22, heap.steps(50));
            is(0, heap.shape(1, 2));
            is(1, heap.count(6));
        });
        edges.sentence("NoSuchElementException: another op.", () -> {
            Told heap = Told.of("do sweep;".repeat(12));
            for (int op : new int[] {LOW, -1, 5, 6, HIGH}) {
                is(Told.NO_SUCH, heap.later(op, 0, 1));
                is(Told.NO_SUCH, heap.later(op, 99, -1));
            }
            refused(heap, 0, 0);
            is(12, heap.count(3));
        });
        edges.sentence("`int later(int op, int one, int other) throws NoSuchElementException`: A TRANSACTION of one OP comes to those that WAIT", () -> {
            // Also as it is DOWN, or RECOVERS.
            Told heap = Told.of("do set 40 5;");
            heap.steps(8);
            heap.crash(0);
            is(1, heap.later(3, 41, 6));
            is(6, heap.recover());
            is(2, heap.later(3, 42, 7));
            is(6 + 26, heap.steps(50));
            is(6, heap.media(41));
            is(7, heap.media(42));
        });
    }

    private static void siteCall() {
        edges.sentence("A SITE is LEFT OUT, or no more: SITES that are (bits).", () -> {
            Told heap = Told.of("without c;");
            int bits = 4;
            for (int i = 0; i < 14; i++) {
                bits ^= 1 << i % 7;
                is(bits, heap.site(i % 7));
                is(bits, heap.count(2));
                is(i + 1, heap.count(14));
            }
            is(4, bits);
            heap.crash(0);
            is(5, heap.site(0));
        });
        edges.sentence("NoSuchElementException: no such SITE.", () -> {
            Told heap = Told.of("without c;");
            for (int site : new int[] {LOW, -1, 7, 8, 31, 32, 34, HIGH}) {
                is(Told.NO_SUCH, heap.site(site));
            }
            is(4, heap.count(2));
            refused(heap, 0, 0);
        });
    }

    private static void undoCall() {
        edges.sentence("The last ACT is UNDONE: how many are left. NONE: there is none.", () -> {
            Told heap = Told.of("do set 40 5;");
            Told same = Told.of("do set 40 5;");
            is(-1, heap.undo());
            is(-1, heap.undo());
            is(0, heap.count(18));
            edges.alike(same, heap);
            // What is refused, or is no act, is none that could be undone.
            heap.steps(0);
            heap.see(0, 0);
            heap.forget();
            heap.image();
            heap.check(0);
            is(-1, heap.undo());
            is(1, heap.steps(1));
            is(1, heap.see(0, 0));
            is(0, heap.undo());
            is(1, heap.count(15));
            is(1, heap.count(18));
            is(-1, heap.undo());
            is(1, heap.restore());
            is(-1, heap.undo());
        });
    }

    private static void recoveredCall() {
        edges.sentence("IllegalArgumentException (behind NoSuchElementException): there is no such ORDER.", () -> {
            Told heap = Told.of("do set 63 5;");
            is(8, heap.steps(8));
            is(0, heap.recovered(0, 63));
            is(0, heap.recovered(1, 63));
            is(63, heap.recovered(1, 4));
            for (int order : new int[] {LOW, -1, 2, 3, HIGH}) {
                is(Told.ILLEGAL, heap.recovered(order, 0));
                is(Told.ILLEGAL, heap.recovered(order, 63));
                is(Told.NO_SUCH, heap.recovered(order, 64));
                is(Told.NO_SUCH, heap.recovered(order, -1));
            }
            refused(heap, 0, 1);
        });
    }

    private static void fateCall() {
        edges.sentence("The FATE of an ORDER. IllegalArgumentException: there is no such ORDER.", () -> {
            Told heap = Told.of("do set 63 5;");
            is(2, heap.fate(0));
            is(Told.ILLEGAL, heap.fate(1));
            is(8, heap.steps(8));
            is(0, heap.fate(1));
            for (int order : new int[] {LOW, -1, 2, 3, HIGH}) {
                is(Told.ILLEGAL, heap.fate(order));
            }
            refused(heap, 0, 1);
        });
    }
}
