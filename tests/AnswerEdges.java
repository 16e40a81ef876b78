import java.math.BigInteger;

/** The boundaries that "Terms" 3 and promises 20 to 30 name, and promise 10: what is well, what is found out, images. */
public final class AnswerEdges {
    private static final Edges edges = new Edges();
    private static final int LOW = Integer.MIN_VALUE;
    private static final int HIGH = Integer.MAX_VALUE;
    private static final String BARE = "without a b c d e f g;";
    private static final String FOUR = "do set 24 #,set 28 #,set 32 #,set 36 #;";

    private static void is(long due, long got) {
        edges.is(due, got);
    }

    public static void main(String[] args) {
        well();
        fates();
        checks();
        tooManyToCheck();
        needless();
        needlessOrNone();
        least();
        ways();
        shapes();
        chances();
        seen();
        imagesSeen();
        explained();
        looks();
        forgets();
        yearsCall();
        yearsStepByStep();
        yearsThatWait();
        status();
        images();
        edges.end("AnswerEdges");
    }

    /** Recovery, without g and c, of two words that were written in part: COUNT 2, both words have reached. */
    private static Told fallen() {
        Told heap = Told.of("do set 40 5,set 44 6;");
        is(18, heap.steps(18));
        is(0, heap.crash(3));
        is(4, heap.site(2));
        is(68, heap.site(6));
        return heap;
    }

    /** 7 * 7 * 7 * 5 = 1715 orders by the log alone, all of them well; nothing is in flight, nothing waits. */
    private static Told longLog(String mode) {
        Told heap = Told.of(mode + BARE + "do new 0 1,new 1 2;do new 2 1,new 3 2;");
        int each = mode.equals("redo;") ? 26 : 33;
        is(50, heap.steps(50));
        is(2 * each - 50, heap.steps(50));
        for (int line = 0; line < 16; line++) {
            if (line == 0 || line > 4) {
                long pending = heap.pending(line);
                is(0, pending == 0 ? 0 : heap.evict(line, (int) pending));
            }
        }
        is(4, heap.evict(4, 2));
        is(1715, heap.orders());
        return heap;
    }

    private static Told logEvicted(Told heap) {
        is(0, heap.evict(0, 6));
        is(0, heap.evict(1, 6));
        is(0, heap.evict(2, 6));
        return heap;
    }

    private static String fours(int many) {
        StringBuilder text = new StringBuilder("redo;" + BARE);
        for (int i = 1; i <= many; i++) {
            text.append(FOUR.replace("#", String.valueOf(i)));
        }
        return text.toString();
    }

    /** 5 * 5 * 5 * 4 * 4 orders, of which the last alone is well. */
    private static Told twoThousand() {
        Told heap = Told.of(fours(4) + "do set 40 1,set 40 2,set 40 3;");
        is(50, heap.steps(50));
        is(4 * 14 + 11 - 50, heap.steps(50));
        logEvicted(heap);
        is(3, heap.evict(9, 1));
        is(2000, heap.orders());
        return heap;
    }

    /** 7 * 6 * 4 * 3 * 4 orders: the least number above 2000 that can be. */
    private static Told sixteenMore() {
        Told heap = Told.of(fours(5) + "do set 24 6,set 40 1,set 40 2,set 40 3;");
        is(50, heap.steps(50));
        is(6 * 14 - 50, heap.steps(50));
        logEvicted(heap);
        is(3, heap.evict(8, 2));
        is(2, heap.evict(9, 3));
        is(2016, heap.orders());
        return heap;
    }

    private static void well() {
        edges.sentence("as it RUNS with nothing IN FLIGHT: the HEAP as its WORDS are", () -> {
            Told heap = Told.of("without d;do set 40 5;");
            is(2, heap.fate(0));
            is(12, heap.steps(50));
            is(2, heap.orders());
            is(3, heap.fate(0));
            is(2, heap.fate(1));
            is(0, heap.evict(0, 1));
            is(2, heap.fate(0));
        });
        edges.sentence("with a TRANSACTION IN FLIGHT: BEFORE and AFTER", () -> {
            Told heap = Told.of("do set 40 5;");
            is(1, heap.steps(1));
            is(0, heap.fate(0));
            is(0, heap.fate(1));
            is(10, heap.steps(10));
            is(0, heap.fate(0));
            is(1, heap.fate(1));
            is(1, heap.steps(1));
            is(1, heap.fate(1));
            is(1, heap.steps(1));
            is(2, heap.fate(0));
        });
        edges.sentence("DOWN: the HEAP of MEDIA RECOVERED", () -> {
            Told heap = Told.of("without c g;do set 40 5,set 44 6;");
            is(17, heap.steps(17));
            is(3, heap.crash(5));
            is(2, heap.fate(0));
            is(0, heap.media(40));
            is(6, heap.media(44));
            is(1, heap.chance(0));
            Told logged = Told.of("do set 40 5;");
            is(8, logged.steps(8));
            is(0, logged.crash(1));
            is(5, logged.media(40));
            is(0, logged.recovered(0, 40));
            is(2, logged.fate(0));
        });
        edges.sentence("as it RECOVERS: that of MEDIA RECOVERED as RECOVERY began", () -> {
            Told heap = fallen();
            is(5, heap.recover());
            is(2, heap.fate(0));
            is(3, heap.steps(3));
            is(8, heap.orders());
            int[] fates = {2, 2, 2, 2, 3, 3, 3, 2};
            for (int order = 0; order < 8; order++) {
                is(fates[order], heap.fate(order));
            }
            is(0, heap.evict(0, 1));
            is(3, heap.fate(0));
            is(2, heap.fate(3));
            is(2, heap.steps(50));
            is(0, heap.count(0));
            is(3, heap.fate(0));
            is(2, heap.fate(3));
        });
    }

    private static void fates() {
        edges.sentence("0 of BEFORE, not AFTER; 1 of AFTER, not BEFORE; 2 of both (or of the one that there is); 3 neither: BAD", () -> {
            Told heap = Told.of("without c g;do set 40 5,set 44 6;");
            is(2, heap.fate(0));
            is(17, heap.steps(17));
            int[] fates = {0, 0, 0, 0, 0, 3, 3, 1};
            for (int order = 0; order < 8; order++) {
                is(fates[order], heap.fate(order));
                is(fates[order], heap.crash(order));
                is(1, heap.undo());
            }
            Told both = Told.of("without c g;do set 40 0,set 44 0;");
            is(17, both.steps(17));
            for (int order = 0; order < 8; order++) {
                is(2, both.fate(order));
            }
        });
    }

    private static void checked(Told heap, long bad, long steps, long order) {
        is(bad, heap.check(0));
        is(steps, heap.check(1));
        is(order, heap.check(2));
    }

    private static void checks() {
        edges.sentence("now, and behind each STEP until what is IN FLIGHT is DONE", () -> {
            Told heap = Told.of("without d;do set 40 5;");
            checked(heap, 1, 12, 0);
            is(5, heap.steps(5));
            checked(heap, 1, 7, 0);
            is(6, heap.steps(6));
            checked(heap, 1, 1, 0);
            is(1, heap.steps(1));
            checked(heap, 1, 0, 0);
            is(0, heap.evict(0, 1));
            checked(heap, 0, -1, -1);
            // What waits behind the one in flight isn't followed.
            Told two = Told.of("do set 40 5;do set 41 6;");
            is(1, two.steps(1));
            is(8, two.site(3));
            checked(two, 0, -1, -1);
            is(11, two.steps(11));
            is(1, two.count(4));
            checked(two, 0, -1, -1);
            is(1, two.steps(1));
            checked(two, 1, 12, 0);
            // Nor is it behind a recovery, be it of one step.
            Told bare = Told.of(BARE + "do set 40 5;do set 41 6;");
            is(3, bare.steps(3));
            is(0, bare.crash(3));
            checked(bare, 0, -1, -1);
            is(1, bare.recover());
            checked(bare, 0, -1, -1);
            is(1, bare.steps(1));
            // Then COUNT 1, 0, 1, 0 by line 0, 41 and 0 by line 1, 6 by line 10: without that twelve, with it four.
            checked(bare, 12 + 4, 5, 0);
        });
        edges.sentence("CHECK: (with MODE and SITES as they are)", () -> {
            Told heap = Told.of("do set 40 5;");
            checked(heap, 0, -1, -1);
            is(8, heap.site(3));
            checked(heap, 1, 12, 0);
            is(0, heap.site(3));
            checked(heap, 0, -1, -1);
            checked(Told.of("redo;without d;do set 40 5;"), 0, -1, -1);
            checked(Told.of("redo;without g;do set 40 5;"), 1, 12, 0);
        });
        edges.sentence("how many are BAD, all together; behind how many STEPS one is first; the first such ORDER there", () -> {
            // Two, two and three of them, behind 17, 18 and 19 steps.
            Told heap = Told.of("without c g;do set 40 5,set 44 6;");
            checked(heap, 2 + 2 + 3, 17, 5);
            is(18, heap.steps(18));
            checked(heap, 2 + 3, 0, 5);
            is(1, heap.steps(1));
            checked(heap, 3, 0, 0);
        });
        edges.sentence("(if nothing is, but one WAITS that isn't VOID, until that is", () -> {
            Told heap = Told.of("without d;do drop 0;do sweep;do set 40 5;do set 41 6;");
            checked(heap, 1, 12, 0);
            is(4, heap.count(3));
            is(0, heap.count(6));
            Told again = Told.of("without d;do drop 0;do sweep;");
            checked(again, 0, -1, -1);
            is(2, again.count(3));
        });
        edges.sentence("if it is DOWN, as if RECOVERY began now", () -> {
            Told heap = fallen();
            checked(heap, 9, 3, 4);
            is(1, heap.count(0));
            is(0, heap.count(8));
            is(5, heap.recover());
            checked(heap, 9, 3, 4);
            is(4, heap.steps(4));
            checked(heap, 6, 0, 4);
            Told zero = Told.of("without d;do set 40 5;");
            is(2, zero.crash(0));
            checked(zero, 0, -1, -1);
            is(0, zero.recover());
            checked(zero, 1, 12, 0);
        });
        edges.sentence("each time all ORDERS", () -> {
            for (int line = 5; line < 16; line++) {
                Told heap = Told.of(BARE + "do set " + (4 * line + 3) + " 5;");
                is(5, heap.steps(5));
                is(0, heap.evict(0, 2));
                is(0, heap.evict(1, 2));
                checked(heap, 1, 0, 0);
                fraction(heap, 1, 2);
                looked(heap, 4 * line + 3, 2);
                is(1, heap.see(4 * line + 3, 5));
                is(1, heap.explained(0));
                is(1, heap.explained(1));
            }
        });
        edges.sentence("else now alone): each time all ORDERS", () -> {
            Told heap = Told.of("without d;do set 40 5;do drop 0;");
            is(12, heap.steps(12));
            checked(heap, 1, 0, 0);
            checked(new Told(), 0, -1, -1);
            Told many = twoThousand();
            checked(many, 1999, 0, 0);
        });
        edges.sentence("CHECK: how many are BAD (what 0; TOO_MANY); behind how many STEPS the first (1; NONE: none", () -> {
            Told heap = Told.of("without c g;do set 40 5,set 44 6;");
            Told same = Told.of("without c g;do set 40 5,set 44 6;");
            checked(heap, 7, 17, 5);
            edges.alike(same, heap);
            for (int what : new int[] {LOW, -1, 3, HIGH}) {
                is(Told.NO_SUCH, heap.check(what));
            }
        });
    }

    private static void tooManyToCheck() {
        edges.sentence("TOO MANY, if at one of these times there are more than 2000 ORDERS (no ORDER is looked at then, or later).", () -> {
            checked(twoThousand(), 1999, 0, 0);
            checked(sixteenMore(), -2, -2, -2);
            Told later = longLog("redo;");
            checked(later, 0, -1, -1);
            is(1, later.later(3, 40, 5));
            checked(later, -2, -2, -2);
            Told bad = Told.of(BARE + "do new 0 1,new 1 2;");
            checked(bad, -2, 4, 1);
            is(4, bad.steps(4));
            checked(bad, -2, 0, 1);
        });
        edges.sentence("TOO_MANY: none ahead of these), its ORDER (2; likewise)", () -> {
            Told heap = longLog("redo;");
            is(1, heap.later(3, 40, 5));
            is(2, heap.steps(2));
            is(1715, heap.orders());
            checked(heap, -2, -2, -2);
            is(1, heap.steps(1));
            is(3430, heap.orders());
            checked(heap, -2, -2, -2);
            is(2, heap.evict(4, 2));
            is(2058, heap.orders());
            checked(heap, -2, -2, -2);
        });
    }

    private static void needless() {
        edges.sentence("(It RUNS, nothing is IN FLIGHT, one WAITS that isn't VOID; else none:)", () -> {
            is(-1, new Told().needless());
            is(-1, Told.of("do drop 0;do sweep;").needless());
            is(23, Told.of("do drop 0;do set 40 5;").needless());
            Told heap = Told.of("do set 40 5;do set 41 6;");
            is(23, heap.needless());
            is(8, heap.steps(8));
            is(-1, heap.needless());
            is(-1, heap.least(0));
            is(0, heap.crash(0));
            is(-1, heap.needless());
            is(-1, heap.least(0));
            is(-1, heap.least(1));
            is(6, heap.recover());
            is(-1, heap.needless());
            is(-1, heap.least(0));
            is(6, heap.steps(6));
            is(23, heap.needless());
            is(13, heap.steps(50));
            is(-1, heap.needless());
            is(-1, heap.least(0));
            is(0, heap.count(18));
        });
        edges.sentence("NEEDLESS: SITES that aren't LEFT OUT, each of which could be by itself, too, without any BAD by CHECK, nor TOO MANY (bits).", () -> {
            is(63, Told.of("redo;do set 40 5;").needless());
            is(127, Told.of("do set 40 0;").needless());
            is(127 - 8, Told.of("without d;do set 40 0;").needless());
            is(64, Told.of("without a b c d e f;do set 40 0;").needless());
            is(0, Told.of(BARE + "do set 40 0;").needless());
            // One is bad as it is: no site more is needless.
            is(0, Told.of("redo;without g;do set 40 5;").needless());
            Told heap = longLog("redo;");
            for (int site = 0; site < 7; site++) {
                heap.site(site);
            }
            is(0, heap.count(2));
            is(1, heap.later(3, 40, 5));
            is(46, heap.needless());
            is(0, heap.count(2));
            is(1, heap.count(3));
        });
    }

    private static void needlessOrNone() {
        edges.sentence("NEEDLESS; NONE: none.", () -> {
            // None at all is NONE; that no site is needless is 0.
            is(-1, new Told().needless());
            is(0, Told.of(BARE + "do set 40 5;").needless());
            is(0, Told.of("without f;do set 40 5;").needless());
            Told heap = Told.of("do drop 0;");
            is(-1, heap.needless());
            is(2, heap.later(3, 40, 5));
            is(23, heap.needless());
            is(0, heap.undo());
            is(-1, heap.needless());
            is(2, heap.crash(0));
            is(2, heap.later(3, 40, 5));
            is(-1, heap.needless());
            is(0, heap.recover());
            is(23, heap.needless());
        });
    }

    private static void least() {
        edges.sentence("LEAST: of FENCES a to d the fewest that must not be LEFT OUT (FLUSHES as they are), so that CHECK has no BAD, nor TOO MANY", () -> {
            Told heap = longLog("redo;");
            for (int site = 4; site < 7; site++) {
                heap.site(site);
            }
            is(15, heap.count(2));
            is(1, heap.later(3, 40, 5));
            is(5, heap.least(0));
            is(2, heap.least(1));
            is(15, heap.count(2));
            is(15, Told.of("chain 0 1;do drop 0,new 1 7;").least(0));
            is(4, Told.of("chain 0 1;do drop 0,new 1 7;").least(1));
        });
        edges.sentence("(bits; of as few the least bits): which; how many", () -> {
            // By REDO the third or the fourth alone is enough.
            for (String without : new String[] {"", "without a b c d;", "without a d;"}) {
                Told heap = Told.of("redo;" + without + "do set 40 5;");
                is(4, heap.least(0));
                is(1, heap.least(1));
            }
            is(8, Told.of("do set 40 5;").least(0));
            Told none = Told.of("do set 40 0;");
            is(0, none.least(0));
            is(0, none.least(1));
            Told all = Told.of(BARE + "do set 40 0;");
            is(0, all.least(0));
            is(0, all.least(1));
        });
        edges.sentence("none, if even all aren't enough", () -> {
            for (String text : new String[] {"redo;without g;do set 40 5;", "without f;do set 40 5;", "without e f g;do set 40 5;"}) {
                is(-1, Told.of(text).least(0));
                is(-1, Told.of(text).least(1));
            }
        });
        edges.sentence("LEAST: which (what 0), how many (1); NONE: none. NoSuchElementException: another what.", () -> {
            for (Told heap : new Told[] {new Told(), Told.of("do set 40 5;")}) {
                for (int what : new int[] {LOW, -1, 2, HIGH}) {
                    is(Told.NO_SUCH, heap.least(what));
                }
            }
            is(-1, new Told().least(0));
            is(-1, new Told().least(1));
            is(-1, Told.of("do drop 0;").least(0));
        });
    }

    private static Told set(String text, int... words) {
        StringBuilder all = new StringBuilder(text).append("redo;do ");
        for (int i = 0; i < words.length; i += 2) {
            all.append(i == 0 ? "set " : ",set ").append(words[i]).append(' ').append(words[i + 1]);
        }
        Told heap = Told.of(all.append(';').toString());
        heap.steps(50);
        is(1, heap.count(5));
        return heap;
    }

    private static void shaped(Told heap, int of, int... due) {
        for (int what = 0; what < due.length; what++) {
            is(due[what], heap.shape(of, what));
        }
    }

    private static void ways() {
        edges.sentence("from a ROOT one goes to the BLOCK in use whose ADDRESS it is, on to the one whose ADDRESS is its NEXT, and so on: all these are REACHED.", () -> {
            shaped(new Told(), 1, 0, 0, 0, 0, 0);
            shaped(Told.of("chain 1 9 0 5;chain 2 3;"), 1, 512 + 1 + 32 + 8, 0, 512 + 1 + 32 + 8, 0, 0);
            shaped(set("chain 1 9 0 5;", 61, 44), 1, 512 + 32, 1, 512 + 1 + 32, 0, 0);
            // A free BLOCK, or one whose HEADER is neither, ends the way; what is behind it leaks.
            shaped(set("chain 1 9 0 5;", 24, 0), 1, 512, 32, 512 + 32, 2, 0);
            shaped(set("chain 1 9 0 5;", 24, 7), 1, 512, 32, 512 + 32, 2, 0);
            // DATA lead nowhere.
            shaped(Told.of("chain 1 9;leak 0;data 9 24 24;"), 1, 512, 1, 513, 0, 0);
        });
    }

    private static void shapes() {
        edges.sentence("It ends at 0; it is TORN, if it comes to a number that is neither 0 nor the ADDRESS of a BLOCK in use", () -> {
            shaped(Told.of("chain 3 9;"), 1, 512, 0, 512, 0, 0);
            for (int number : new int[] {1, 3, 4, 19, 20, 22, 23, 24, 25, 27, 29, 31, 32, 60, 63, 64, 68, 99}) {
                shaped(set("leak 1;", 22, number), 1, 0, 2, 2, 4, 0);
                shaped(set("chain 2 5;leak 1;", 45, number), 1, 32, 2, 34, 4, 0);
            }
            shaped(set("leak 1;", 22, 28), 1, 2, 0, 2, 0, 0);
            shaped(set("leak 1;", 22, 0), 1, 0, 2, 2, 0, 0);
            shaped(set("chain 0 1 2 3;", 32, 2), 1, 2, 8, 10, 1, 0);
            shaped(set("chain 0 1 2 3;", 32, 0), 1, 2, 8, 10, 1, 0);
            shaped(set("chain 0 1 2 3;", 28, 99), 1, 0, 12, 12, 1, 0);
            shaped(set("", 20, 24, 21, 99, 22, 1, 23, 64), 1, 0, 0, 0, 15, 0);
            shaped(set("leak 0;leak 9;", 20, 1, 21, 23, 22, 25, 23, 64), 1, 0, 513, 513, 15, 0);
            shaped(set("chain 3 9;leak 0;", 61, 1), 1, 512, 1, 513, 8, 0);
            // The log is none of the ROOTS.
            Told logged = Told.of("chain 0 0;chain 1 1;chain 2 2;chain 3 3;do drop 0,drop 1,drop 2,drop 3;");
            is(50, logged.steps(50));
            is(23, logged.steps(50));
            is(1, logged.media(19));
            shaped(logged, 1, 0, 0, 0, 0, 0);
        });
        edges.sentence("SHAPE, of WORDS as they are, of MEDIA, of MEDIA RECOVERED", () -> {
            // One asks of another one, and of what is undone, crashed, restored: each time it is as it is then.
            Told heap = Told.of("chain 0 0;do set 20 99;do set 20 24;do set 25 24;");
            is(8, heap.steps(8));
            is(1, heap.shape(0, 3));
            is(0, heap.shape(1, 3));
            is(1, heap.shape(0, 3));
            is(0, heap.undo());
            is(0, heap.shape(0, 3));
            heap.image();
            is(26 + 13, heap.steps(39));
            shaped(heap, 0, 1, 0, 1, 0, 1);
            is(1, heap.restore());
            shaped(heap, 0, 1, 0, 1, 0, 0);
            is(8, heap.steps(8));
            shaped(heap, 0, 0, 1, 1, 1, 0);
            is(0, heap.crash(0));
            shaped(heap, 0, 1, 0, 1, 0, 0);
            is(0, heap.heap(0));
            shaped(heap, 0, 0, 0, 0, 0, 0);
        });
        edges.sentence("it goes ROUND, if it comes to a BLOCK a second time from this ROOT (it ends there)", () -> {
            shaped(set("chain 0 5;", 45, 44), 1, 32, 0, 32, 0, 1);
            shaped(set("chain 3 9 8 7 6 5 4 3 2 1 0;", 25, 60), 1, 1023, 0, 1023, 0, 8);
            shaped(set("chain 3 9 8 7 6 5 4 3 2 1 0;", 25, 24), 1, 1023, 0, 1023, 0, 8);
            shaped(set("chain 1 1 2 3;", 37, 32), 1, 14, 0, 14, 0, 2);
            // Two ROOTS come to a BLOCK, each once.
            shaped(set("chain 0 1 2;chain 1 3;", 37, 32), 1, 14, 0, 14, 0, 0);
            shaped(set("chain 0 1 2;", 21, 28, 22, 28, 23, 32), 1, 6, 0, 6, 0, 0);
            shaped(set("chain 0 1 2;", 21, 28, 22, 32, 33, 28), 1, 6, 0, 6, 0, 7);
        });
        edges.sentence("LEAKED: BLOCKS in use that aren't REACHED from any ROOT.", () -> {
            shaped(Told.of("leak 0;leak 9;chain 0 4;"), 1, 16, 513, 529, 0, 0);
            shaped(set("chain 0 4 5 6;", 20, 0), 1, 0, 112, 112, 0, 0);
            shaped(set("chain 0 4 5 6;", 20, 0, 53, 40), 1, 0, 112, 112, 0, 0);
            shaped(set("chain 0 4 5 6;", 20, 44), 1, 96, 16, 112, 0, 0);
        });
        edges.sentence("SHAPE, of WORDS as they are (of 0), of MEDIA (1), of that RECOVERED (2)", () -> {
            Told heap = Told.of("do set 24 1;");
            is(8, heap.steps(8));
            shaped(heap, 0, 0, 1, 1, 0, 0);
            shaped(heap, 1, 0, 0, 0, 0, 0);
            shaped(heap, 2, 0, 0, 0, 0, 0);
            is(2, heap.steps(2));
            shaped(heap, 1, 0, 1, 1, 0, 0);
            shaped(heap, 2, 0, 0, 0, 0, 0);
            is(3, heap.steps(3));
            shaped(heap, 2, 0, 1, 1, 0, 0);
        });
        edges.sentence("0 BLOCKS that are REACHED, 1 LEAKED, 2 in use; 3 ROOTS that are TORN, 4 that go ROUND (bits, all)", () -> {
            shaped(Told.of("chain 0 0;chain 3 9 8 7 6 5 4 3 2 1;"), 1, 1023, 0, 1023, 0, 0);
            shaped(Told.of("leak 0;leak 1;leak 2;leak 3;leak 4;leak 5;leak 6;leak 7;leak 8;leak 9;"), 1, 0, 1023, 1023, 0, 0);
            shaped(set("chain 0 0;chain 1 1;chain 2 2;chain 3 3;", 25, 24, 29, 28, 33, 32, 37, 36), 1, 15, 0, 15, 0, 15);
            shaped(set("chain 0 0;chain 1 1;chain 2 2;chain 3 3;", 25, 1, 29, 2, 33, 3, 37, 4), 1, 15, 0, 15, 15, 0);
            shaped(set("chain 0 0;chain 1 1 2;leak 9;", 20, 36, 33, 28), 1, 6, 513, 519, 1, 2);
        });
        edges.sentence("NoSuchElementException: of, another what.", () -> {
            Told heap = new Told();
            for (int wrong : new int[] {LOW, -1, 3, 4, HIGH}) {
                is(Told.NO_SUCH, heap.shape(wrong, 0));
                is(wrong > 2 && wrong < 5 ? 0 : Told.NO_SUCH, heap.shape(0, wrong));
                is(Told.NO_SUCH, heap.shape(wrong, 5));
            }
            for (int of = 0; of < 3; of++) {
                is(0, heap.shape(of, 4));
                is(Told.NO_SUCH, heap.shape(of, 5));
                is(Told.NO_SUCH, heap.shape(of, -1));
            }
        });
    }

    private static void fraction(Told heap, long upper, long lower) {
        is(upper, heap.chance(0));
        is(lower, heap.chance(1));
    }

    private static void chances() {
        edges.sentence("CHANCE: of all ORDERS now how many have FATE 1 or 2, as a fraction in lowest terms; none by more than 2000 ORDERS.", () -> {
            fraction(new Told(), 1, 1);
            fraction(twoThousand(), 1, 2000);
            fraction(sixteenMore(), -1, -1);
            fraction(longLog("redo;"), 1, 1);
            Told half = Told.of(BARE + "do set 40 5;");
            is(5, half.steps(5));
            is(0, half.evict(0, 2));
            is(1, half.evict(1, 1));
            is(4, half.orders());
            fraction(half, 1, 2);
            Told none = Told.of("do set 40 5,set 44 6;");
            is(16, none.steps(16));
            is(4, none.orders());
            fraction(none, 0, 1);
            Told three = Told.of("redo;without b;do set 40 5;");
            is(7, three.steps(7));
            fraction(three, 3, 4);
            Told some = Told.of("without c g;do set 40 5,set 44 6;");
            is(17, some.steps(17));
            fraction(some, 1, 8);
        });
        edges.sentence("CHANCE: the upper part (what 0), the lower one (1); NONE: none. NoSuchElementException: another what.", () -> {
            for (Told heap : new Told[] {new Told(), sixteenMore()}) {
                for (int what : new int[] {LOW, -1, 2, HIGH}) {
                    is(Told.NO_SUCH, heap.chance(what));
                }
            }
        });
    }

    private static void seen() {
        edges.sentence("SEEN: how much is. NONE (STATUS 2): there are 8, not a WORD, number not 0 to 999.", () -> {
            Told heap = new Told();
            int[][] wrong = {{LOW, 0}, {-1, 0}, {64, 0}, {HIGH, 0}, {0, -1}, {0, LOW}, {63, 1000}, {0, HIGH}, {64, 1000}};
            for (int[] one : wrong) {
                is(-1, heap.see(one[0], one[1]));
            }
            is(0, heap.count(15));
            is(wrong.length, heap.count(19));
            int[][] right = {{0, 0}, {63, 0}, {1, 0}, {63, 0}, {2, 0}, {3, 0}, {4, 0}, {5, 0}};
            for (int i = 0; i < 8; i++) {
                is(i + 1, heap.see(right[i][0], right[i][1]));
            }
            is(1, heap.explained(0));
            is(-1, heap.see(0, 0));
            is(-1, heap.see(0, 999));
            is(8, heap.count(15));
            is(wrong.length + 2, heap.count(19));
            is(1, heap.explained(0));
            is(0, heap.count(18));
            is(0, heap.count(14));
            Told most = new Told();
            is(1, most.see(63, 999));
            is(0, most.explained(0));
        });
    }

    private static void imagesSeen() {
        edges.sentence("SEEN (at most 8): what a WORD of the IMAGE would be.", () -> {
            // The IMAGE as it is, not RECOVERED: COUNT 1, the log and the write of 40.
            Told heap = Told.of("do set 40 5;");
            is(8, heap.steps(8));
            is(2, heap.orders());
            int[][] all = {{0, 1}, {4, 40}, {5, 0}, {40, 5}, {41, 0}, {63, 0}, {20, 0}, {40, 5}};
            for (int i = 0; i < all.length; i++) {
                is(i + 1, heap.see(all[i][0], all[i][1]));
                is(i < 3 ? 2 : 1, heap.explained(0));
                is(i < 3 ? 0 : 1, heap.explained(1));
            }
            is(-1, heap.see(40, 5));
            is(8, heap.count(15));
            is(0, heap.recovered(1, 40));
            // What is SEEN stays as ORDERS change.
            is(0, heap.evict(10, 1));
            is(1, heap.explained(0));
            is(0, heap.explained(1));
            is(5, heap.steps(50));
            is(0, heap.explained(0));
            is(-1, heap.explained(1));
        });
    }

    private static void explained() {
        edges.sentence("ORDERS now by whose IMAGE all SEEN is so: how many; the first; TOO MANY by more than 2000 ORDERS.", () -> {
            Told heap = twoThousand();
            is(2000, heap.explained(0));
            is(0, heap.explained(1));
            is(1, heap.see(24, 4));
            is(400, heap.explained(0));
            is(1600, heap.explained(1));
            is(2, heap.see(40, 3));
            is(100, heap.explained(0));
            is(1603, heap.explained(1));
            is(3, heap.see(36, 0));
            is(0, heap.explained(0));
            is(-1, heap.explained(1));
            heap.forget();
            heap.see(24, 4);
            heap.see(28, 4);
            heap.see(32, 4);
            heap.see(36, 4);
            heap.see(40, 3);
            is(1, heap.explained(0));
            is(1999, heap.explained(1));
            Told counted = Told.of(BARE + "do set 40 5;");
            is(5, counted.steps(5));
            is(1, counted.see(0, 1));
            is(3 * 2, counted.explained(0));
            is(3 * 2, counted.explained(1));
            is(2, counted.see(5, 0));
            is(3, counted.see(4, 40));
            is(2 * 2, counted.explained(0));
            is(3 * 2 + 2, counted.explained(1));
            Told many = sixteenMore();
            is(-2, many.explained(0));
            is(-2, many.explained(1));
            // It is TOO MANY also if what is SEEN can't be.
            many.see(63, 999);
            is(-2, many.explained(0));
            is(-2, many.explained(1));
            is(0, many.evict(10, 3));
            is(0, many.explained(0));
            is(-1, many.explained(1));
        });
        edges.sentence("EXPLAINED: how many (what 0), the first (1; NONE: none); TOO_MANY. NoSuchElementException: another what.", () -> {
            for (Told heap : new Told[] {new Told(), sixteenMore()}) {
                for (int what : new int[] {LOW, -1, 2, HIGH}) {
                    is(Told.NO_SUCH, heap.explained(what));
                }
            }
            Told none = new Told();
            is(1, none.explained(0));
            is(0, none.explained(1));
        });
    }

    private static void looked(Told heap, long word, long unlike) {
        is(word, heap.look(0));
        is(unlike, heap.look(1));
    }

    private static void looks() {
        edges.sentence("LOOK NEXT: the WORD that by these is most unlike (of like ones the least): which; how many unlike numbers; none without any, or by more than 2000 ORDERS.", () -> {
            looked(new Told(), 0, 1);
            Told heap = twoThousand();
            // Words 24, 28, 32: 0 to 4; 36: 1 to 4; 40: 0 to 3.
            looked(heap, 24, 5);
            heap.see(24, 2);
            looked(heap, 28, 5);
            heap.see(32, 0);
            looked(heap, 28, 5);
            heap.see(28, 0);
            looked(heap, 36, 4);
            heap.see(36, 1);
            looked(heap, 40, 4);
            heap.see(40, 3);
            looked(heap, 0, 1);
            heap.see(40, 2);
            looked(heap, -1, 0);
            looked(sixteenMore(), -1, 0);
            // A number that comes again is not unlike.
            Told again = Told.of(BARE + "do set 63 1,set 63 0,set 63 1,set 62 7;");
            is(17, again.steps(17));
            for (int line = 0; line < 3; line++) {
                again.evict(line, (int) again.pending(line));
            }
            looked(again, 62, 2);
            again.see(62, 0);
            looked(again, 63, 2);
            Told counted = Told.of(BARE + "do set 40 5;");
            is(5, counted.steps(5));
            looked(counted, 0, 2);
            Told high = Told.of("redo;" + BARE + "do set 40 63,set 40 64,set 40 99,set 40 65;do set 40 0,set 40 64;");
            is(14 + 8, high.steps(50));
            high.evict(0, 4);
            high.evict(1, 6);
            high.evict(2, 4);
            is(7, high.orders());
            looked(high, 40, 5);
            is(1, high.evict(10, 5));
            looked(high, 40, 2);
        });
        edges.sentence("LOOK NEXT: which (what 0; NONE), how many unlike (1; 0: none). NoSuchElementException: another what.", () -> {
            for (Told heap : new Told[] {new Told(), sixteenMore()}) {
                for (int what : new int[] {LOW, -1, 2, HIGH}) {
                    is(Told.NO_SUCH, heap.look(what));
                }
            }
        });
    }

    private static void forgets() {
        edges.sentence("All that is SEEN is forgotten.", () -> {
            Told heap = new Told();
            heap.forget();
            is(0, heap.count(15));
            for (int i = 0; i < 8; i++) {
                heap.see(0, 1);
            }
            is(-1, heap.see(0, 1));
            is(0, heap.explained(0));
            heap.forget();
            is(0, heap.count(15));
            is(1, heap.count(19));
            is(1, heap.explained(0));
            is(1, heap.see(0, 0));
            is(1, heap.explained(0));
        });
    }

    /** Draws, by the document's words. */
    private static final class Draws {
        private int seed;

        Draws(int seed) {
            this.seed = seed;
        }

        int of(int n) {
            seed = (int) (seed * 1103515245L + 12345L);
            return (seed >> 16 & 0x7fff) % n;
        }
    }

    private static int[] seeds() {
        int[] all = new int[60];
        for (int i = 0; i < all.length; i++) {
            all[i] = i < 20 ? i : i < 40 ? -i : i < 50 ? HIGH - i : LOW + i;
        }
        return all;
    }

    /** The first of so many years is a 'new', the last one a crash, the others are steps, or lines that reach. */
    private static boolean isSimple(int seed, int n) {
        Draws draws = new Draws(seed);
        for (int i = 0; i < n; i++) {
            int what = draws.of(8);
            if (i == n - 1) {
                return what == 5;
            }
            if (i == 0 ? what != 6 : what > 4) {
                return false;
            }
            draws.of(what < 4 ? 6 : what == 4 ? 16 : 4);
            if (what == 6) {
                draws.of(10);
            }
        }
        return false;
    }

    private static void year(Told heap, int seed, long crashes, long bad, long leaked) {
        is(crashes, heap.years(seed, 1, 0));
        is(bad, heap.years(seed, 1, 1));
        is(leaked, heap.years(seed, 1, 2));
    }

    private static void yearsCall() {
        edges.sentence("NoSuchElementException: another what. IllegalArgumentException (behind that): n.", () -> {
            Told heap = Told.of("leak 3;do set 40 5;");
            Told same = Told.of("leak 3;do set 40 5;");
            for (int n : new int[] {LOW, -1, 31, 32, HIGH}) {
                for (int what = 0; what < 3; what++) {
                    is(Told.ILLEGAL, heap.years(7, n, what));
                }
                for (int what : new int[] {LOW, -1, 3, HIGH}) {
                    is(Told.NO_SUCH, heap.years(7, n, what));
                }
            }
            is(Told.NO_SUCH, heap.years(7, 0, 3));
            is(Told.NO_SUCH, heap.years(7, 30, -1));
            edges.alike(same, heap);
        });
        edges.sentence("YEARS by a seed: n times (0 to 30) from now on", () -> {
            Told heap = Told.of("leak 3;do set 40 5;");
            Told same = Told.of("leak 3;do set 40 5;");
            for (int seed : seeds()) {
                is(0, heap.years(seed, 0, 0));
                is(1, heap.years(seed, 0, 2));
                long most = heap.years(seed, 30, 0);
                is(1, most >= 0 && most <= 30 ? 1 : 0);
            }
            is(0, heap.years(5, 0, 1));
            edges.alike(same, heap);
            // As long as nothing comes to those that wait, nothing ever pends, and a crash draws no more.
            Told idle = new Told();
            for (int seed : seeds()) {
                Draws draws = new Draws(seed);
                int crashes = 0;
                for (int n = 1; n <= 30; n++) {
                    int what = draws.of(8);
                    if (what > 5) {
                        break;
                    }
                    if (what < 5) {
                        draws.of(what < 4 ? 6 : 16);
                    }
                    crashes += what == 5 ? 1 : 0;
                    is(crashes, idle.years(seed, n, 0));
                }
            }
        });
        edges.sentence("A seed becomes itself times 1103515245 and 12345 (an int that wraps); a DRAW of n is its bits 16 to 30 MOD n then.", () -> {
            Told heap = new Told();
            BigInteger times = BigInteger.valueOf(1103515245);
            for (int seed : seeds()) {
                long first = BigInteger.valueOf(seed).multiply(times).add(BigInteger.valueOf(12345))
                    .shiftRight(16).mod(BigInteger.valueOf(32768)).longValue();
                is(first % 8 == 5 ? 1 : 0, heap.years(seed, 1, 0));
            }
            // 0 becomes 12345, whose bits from 16 on are 0: a DRAW of 8 is 0. 1 becomes 1103527590: 16838, by 8: 6.
            Told one = Told.of("do set 24 1;");
            is(9, one.steps(9));
            is(1, one.years(0, 1, 2));
            is(0, one.years(1, 1, 2));
        });
        edges.sentence("YEARS: CRASHES (what 0), BAD ones (1), LEAKED (2).", () -> {
            // Without d the COUNT of 0 pends: a crash that loses it is BAD, and nothing leaks then.
            Told heap = Told.of("without d;leak 9;do set 24 1;");
            is(12, heap.steps(50));
            int seen = 0;
            for (int seed = 0; seed < 500 && seen < 30; seed++) {
                Draws draws = new Draws(seed);
                if (draws.of(8) == 5) {
                    seen++;
                    boolean isLost = draws.of(2) == 0;
                    year(heap, seed, 1, isLost ? 1 : 0, isLost ? 1 : 2);
                }
            }
            is(30, seen);
        });
        edges.sentence("how many BLOCKS are LEAKED at the end, as MEDIA has them", () -> {
            Told heap = Told.of(BARE + "do set 24 1,set 60 1;");
            is(9, heap.steps(9));
            is(513, heap.shape(0, 1));
            is(0, heap.years(1, 0, 2));
            is(0, heap.evict(15, 1));
            is(1, heap.years(1, 0, 2));
            is(0, heap.evict(6, 1));
            is(2, heap.years(1, 0, 2));
        });
    }

    private static void yearsStepByStep() {
        edges.sentence("a DRAW of 8: 0 to 3: STEPS are made, a DRAW of 6 and 1", () -> {
            for (int made : new int[] {3, 4, 5, 9}) {
                Told heap = Told.of("do set 24 1;");
                is(made, heap.steps(made));
                // By the tenth step a block leaks in MEDIA.
                for (int seed : seeds()) {
                    Draws draws = new Draws(seed);
                    if (draws.of(8) < 4) {
                        year(heap, seed, 0, 0, made + draws.of(6) + 1 >= 10 ? 1 : 0);
                    }
                }
            }
        });
        edges.sentence("4: the first PENDING STORE of the LINE of a DRAW of 16 REACHES MEDIA, if it has one", () -> {
            Told heap = Told.of(BARE + "do set 24 1,set 24 2,set 60 1,set 36 1;");
            is(17, heap.steps(17));
            int seen = 0;
            for (int seed = 0; seed < 600 && seen < 40; seed++) {
                Draws draws = new Draws(seed);
                if (draws.of(8) == 4) {
                    seen++;
                    int line = draws.of(16);
                    year(heap, seed, 0, 0, line == 6 || line == 15 || line == 9 ? 1 : 0);
                }
            }
            is(40, seen);
        });
        edges.sentence("5: a CRASH (if it isn't DOWN) by the ORDER that is, LINE by LINE that has some, a DRAW of how many PEND and 1", () -> {
            Told heap = Told.of(BARE + "do set 24 1,set 24 2,set 60 1;");
            is(13, heap.steps(13));
            is(0, heap.evict(0, 4));
            is(0, heap.evict(1, 4));
            is(0, heap.evict(2, 2));
            int seen = 0;
            for (int seed = -300; seed < 300 && seen < 50; seed++) {
                Draws draws = new Draws(seed);
                if (draws.of(8) == 5) {
                    seen++;
                    int six = draws.of(3);
                    int last = draws.of(2);
                    year(heap, seed, 1, six == 2 && last == 1 ? 0 : 1, (six == 1 ? 1 : 0) + last);
                }
            }
            is(50, seen);
        });
        edges.sentence("then (DOWN, also if it was) MEDIA is RECOVERED at once, and it RUNS", () -> {
            Told heap = Told.of("do set 24 1;");
            is(8, heap.steps(8));
            is(0, heap.crash(1));
            for (int seed : seeds()) {
                Draws draws = new Draws(seed);
                boolean isUp = draws.of(8) == 5;
                year(heap, seed, 0, 0, isUp ? 0 : 1);
                if (isUp) {
                    is(draws.of(8) == 5 ? 1 : 0, heap.years(seed, 2, 0));
                }
            }
            is(1, heap.count(0));
        });
        edges.sentence("how many CRASHES; how many of these were BAD", () -> {
            // Without d a crash may lose the COUNT of 0; what was lost is well from then on.
            Told heap = Told.of("without d;do set 40 1;");
            is(12, heap.steps(50));
            int seen = 0;
            for (int seed = 0; seed < 4000 && seen < 6; seed++) {
                Draws draws = new Draws(seed);
                if (draws.of(8) == 5 && draws.of(2) == 0 && draws.of(8) == 5) {
                    seen++;
                    is(2, heap.years(seed, 2, 0));
                    is(1, heap.years(seed, 2, 1));
                }
            }
            is(6, seen);
        });
    }

    /** What years come to, by acts that are the same: crashes, bad ones, and what leaks then. */
    private static int[] lived(Told heap, int seed, int n) {
        Draws draws = new Draws(seed);
        int crashes = 0;
        int bad = 0;
        for (int i = 0; i < n; i++) {
            int what = draws.of(8);
            if (what < 4) {
                heap.steps(draws.of(6) + 1);
            } else if (what == 4) {
                int line = draws.of(16);
                if (heap.pending(line) > 0) {
                    heap.evict(line, 1);
                }
            } else if (what == 5) {
                int order = 0;
                for (int line = 0; line < 16; line++) {
                    int many = (int) heap.pending(line) + 1;
                    order = order * many + (many > 1 ? draws.of(many) : 0);
                }
                crashes++;
                bad += heap.crash(order) == 3 ? 1 : 0;
                heap.recover();
                heap.steps(50);
            } else {
                int root = draws.of(4);
                heap.later(what - 6, root, what == 6 ? draws.of(10) : 0);
            }
        }
        return new int[] {crashes, bad, Long.bitCount(heap.shape(1, 1))};
    }

    private static void yearsThatWait() {
        edges.sentence("YEARS by a seed: n times (0 to 30) from now on: a DRAW of 8", () -> {
            // What acts come to, years do, too: a 'new', then its steps, with a crash behind them.
            String[] texts = {"without a b e;chain 0 0 1 2 3;data 4 5 5;data 5 3 3;", "redo;without a b e;data 0 5 0;data 1 4 0;"};
            int seen = 0;
            for (int seed = 0; seed < 1000000 && seen < 300; seed++) {
                if (isSimple(seed, 7)) {
                    seen++;
                    for (String text : texts) {
                        int[] due = lived(Told.of(text), seed, 7);
                        Told heap = Told.of(text);
                        for (int what = 0; what < 3; what++) {
                            is(due[what], heap.years(seed, 7, what));
                        }
                    }
                }
            }
            is(300, seen);
        });
        edges.sentence("comes to those that WAIT, if they are fewer than 12 (drawn all the same)", () -> {
            // A 'new' that comes, four steps of it at least, and line 6 reached: a block leaks.
            Told eleven = Told.of(BARE + "do sweep;".repeat(11));
            Told twelve = Told.of(BARE + "do sweep;".repeat(12));
            int seen = 0;
            for (int seed = 0; seed < 100000 && seen < 5; seed++) {
                Draws draws = new Draws(seed);
                boolean isNew = draws.of(8) == 6;
                draws.of(4);
                draws.of(10);
                if (isNew && draws.of(8) < 4 && draws.of(6) >= 3 && draws.of(8) == 4 && draws.of(16) == 6) {
                    seen++;
                    is(1, eleven.years(seed, 3, 2));
                    is(0, twelve.years(seed, 3, 2));
                }
            }
            is(5, seen);
        });
        edges.sentence("(drawn all the same)", () -> {
            Told heap = Told.of("do sweep;".repeat(12));
            is(2, heap.crash(0));
            int seen = 0;
            for (int seed = 0; seed < 3000 && seen < 30; seed++) {
                Draws draws = new Draws(seed);
                int what = draws.of(8);
                if (what > 5) {
                    seen++;
                    draws.of(4);
                    if (what == 6) {
                        draws.of(10);
                    }
                    boolean isUp = draws.of(8) == 5;
                    boolean isCrash = isUp && draws.of(8) == 5;
                    is(isCrash ? 1 : 0, heap.years(seed, 3, 0));
                }
            }
            is(30, seen);
        });
        edges.sentence("6: 'new' of a DRAW of 4, a DRAW of 10, 7: 'drop' of a DRAW of 4", () -> {
            // ROOT 2 alone has a block, which leaks as line 5 is reached behind four to six steps.
            Told heap = Told.of(BARE + "chain 2 7;");
            int seen = 0;
            for (int seed = 0; seed < 200000 && seen < 12; seed++) {
                Draws draws = new Draws(seed);
                boolean isDrop = draws.of(8) == 7;
                int root = draws.of(4);
                if (isDrop && draws.of(8) < 4 && draws.of(6) >= 3 && draws.of(8) == 4 && draws.of(16) == 5) {
                    seen++;
                    is(root == 2 ? 1 : 0, heap.years(seed, 3, 2));
                }
            }
            is(12, seen);
        });
    }

    private static void status() {
        edges.sentence("STATUS: how many calls were refused: 0 TEXTS with a FAULT, 1 ACTS, 2 what is SEEN.", () -> {
            Told heap = new Told();
            is(-1, heap.undo());
            is(0, heap.restore());
            is(Told.ILLEGAL, heap.heap(1));
            is(Told.NO_SUCH, heap.count(20));
            is(Told.NO_SUCH, heap.word(64, true));
            is(Told.NO_SUCH, heap.line(16, 0));
            is(Told.NO_SUCH, heap.micro(0, 0));
            is(Told.NO_SUCH, heap.shape(3, 0));
            is(Told.NO_SUCH, heap.evict(16, 1));
            is(Told.NO_SUCH, heap.later(5, 0, 0));
            is(Told.NO_SUCH, heap.site(7));
            is(Told.NO_SUCH, heap.recovered(0, 64));
            is(Told.ILLEGAL, heap.fate(1));
            is(Told.NO_SUCH, heap.check(3));
            is(-1, heap.needless());
            is(-1, heap.least(0));
            is(Told.ILLEGAL, heap.years(0, 31, 0));
            for (int what = 17; what < 20; what++) {
                is(0, heap.count(what));
            }
            is(1, heap.tell("x"));
            is(-1, heap.steps(1));
            is(-1, heap.evict(0, 1));
            is(-1, heap.crash(1));
            is(-1, heap.recover());
            is(-1, heap.later(0, 4, 0));
            is(-1, heap.see(64, 0));
            is(-1, heap.see(0, -1));
            is(1, heap.count(17));
            is(5, heap.count(18));
            is(2, heap.count(19));
            is(0, heap.tell("redo;"));
            is(1, heap.count(17));
            is(5, heap.count(18));
            is(2, heap.count(19));
        });
    }

    private static Told busy() {
        Told heap = Told.of("redo;do drop 0;do set 40 5;do set 41 6;");
        is(4, heap.steps(4));
        is(1, heap.see(40, 5));
        is(-1, heap.see(64, 5));
        is(-1, heap.recover());
        is(2, heap.site(1));
        return heap;
    }

    private static void images() {
        edges.sentence("AN IMAGE OF ALL keeps all that ACTS change, ACTS that are kept, what is SEEN, STATUS.", () -> {
            Told heap = busy();
            heap.image();
            is(9, heap.steps(9));
            is(2, heap.later(0, 1, 7));
            is(3, heap.steps(3));
            is(1, heap.evict(1, 1));
            is(0, heap.crash(0));
            is(0, heap.recover());
            heap.undo();
            heap.undo();
            heap.undo();
            heap.forget();
            heap.see(1, 1);
            heap.see(2, 2);
            heap.tell("x");
            heap.steps(0);
            heap.see(-1, 0);
            is(1, heap.restore());
            is(0, heap.count(17));
            Told same = busy();
            same.tell("x");
            same.image();
            heap.tell("x");
            is(1, heap.count(17));
            edges.alike(same, heap);
            is(1, heap.undo());
            is(0, heap.count(2));
            is(0, heap.undo());
            is(3, heap.count(3));
            is(-1, heap.undo());
        });
        edges.sentence("AN IMAGE OF ALL is kept, in place of another one.", () -> {
            Told heap = new Told();
            heap.image();
            is(1, heap.site(0));
            heap.image();
            is(3, heap.site(1));
            is(1, heap.restore());
            is(1, heap.count(2));
            is(1, heap.count(14));
            is(0, heap.undo());
            is(1, heap.restore());
            is(1, heap.count(2));
            is(0, heap.count(18));
        });
        edges.sentence("It is as the IMAGE OF ALL again: true. False: there is none.", () -> {
            Told heap = new Told();
            is(0, heap.restore());
            is(1, heap.site(0));
            is(0, heap.restore());
            is(1, heap.count(2));
            heap.image();
            is(1, heap.restore());
            is(1, heap.restore());
            is(1, heap.tell("x"));
            is(1, heap.restore());
            is(1, heap.count(2));
            // The tape, the place of a fault are none of it.
            is(0, heap.fault());
            heap.put("redo;");
            is(1, heap.restore());
            is(20, heap.count(16));
            is(0, heap.heap(5));
            is(0, heap.restore());
            is(1, heap.count(1));
            heap.image();
            is(1, heap.restore());
        });
        edges.sentence("ACTS that are kept, what is SEEN", () -> {
            Told heap = new Told();
            for (int i = 0; i < 43; i++) {
                heap.site(i % 7);
            }
            for (int i = 0; i < 8; i++) {
                heap.see(i, 0);
            }
            heap.image();
            for (int i = 0; i < 40; i++) {
                heap.undo();
            }
            is(0, heap.count(14));
            for (int i = 0; i < 41; i++) {
                heap.later(4, 0, 0);
                heap.undo();
            }
            heap.forget();
            is(1, heap.see(63, 9));
            is(0, heap.explained(0));
            is(1, heap.restore());
            is(8, heap.count(15));
            is(1, heap.explained(0));
            is(-1, heap.see(0, 0));
            int bits = 1;
            is(bits, heap.count(2));
            for (int i = 42; i >= 3; i--) {
                is(i - 3, heap.undo());
                bits ^= 1 << i % 7;
                is(bits, heap.count(2));
            }
            is(7, bits);
            is(-1, heap.undo());
        });
    }
}
