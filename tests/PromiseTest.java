import java.util.NoSuchElementException;

/** For each promise of the document: ordinary inputs, the edges it names, wrong inputs; what is due is worked out by hand. */
public final class PromiseTest {
    private static int wrong = 0;
    private static int asked = 0;
    private static int promise = 0;

    interface Call {
        long ask();
    }

    static final long NO_SUCH = Long.MIN_VALUE;
    static final long ILLEGAL = Long.MIN_VALUE + 1;
    static final long OTHER = Long.MIN_VALUE + 2;

    static long outcome(Call call) {
        try {
            return call.ask();
        } catch (NoSuchElementException e) {
            return NO_SUCH;
        } catch (IllegalArgumentException e) {
            return ILLEGAL;
        } catch (RuntimeException e) {
            return OTHER;
        }
    }

    static void due(String what, long want, Call call) {
        asked++;
        long got = outcome(call);
        if (got != want) {
            wrong++;
            System.out.println("promise " + promise + ": " + what + " answered " + told(got) + ", due is " + told(want));
        }
    }

    static String told(long answer) {
        return answer == NO_SUCH ? "NoSuchElementException" : answer == ILLEGAL ? "IllegalArgumentException"
            : answer == OTHER ? "another exception" : String.valueOf(answer);
    }

    static void feed(FenceHeap heap, String text) {
        for (int i = 0; i < text.length(); i += 20) {
            int[] n = new int[5];
            for (int k = 0; k < 20; k++) {
                n[k / 4] = n[k / 4] << 8 | (i + k < text.length() ? text.charAt(i + k) : ' ');
            }
            heap.feed(n[0], n[1], n[2], n[3], n[4]);
        }
    }

    static FenceHeap of(String text) {
        FenceHeap heap = new FenceHeap();
        feed(heap, text);
        due("heap of " + text, 0, () -> heap.heap(text.length()));
        return heap;
    }

    static void steps(FenceHeap heap, int many) {
        due("steps(" + many + ")", many, () -> heap.steps(many));
    }

    static void fault(String text, int code, int place) {
        FenceHeap heap = new FenceHeap();
        feed(heap, text);
        due("heap of '" + text + "'", code, () -> heap.heap(text.length()));
        due("fault of '" + text + "'", place, heap::fault);
        due("texts refused, of '" + text + "'", code == 0 ? 0 : 1, () -> heap.count(17));
    }

    static void fault(String text, int code, String from) {
        fault(text, code, text.lastIndexOf(from));
    }

    public static void main(String[] args) {
        Runnable[] all = {PromiseTest::anew, PromiseTest::feeds, PromiseTest::texts, PromiseTest::faults,
            PromiseTest::counts, PromiseTest::words, PromiseTest::lines, PromiseTest::micros, PromiseTest::orders,
            PromiseTest::shapes, PromiseTest::stepsMade, PromiseTest::evicts, PromiseTest::crashes,
            PromiseTest::recoveries, PromiseTest::laters, PromiseTest::sites, PromiseTest::undoes,
            PromiseTest::recovereds, PromiseTest::fates, PromiseTest::checks, PromiseTest::needless, PromiseTest::least,
            PromiseTest::chances, PromiseTest::seen, PromiseTest::explained, PromiseTest::looks, PromiseTest::forgets,
            PromiseTest::years, PromiseTest::images, PromiseTest::restores};
        for (Runnable one : all) {
            promise++;
            one.run();
        }
        System.out.println("PromiseTest: " + asked + " answers of " + all.length + " promises, " + wrong + " wrong");
        System.exit(wrong == 0 && all.length == 30 ? 0 : 1);
    }

    static void anew() {
        FenceHeap heap = new FenceHeap();
        FenceHeap told = of("");
        for (int i = 0; i < 20; i++) {
            int what = i;
            due("count(" + what + ")", 0, () -> heap.count(what));
            due("count(" + what + ") by an empty text", 0, () -> told.count(what));
        }
        for (int i = 0; i < 64; i++) {
            int word = i;
            due("word(" + word + ")", 0, () -> heap.word(word, false));
            due("word(" + word + ") of media", 0, () -> heap.word(word, true));
        }
        due("fault()", -1, heap::fault);
        due("orders()", 1, heap::orders);
        due("restore()", 0, () -> heap.restore() ? 1 : 0);
        due("undo()", -1, heap::undo);
        due("NONE", -1, () -> FenceHeap.NONE);
        due("TOO_MANY", -2, () -> FenceHeap.TOO_MANY);
    }

    static void feeds() {
        FenceHeap heap = new FenceHeap();
        for (int i = 1; i <= 35; i++) {
            due("feed " + i, 20 * i, () -> heap.feed(0x20202020, 0x20202020, 0x20202020, 0x20202020, 0x20202020));
        }
        due("feed 36", -1, () -> heap.feed(1, 2, 3, 4, 5));
        due("bytes", 700, () -> heap.count(16));
        due("heap(700)", 0, () -> heap.heap(700));
        due("bytes behind", 0, () -> heap.count(16));
        due("feed", 20, () -> heap.feed(0xe9 << 24, -1, 0, 0, 0));
        due("a byte of 233", 1, () -> heap.heap(20));
        due("its place", 0, heap::fault);
        // The highest byte of each number comes first: "re", "do;".
        due("feed", 20, () -> heap.feed(0x7265646f, 0x3b646f20, 0x73776565, 0x703b2020, 0x0a0a0a0a));
        due("heap(20)", 0, () -> heap.heap(20));
        due("mode", 1, () -> heap.count(1));
        due("waits", 1, () -> heap.count(3));
    }

    static void texts() {
        FenceHeap heap = of("redo;without a g;chain 3 9 0 4;leak 5;data 0 7 99;data 8 1 0;do new 0 9,drop 3;do sweep;");
        due("mode", 1, () -> heap.count(1));
        due("sites", 65, () -> heap.count(2));
        due("waits", 2, () -> heap.count(3));
        int[] media = new int[64];
        media[23] = 60;
        media[60] = 1;
        media[61] = 24;
        media[24] = 1;
        media[25] = 40;
        media[40] = 1;
        media[44] = 1;
        media[26] = 7;
        media[27] = 99;
        media[58] = 1;
        for (int i = 0; i < 64; i++) {
            int word = i;
            due("word(" + word + ")", media[word], () -> heap.word(word, true));
        }
        // Only its first bytes are the text, the others are gone.
        feed(heap, "undo;chain 0 1;xxx");
        due("heap(5)", 0, () -> heap.heap(5));
        due("mode", 0, () -> heap.count(1));
        due("tape", 0, () -> heap.count(16));
        due("word(23)", 0, () -> heap.word(23, true));
        due("waits", 0, () -> heap.count(3));
        throwsChangeNothing();
        faultKeepsAll();
        FenceHeap narrow = of("do\nsweep,set20 0,set63 99 ; \n redo;");
        due("waits", 1, () -> narrow.count(3));
    }

    static void throwsChangeNothing() {
        FenceHeap heap = of("do set 40 5;");
        feed(heap, "redo;");
        due("heap(21)", ILLEGAL, () -> heap.heap(21));
        due("heap(-1)", ILLEGAL, () -> heap.heap(-1));
        due("tape", 20, () -> heap.count(16));
        due("waits", 1, () -> heap.count(3));
        due("texts refused", 0, () -> heap.count(17));
        due("heap(20)", 0, () -> heap.heap(20));
        due("mode", 1, () -> heap.count(1));
    }

    static void faultKeepsAll() {
        FenceHeap heap = of("do set 40 5;");
        steps(heap, 3);
        heap.see(4, 40);
        heap.image();
        steps(heap, 1);
        feed(heap, "redo;chain 1 1;x");
        due("heap with a fault", 1, () -> heap.heap(16));
        due("place", 15, heap::fault);
        due("tape", 0, () -> heap.count(16));
        due("mode", 0, () -> heap.count(1));
        due("word(21)", 0, () -> heap.word(21, true));
        due("acts", 2, () -> heap.count(14));
        due("seen", 1, () -> heap.count(15));
        due("micros", 9, () -> heap.count(4));
        due("texts refused", 1, () -> heap.count(17));
        due("restore", 1, () -> heap.restore() ? 1 : 0);
        due("micros", 10, () -> heap.count(4));
        due("texts refused", 0, () -> heap.count(17));
        due("place stays", 15, heap::fault);
        due("heap(0)", 0, () -> heap.heap(0));
        due("place", -1, heap::fault);
        due("acts", 0, () -> heap.count(14));
        due("seen", 0, () -> heap.count(15));
        due("steps ever", 0, () -> heap.count(9));
        due("image is gone", 0, () -> heap.restore() ? 1 : 0);
        statusStaysOverTexts();
    }

    static void statusStaysOverTexts() {
        FenceHeap heap = of("");
        feed(heap, "x");
        heap.heap(1);
        heap.steps(0);
        heap.recover();
        heap.see(64, 0);
        heap.see(-1, 0);
        heap.see(0, 1000);
        feed(heap, "redo;");
        due("a text without a fault", 0, () -> heap.heap(5));
        due("texts refused", 1, () -> heap.count(17));
        due("acts refused", 2, () -> heap.count(18));
        due("sights refused", 3, () -> heap.count(19));
        feed(heap, "x");
        heap.heap(1);
        due("an empty text", 0, () -> heap.heap(0));
        due("texts refused, counted on", 2, () -> heap.count(17));
    }

    static void faults() {
        fault("", 0, -1);
        fault(" \n ", 0, -1);
        fault(";", 1, 0);
        fault("undo", 1, 4);
        fault("undo \n ", 1, 7);
        fault("undo,", 1, ",");
        fault("undos;", 1, 0);
        fault("Undo;", 1, 0);
        fault("\tundo;", 1, 0);
        fault("undo;\rundo;", 1, 5);
        fault("7;", 1, 0);
        fault("undo;undo;", 4, 5);
        fault("redo;\nundo;", 4, 6);
        fault("without;", 1, ";");
        fault("without h;", 1, "h");
        fault("without ab;", 1, "ab");
        fault("without a b c d e f g;", 0, -1);
        fault("without a b c d e f g a;", 4, "a;");
        fault("without a;without b a;", 4, "a;");
        fault("without a 1;", 1, "1");
        fault("chain;", 1, ";");
        fault("chain 0;", 1, ";");
        fault("chain a 0;", 1, "a 0");
        fault("chain 4 0;", 2, "4");
        fault("chain 0 10;", 2, "10");
        fault("chain 0 1 0005;", 2, "0005");
        fault("chain 000 001;", 0, -1);
        fault("chain 0 1 2 1;", 3, "1;");
        fault("chain 0 1;chain 1 1;", 3, "1;");
        fault("chain 0 1;chain 0 2;", 4, "0 2");
        fault("chain 0 0 1 2 3 4 5 6 7 8 9;", 0, -1);
        fault("chain 0 0 1 2 3 4 5 6 7 8 9 0;", 3, "0;");
        fault("chain 0 0 1 2 3 4 5 6 7 8 9,", 1, ",");
        fault("leak 3;leak 3;", 3, "3;");
        fault("chain 0 3;leak 3;", 3, "3;");
        fault("leak 3;chain 0 3;", 3, "3;");
        fault("leak 3 4;", 1, "4");
        fault("leak 10;", 2, "10");
        fault("data 1 2 3;data 1 2 3;", 3, "1 2");
        fault("data 1 2;", 1, ";");
        fault("data 1 100 2;", 2, "100");
        fault("data 1 2 1000;", 2, "1000");
        fault("data 1 99 99;leak 1;", 0, -1);
        fault("data 1 2 3 4;", 1, "4");
        fault("do;", 1, ";");
        fault("do new 0 100;", 2, "100");
        fault("do new 4 1;", 2, "4");
        fault("do new 0;", 1, ";");
        fault("do drop 0 1;", 1, "1");
        fault("do move 1 1;", 3, "1;");
        fault("do move 1 4;", 2, "4");
        fault("do set 19 1;", 2, "19");
        fault("do set 64 1;", 2, "64");
        fault("do set 20 0,set 63 99;", 0, -1);
        fault("do sweep,;", 1, ";");
        fault("do sweep,sweep,sweep,sweep;", 0, -1);
        fault("do sweep,sweep,sweep,sweep,sweep;", 2, "sweep;");
        fault("do sweep,sweep,sweep,sweep,swee;", 1, "swee;");
        fault("do sweep,sweep,sweep,sweep,", 1, 27);
        fault("do sweep sweep;", 1, "sweep;");
        String twelve = "do sweep;".repeat(12);
        fault(twelve, 0, -1);
        fault(twelve + " do sweep;", 2, 109);
        fault("do 1;", 1, "1");
        fault("do newer 0 1;", 1, "newer");
        fault("chain 0 12345678901234567890;", 2, "12345678901234567890");
        fault("12345;", 1, 0);
        fault("undoz;", 1, 0);
        fault("xndo;", 1, 0);
        fault("without b a;", 0, -1);
        fault("without a a;", 4, "a;");
        fault("data 10 1 1;", 2, "10");
        fault("data 9 0 0;", 0, -1);
    }

    static void counts() {
        FenceHeap heap = of("without b;do drop 1;do set 40 5;do set 41 6;");
        steps(heap, 5);
        int[] want = {0, 0, 2, 1, 7, 0, 1, 0, 0, 5, 3, 1, 1, 1, 1, 0, 0, 0, 0, 0};
        for (int i = 0; i < 20; i++) {
            int what = i;
            due("count(" + what + ")", want[what], () -> heap.count(what));
        }
        due("steps to the end", 7, () -> heap.steps(7));
        due("done", 1, () -> heap.count(5));
        due("in flight", 0, () -> heap.count(4));
        heap.crash(0);
        due("state", 1, () -> heap.count(0));
        due("crashes", 1, () -> heap.count(7));
        heap.recover();
        due("recoveries", 1, () -> heap.count(8));
        due("count(-1)", NO_SUCH, () -> heap.count(-1));
        due("count(20)", NO_SUCH, () -> heap.count(20));
    }

    static void words() {
        FenceHeap heap = of("chain 0 0;do set 20 99;");
        steps(heap, 8);
        due("word(20) as it is", 99, () -> heap.word(20, false));
        due("word(20) of media", 24, () -> heap.word(20, true));
        steps(heap, 2);
        due("word(20) of media", 99, () -> heap.word(20, true));
        due("word(63)", 0, () -> heap.word(63, false));
        due("word(-1)", NO_SUCH, () -> heap.word(-1, true));
        due("word(64)", NO_SUCH, () -> heap.word(64, false));
    }

    static void lines() {
        FenceHeap heap = of("do set 40 5;");
        steps(heap, 2);
        due("line(1, -1)", 2, () -> heap.line(1, -1));
        due("line(1, -2)", 0, () -> heap.line(1, -2));
        due("line(1, 0)", 440, () -> heap.line(1, 0));
        due("line(1, 1)", 500, () -> heap.line(1, 1));
        due("line(1, 2)", NO_SUCH, () -> heap.line(1, 2));
        due("line(1, -3)", NO_SUCH, () -> heap.line(1, -3));
        steps(heap, 1);
        due("asked", 2, () -> heap.line(1, -2));
        heap.evict(1, 1);
        due("pending", 1, () -> heap.line(1, -1));
        due("asked", 1, () -> heap.line(1, -2));
        due("line(1, 0)", 500, () -> heap.line(1, 0));
        due("line(-1, -1)", NO_SUCH, () -> heap.line(-1, -1));
        due("line(16, -1)", NO_SUCH, () -> heap.line(16, -1));
        fullLine();
    }

    // A line has six at most: behind a seventh the eldest has reached media, asked or not.
    static void fullLine() {
        FenceHeap heap = of("without a b c d e f g;do set 40 1,set 40 2,set 40 3,set 40 4;do set 40 5,set 40 6,set 40 7;");
        steps(heap, 16 + 1);
        due("pending", 4, () -> heap.line(10, -1));
        steps(heap, 12);
        due("pending", 6, () -> heap.line(10, -1));
        due("eldest", 4002, () -> heap.line(10, 0));
        due("youngest", 4007, () -> heap.line(10, 5));
        due("media", 1, () -> heap.word(40, true));
        due("orders", 7L * 7 * 7 * 7, () -> heap.line(0, -1) == 6 ? heap.orders() : -1);
    }

    static void micros() {
        FenceHeap heap = of("do set 40 5;");
        due("micro of none", NO_SUCH, () -> heap.micro(0, 0));
        steps(heap, 1);
        int[][] want = {{0, 5, 0}, {1, 1, -1}, {2, -1, -1}, {0, 0, 1}, {1, 0, -1}, {2, -1, -1}, {0, 40, 5}, {1, 10, -1},
            {2, -1, -1}, {0, 0, 0}, {1, 0, -1}, {2, -1, -1}};
        allMicros(heap, want);
        FenceHeap redo = of("redo;do set 40 5,set 41 6,set 24 7;");
        steps(redo, 1);
        int[][] redone = {{0, 5, 5}, {1, 1, -1}, {0, 6, 41}, {0, 7, 6}, {1, 1, -1}, {0, 8, 24}, {0, 9, 7}, {1, 2, -1},
            {2, -1, -1}, {0, 0, 3}, {1, 0, -1}, {2, -1, -1}, {0, 40, 5}, {0, 41, 6}, {0, 24, 7}, {1, 10, -1}, {1, 6, -1},
            {2, -1, -1}, {0, 0, 0}, {1, 0, -1}, {2, -1, -1}};
        allMicros(redo, redone);
        FenceHeap bare = of("without a b c d e f g;do drop 0,set 20 9;chain 0 2;");
        steps(bare, 1);
        int[][] stores = {{0, 5, 32}, {0, 0, 1}, {0, 20, 0}, {0, 6, 32}, {0, 7, 1}, {0, 0, 2}, {0, 32, 0}, {0, 8, 20},
            {0, 9, 0}, {0, 0, 3}, {0, 20, 9}, {0, 0, 0}};
        allMicros(bare, stores);
        bare.site(0);
        allMicros(bare, stores);
        FenceHeap moved = of("redo;without a b c d e f g;chain 0 2 3;chain 1 4;do move 0 1,new 1 8;");
        steps(moved, 14 + 1);
        int[][] writes = {{0, 20, 36}, {0, 33, 40}, {0, 21, 32}, {0, 24, 1}, {0, 25, 32}, {0, 26, 8}, {0, 21, 24}, {0, 0, 0}};
        allMicros(moved, writes);
    }

    static void allMicros(FenceHeap heap, int[][] want) {
        due("left", want.length, () -> heap.count(4));
        for (int i = 0; i < want.length; i++) {
            for (int k = 0; k < 3; k++) {
                int micro = i;
                int what = k;
                due("micro(" + i + ", " + k + ")", want[i][k], () -> heap.micro(micro, what));
            }
        }
        due("micro behind", NO_SUCH, () -> heap.micro(want.length, 0));
        due("micro(-1, 0)", NO_SUCH, () -> heap.micro(-1, 0));
        due("micro(0, 3)", NO_SUCH, () -> heap.micro(0, 3));
        due("micro(0, -1)", NO_SUCH, () -> heap.micro(0, -1));
    }

    static void orders() {
        FenceHeap heap = of("without a b c d e f g;do new 0 1,new 1 2;do new 2 3,new 3 4;do drop 0,drop 1,drop 2,drop 3;"
            + "do new 0 1,new 1 2;do new 2 3,new 3 4;");
        steps(heap, 2);
        due("orders()", 3, heap::orders);
        steps(heap, 2);
        due("orders()", 3 * 2 * 2, heap::orders);
        steps(heap, 29);
        due("done", 1, () -> heap.count(5));
        due("orders()", 7L * 5 * 5 * 5 * 5 * 3 * 4 * 4, heap::orders);
        for (int i = 0; i < 3; i++) {
            heap.steps(50);
        }
        due("orders()", 7L * 7 * 7 * 7 * 7 * 7 * 7 * 7 * 7 * 7, heap::orders);
        due("crash by an order far out", 3, () -> heap.crash(Integer.MAX_VALUE % 282475249));
        due("orders()", 1, heap::orders);
    }

    static void shapes() {
        FenceHeap heap = of("chain 0 0 1 2;chain 1 3;leak 5;do set 33 24;do set 21 25;do set 22 99,set 23 3;do set 40 2;");
        int[] first = {15, 32, 47, 0, 0};
        allShapes(heap, 0, first);
        steps(heap, 8);
        due("BLOCK 2 leads to BLOCK 0", 1, () -> heap.shape(0, 4));
        due("not yet in media", 0, () -> heap.shape(1, 4));
        steps(heap, 2);
        due("now in media", 1, () -> heap.shape(1, 4));
        due("undone, if recovered", 0, () -> heap.shape(2, 4));
        steps(heap, 3);
        steps(heap, 13);
        int[] second = {7, 40, 47, 2, 1};
        allShapes(heap, 0, second);
        steps(heap, 8 + 8 + 5);
        int[] third = {7, 40, 47, 14, 1};
        allShapes(heap, 0, third);
        steps(heap, 13);
        due("a header of 2 is neither", 47, () -> heap.shape(1, 2));
        FenceHeap torn = of("chain 0 0 1;leak 2;do set 28 2;");
        steps(torn, 13);
        int[] neither = {1, 4, 5, 1, 0};
        allShapes(torn, 1, neither);
        FenceHeap ten = of("chain 0 9 8 7 6 5 4 3 2 1 0;do set 25 60;do set 25 64;do set 23 64;");
        steps(ten, 13);
        int[] round = {1023, 0, 1023, 0, 1};
        allShapes(ten, 1, round);
        steps(ten, 13);
        int[] end = {1023, 0, 1023, 1, 0};
        allShapes(ten, 1, end);
        steps(ten, 13);
        int[] beyond = {1023, 0, 1023, 9, 0};
        allShapes(ten, 1, beyond);
        due("shape(-1, 0)", NO_SUCH, () -> heap.shape(-1, 0));
        due("shape(3, 0)", NO_SUCH, () -> heap.shape(3, 0));
        due("shape(0, -1)", NO_SUCH, () -> heap.shape(0, -1));
        due("shape(0, 5)", NO_SUCH, () -> heap.shape(0, 5));
    }

    static void allShapes(FenceHeap heap, int of, int[] want) {
        for (int i = 0; i < 5; i++) {
            int what = i;
            due("shape(" + of + ", " + what + ")", want[what], () -> heap.shape(of, what));
        }
    }

    static void stepsMade() {
        FenceHeap heap = of("do drop 0;do set 40 5;do drop 0;");
        due("steps(0)", -1, () -> heap.steps(0));
        due("steps(51)", -1, () -> heap.steps(51));
        due("steps(-1)", -1, () -> heap.steps(-1));
        due("refused", 3, () -> heap.count(18));
        steps(heap, 13);
        due("the void one behind waits", 1, () -> heap.count(3));
        due("the void one ahead is gone", 1, () -> heap.count(6));
        due("steps(1)", -1, () -> heap.steps(1));
        due("the void one stays", 1, () -> heap.count(3));
        due("void", 1, () -> heap.count(6));
        FenceHeap more = of("do drop 0;do set 40 5;do drop 0;");
        due("steps(14)", 13, () -> more.steps(14));
        due("both are gone", 0, () -> more.count(3));
        due("void", 2, () -> more.count(6));
        due("done", 1, () -> more.count(5));
        due("word(40)", 5, () -> more.word(40, true));
        heap.crash(0);
        due("steps as it is down", -1, () -> heap.steps(1));
        voids();
    }

    static void voids() {
        String[] none = {"do drop 0;", "do move 0 1;", "do sweep;", "do set 20 25,drop 0;", "do set 20 64,drop 0;", "do set 20 64,move 0 1;",
            "do set 24 2,set 20 24,drop 0;",
            "do new 0 1,new 1 2,set 40 1;", "chain 0 0 1 2 3 4 5 6 7 8 9;do new 1 1;", "do drop 0,set 40 1;",
            "leak 0;leak 1;leak 2;leak 3;leak 4;leak 5;leak 6;leak 7;leak 8;do sweep;", "chain 0 1;do sweep;",
            "do set 42 1,sweep;"};
        for (String text : none) {
            FenceHeap heap = of(text);
            due("steps of " + text, -1, () -> heap.steps(1));
            due("waits of " + text, 1, () -> heap.count(3));
        }
        FenceHeap eight = of("without a b c d e f g;leak 0;leak 1;leak 2;leak 3;leak 4;leak 5;leak 6;leak 7;do sweep;");
        due("eight writes", 33, () -> eight.steps(50));
        due("none in use", 0, () -> eight.shape(0, 2));
        FenceHeap own = of("redo;chain 0 4;do drop 0,new 1 7,set 22 48,sweep;");
        due("writes ahead count", -1, () -> own.steps(50));
        FenceHeap leaks = of("redo;chain 0 4 5;do set 20 0,sweep;");
        due("what a write ahead leaks is swept", 3 * 3 + 4 + 3 + 3 + 4, () -> leaks.steps(50));
        due("none in use", 0, () -> leaks.shape(1, 2));
        FenceHeap set = of("do set 24 1,set 20 24,drop 0;");
        due("a block that is set in use is dropped", 8 * 4 + 2 + 4, () -> set.steps(50));
        due("void", 0, () -> set.count(6));
        FenceHeap skip = of("do set 24 2,new 3 6;");
        due("a header of 2 is not free", 8 * 5 + 3 + 4, () -> skip.steps(50));
        due("root 3", 28, () -> skip.word(23, true));
        due("data", 6, () -> skip.word(30, true));
    }

    static void evicts() {
        FenceHeap heap = of("do set 40 5;");
        steps(heap, 2);
        due("evict(1, 3)", -1, () -> heap.evict(1, 3));
        due("evict(1, 0)", -1, () -> heap.evict(1, 0));
        due("evict(1, -1)", -1, () -> heap.evict(1, -1));
        due("evict(2, 1)", -1, () -> heap.evict(2, 1));
        due("refused", 4, () -> heap.count(18));
        due("evict(16, 1)", NO_SUCH, () -> heap.evict(16, 1));
        due("evict(-1, 1)", NO_SUCH, () -> heap.evict(-1, 1));
        due("refused", 4, () -> heap.count(18));
        due("evict(1, 1)", 1, () -> heap.evict(1, 1));
        due("media", 40, () -> heap.word(4, true));
        due("evict(1, 1)", 0, () -> heap.evict(1, 1));
        due("acts", 3, () -> heap.count(14));
    }

    static void crashes() {
        FenceHeap heap = of("do set 40 5;do set 41 6;");
        steps(heap, 8);
        due("crash(2)", -1, () -> heap.crash(2));
        due("crash(-1)", -1, () -> heap.crash(-1));
        due("crash(1)", 0, () -> heap.crash(1));
        due("state", 1, () -> heap.count(0));
        due("pending", 0, () -> heap.count(13));
        due("in flight", 0, () -> heap.count(4));
        due("media", 5, () -> heap.word(40, true));
        due("waits", 1, () -> heap.count(3));
        due("done", 0, () -> heap.count(5));
        due("crash as it is down", -1, () -> heap.crash(0));
        due("refused", 3, () -> heap.count(18));
        due("crashes", 1, () -> heap.count(7));
        heap.recover();
        steps(heap, 1);
        due("crash as it recovers", 2, () -> heap.crash(0));
        due("down", 1, () -> heap.count(0));
        FenceHeap bad = of("without a;do set 40 5,set 44 6;");
        steps(bad, 4);
        // The COUNT reaches, of the ENTRY nothing: what it tells then is address 0, which is none of the heap.
        due("crash by order 3", 0, () -> bad.crash(3));
        FenceHeap after = of("redo;do set 40 5;");
        steps(after, 8);
        due("crash once the count has reached", 1, () -> after.crash(0));
        FenceHeap both = of("do set 40 0;");
        steps(both, 8);
        due("before and after are alike", 2, () -> both.crash(0));
        FenceHeap lost = of("without d f;do set 40 5;");
        due("all steps", 10, () -> lost.steps(50));
        due("crash by order 0", 2, () -> lost.crash(0));
    }

    static void recoveries() {
        FenceHeap heap = of("chain 0 1;do drop 0,set 41 6;do set 50 1;");
        due("recover as it runs", -1, heap::recover);
        steps(heap, 24);
        due("the last write pends", 1, () -> heap.line(10, -1));
        heap.crash(1);
        due("recover()", 3 + 3 + 4, heap::recover);
        due("recover again", -1, heap::recover);
        due("refused", 2, () -> heap.count(18));
        int[][] want = {{0, 41, 0}, {0, 28, 1}, {0, 20, 28}, {1, 10, -1}, {1, 7, -1}, {1, 5, -1}, {2, -1, -1}, {0, 0, 0},
            {1, 0, -1}, {2, -1, -1}};
        allMicros(heap, want);
        due("state", 2, () -> heap.count(0));
        due("fate", 2, () -> heap.fate(0));
        steps(heap, 10);
        due("state", 0, () -> heap.count(0));
        due("done", 0, () -> heap.count(5));
        due("root 0", 28, () -> heap.word(20, true));
        due("word(41)", 0, () -> heap.word(41, true));
        due("count", 0, () -> heap.word(0, true));
        heap.crash(0);
        due("recover by a count of 0", 0, heap::recover);
        due("it runs at once", 0, () -> heap.count(0));
        due("recoveries", 2, () -> heap.count(8));
        due("the next begins", 13, () -> heap.steps(50));
        FenceHeap bare = of("without a b c d e f g;do set 40 5;");
        steps(bare, 3);
        bare.crash(3);
        due("no entry has reached: the count alone", 1, bare::recover);
        due("micro", 0, () -> bare.micro(0, 0));
        due("its address", 0, () -> bare.micro(0, 1));
        due("its number", 0, () -> bare.micro(0, 2));
        FenceHeap toggled = of("do set 40 5;");
        steps(toggled, 8);
        toggled.crash(0);
        toggled.site(6);
        toggled.site(3);
        due("sites as it begins", 4, toggled::recover);
    }

    static void laters() {
        FenceHeap heap = of("chain 2 4;leak 6;");
        due("later(5)", NO_SUCH, () -> heap.later(5, 0, 0));
        due("later(-1)", NO_SUCH, () -> heap.later(-1, 0, 0));
        int[][] none = {{0, 4, 0}, {0, -1, 0}, {0, 0, 100}, {0, 0, -1}, {1, 4, 0}, {1, -1, 0}, {2, 1, 1}, {2, 4, 0}, {2, 0, 4},
            {2, 0, -1}, {2, -1, 0}, {3, 19, 0}, {3, 64, 0}, {3, 20, 100}, {3, 20, -1}};
        for (int[] n : none) {
            due("later(" + n[0] + ", " + n[1] + ", " + n[2] + ")", -1, () -> heap.later(n[0], n[1], n[2]));
        }
        due("refused", none.length, () -> heap.count(18));
        due("acts", 0, () -> heap.count(14));
        int[][] some = {{0, 3, 99}, {1, 3, -7}, {2, 2, 0}, {3, 63, 99}, {4, -1, 999}, {0, 0, 0}, {3, 20, 0}};
        for (int i = 0; i < some.length; i++) {
            int[] n = some[i];
            due("later(" + n[0] + ", " + n[1] + ", " + n[2] + ")", i + 1, () -> heap.later(n[0], n[1], n[2]));
        }
        for (int i = 8; i <= 12; i++) {
            due("later", i, () -> heap.later(4, 0, 0));
        }
        due("the 13th", -1, () -> heap.later(4, 0, 0));
        due("steps of 'new' 3 99", 39 - 1, () -> heap.steps(38));
        due("data", 99, () -> heap.word(26, true));
        due("root 3", 24, () -> heap.word(23, true));
        due("steps of 'drop' 3", 22, () -> heap.steps(22));
        due("root 3", 0, () -> heap.word(23, true));
        due("steps of 'move' 2 0", 8 * 3 + 2 + 4, () -> heap.steps(30));
        due("root 0", 40, () -> heap.word(20, true));
        due("root 2", 0, () -> heap.word(22, true));
        due("steps of 'set' 63 99", 13, () -> heap.steps(13));
        due("word(63)", 99, () -> heap.word(63, true));
        due("steps of 'sweep'", 13, () -> heap.steps(13));
        due("none leaks", 0, () -> heap.shape(1, 1));
        due("waits", 7, () -> heap.count(3));
        heap.crash(0);
        due("later as it is down", 8, () -> heap.later(1, 0, 0));
    }

    static void sites() {
        FenceHeap heap = of("do set 40 5;do set 41 6;");
        due("site(7)", NO_SUCH, () -> heap.site(7));
        due("site(-1)", NO_SUCH, () -> heap.site(-1));
        due("site(6)", 64, () -> heap.site(6));
        due("site(0)", 65, () -> heap.site(0));
        due("site(6)", 1, () -> heap.site(6));
        due("acts", 3, () -> heap.count(14));
        steps(heap, 1);
        due("micros without a", 11, () -> heap.count(4));
        due("site(0)", 0, () -> heap.site(0));
        due("micros stay", 11, () -> heap.count(4));
        steps(heap, 11);
        due("micros of the next", 13, () -> heap.steps(50));
        int[] without = {12, 12, 12, 12, 12, 11, 12};
        for (int i = 0; i < 7; i++) {
            int site = i;
            FenceHeap one = of("do set 40 5;");
            one.site(site);
            due("micros without " + (char) ('a' + site), without[site], () -> one.steps(50));
        }
    }

    static void undoes() {
        FenceHeap heap = of("do drop 0;do set 40 5;");
        due("undo()", -1, heap::undo);
        steps(heap, 5);
        heap.evict(0, 1);
        heap.crash(0);
        heap.later(3, 41, 6);
        heap.site(2);
        heap.recover();
        due("acts", 6, () -> heap.count(14));
        due("undo() of recover", 5, heap::undo);
        due("down", 1, () -> heap.count(0));
        due("recoveries", 0, () -> heap.count(8));
        due("undo() of site", 4, heap::undo);
        due("sites", 0, () -> heap.count(2));
        due("undo() of later", 3, heap::undo);
        due("waits", 0, () -> heap.count(3));
        due("undo() of crash", 2, heap::undo);
        due("runs", 0, () -> heap.count(0));
        due("micros", 8, () -> heap.count(4));
        due("media", 1, () -> heap.word(0, true));
        due("undo() of evict", 1, heap::undo);
        due("media", 0, () -> heap.word(0, true));
        due("pending", 1, () -> heap.line(0, -1));
        due("undo() of steps", 0, heap::undo);
        due("waits", 2, () -> heap.count(3));
        due("void", 0, () -> heap.count(6));
        due("steps ever", 0, () -> heap.count(9));
        due("undo()", -1, heap::undo);
        due("refused", 0, () -> heap.count(18));
        for (int i = 0; i < 45; i++) {
            heap.site(i % 7);
        }
        due("acts", 40, () -> heap.count(14));
        for (int i = 39; i >= 0; i--) {
            due("undo()", i, heap::undo);
        }
        due("the five eldest stay", 31, () -> heap.count(2));
        due("undo()", -1, heap::undo);
    }

    static void recovereds() {
        FenceHeap heap = of("do set 40 5,set 40 6;");
        steps(heap, 16);
        due("word(40) of order 0", 0, () -> heap.recovered(0, 40));
        due("word(40) of order 1", 0, () -> heap.recovered(1, 40));
        due("COUNT", 0, () -> heap.recovered(1, 0));
        due("the log stays", 40, () -> heap.recovered(1, 4));
        due("the log stays", 5, () -> heap.recovered(1, 7));
        due("as it is", 6, () -> heap.word(40, false));
        due("it stays", 2, () -> heap.word(0, true));
        due("word 64", NO_SUCH, () -> heap.recovered(9, 64));
        due("word -1", NO_SUCH, () -> heap.recovered(0, -1));
        due("order 3", ILLEGAL, () -> heap.recovered(3, 0));
        due("order -1", ILLEGAL, () -> heap.recovered(-1, 0));
        FenceHeap redo = of("redo;do set 40 5,set 40 6,set 41 7;");
        steps(redo, 10 + 3);
        due("word(40)", 6, () -> redo.recovered(0, 40));
        due("word(41)", 7, () -> redo.recovered(0, 41));
    }

    static void fates() {
        FenceHeap heap = of("do set 40 5,set 44 6;");
        due("nothing in flight", 2, () -> heap.fate(0));
        due("order 1", ILLEGAL, () -> heap.fate(1));
        due("order -1", ILLEGAL, () -> heap.fate(-1));
        steps(heap, 19);
        due("all is written", 0, () -> heap.fate(0));
        due("the count is stored", 0, () -> heap.steps(1) == 1 ? heap.fate(0) : -1);
        due("the count has reached", 1, () -> heap.fate(1));
        due("order 2", ILLEGAL, () -> heap.fate(2));
        FenceHeap bad = of("without c g;do set 40 5,set 44 6;");
        steps(bad, 17);
        // Lines 0, 10, 11 pend: COUNT 0 first of all, then one WRITE of two.
        due("count not reached", 0, () -> bad.fate(0));
        due("order 4: the count alone", 0, () -> bad.fate(4));
        due("order 5: the count and line 11", 3, () -> bad.fate(5));
        due("order 6: the count and line 10", 3, () -> bad.fate(6));
        due("order 7: all", 1, () -> bad.fate(7));
    }

    static void checks() {
        FenceHeap heap = of("do set 40 5;");
        due("check(0)", 0, () -> heap.check(0));
        due("check(1)", -1, () -> heap.check(1));
        due("check(2)", -1, () -> heap.check(2));
        due("check(3)", NO_SUCH, () -> heap.check(3));
        due("check(-1)", NO_SUCH, () -> heap.check(-1));
        due("nothing is changed", 1, () -> heap.count(3));
        due("steps ever", 0, () -> heap.count(9));
        FenceHeap bad = of("without c g;do set 40 5,set 44 6;");
        // Behind 17 steps orders 5 and 6 are bad, behind 18 (the flush) too; behind the fence the count has
        // reached, and 0, 1 and 2 of four are: the last step leaves AFTER alone.
        due("check(0)", 7, () -> bad.check(0));
        due("check(1)", 17, () -> bad.check(1));
        due("check(2)", 5, () -> bad.check(2));
        steps(bad, 17);
        due("check(1) from there", 0, () -> bad.check(1));
        steps(bad, 1);
        due("check(0) from there", 5, () -> bad.check(0));
        steps(bad, 1);
        due("now alone", 3, () -> bad.check(0));
        due("now alone", 0, () -> bad.check(2));
        FenceHeap many = of("without a b c d e f g;do new 0 1,new 1 2;");
        due("too many", -2, () -> many.check(0));
        due("a bad one ahead of these", 4, () -> many.check(1));
        due("its order", 1, () -> many.check(2));
        FenceHeap only = of("redo;without a b c d;do new 0 1,new 1 2;do set 40 1;");
        due("no fence", -2, () -> only.check(0));
        checksRecovery();
    }

    static void checksRecovery() {
        FenceHeap heap = of("do set 40 5,set 44 6;");
        steps(heap, 18);
        heap.crash(3);
        due("down", 0, () -> heap.check(0));
        heap.site(2);
        heap.site(6);
        // Lines 0, 10, 11 pend: COUNT 0 without both words is bad, behind its store, its flush and its fence.
        due("down, flushes and a fence left out", 3 + 3 + 3, () -> heap.check(0));
        due("behind how many steps", 3, () -> heap.check(1));
        due("its order", 4, () -> heap.check(2));
        due("nothing is changed", 1, () -> heap.count(0));
        heap.recover();
        due("as it recovers", 9, () -> heap.check(0));
        checksAsItIsDown();
        FenceHeap idle = of("");
        due("nothing waits", 0, () -> idle.check(0));
        idle.later(1, 0, 0);
        due("a void one waits", 0, () -> idle.check(0));
        FenceHeap toggled = of("do set 40 5;");
        steps(toggled, 1);
        toggled.site(3);
        due("what is in flight keeps its sites", 0, () -> toggled.check(0));
    }

    static void checksAsItIsDown() {
        FenceHeap heap = of("without c g;do set 40 5,set 44 6;");
        heap.crash(0);
        due("down, COUNT 0: one that waits isn't followed", 0, () -> heap.check(0));
        due("behind how many steps", -1, () -> heap.check(1));
        due("its order", -1, () -> heap.check(2));
        heap.recover();
        due("it runs: it is", 7, () -> heap.check(0));
        due("behind how many steps", 17, () -> heap.check(1));
        due("its order", 5, () -> heap.check(2));
        FenceHeap logged = of("do set 40 5,set 44 6;do set 40 7,set 44 8;");
        steps(logged, 18);
        logged.crash(3);
        logged.site(2);
        logged.site(6);
        due("down, COUNT 2: the recovery alone is followed", 9, () -> logged.check(0));
        logged.recover();
        due("as it recovers: so, too", 9, () -> logged.check(0));
    }

    static void needless() {
        FenceHeap heap = of("do set 40 5;do set 41 6;");
        due("needless()", 1 + 2 + 4 + 16, heap::needless);
        due("nothing is changed", 0, () -> heap.count(2));
        steps(heap, 1);
        due("in flight", -1, heap::needless);
        heap.crash(0);
        due("down", -1, heap::needless);
        heap.recover();
        due("it runs, one waits", 23, heap::needless);
        FenceHeap wrong = of("without d;do set 40 5;");
        due("bad as it is", 0, wrong::needless);
        FenceHeap none = of("do drop 0;");
        due("a void one waits", -1, none::needless);
        due("nothing waits", -1, () -> of("").needless());
        FenceHeap same = of("without a b c d e f;do set 40 0;");
        due("the last site, of a write that changes nothing", 64, same::needless);
    }

    static void least() {
        FenceHeap heap = of("do set 40 5;");
        due("least(0)", 8, () -> heap.least(0));
        due("least(1)", 1, () -> heap.least(1));
        due("least(2)", NO_SUCH, () -> heap.least(2));
        due("least(-1)", NO_SUCH, () -> heap.least(-1));
        FenceHeap two = of("without a b c d;do set 40 5,set 44 6;");
        due("fences that are left out count anew", 14, () -> two.least(0));
        due("least(1)", 3, () -> two.least(1));
        FenceHeap flush = of("without f;do set 40 5;");
        due("the count is never flushed", -1, () -> flush.least(0));
        due("least(1)", -1, () -> flush.least(1));
        FenceHeap same = of("do set 40 0;");
        due("none is needed", 0, () -> same.least(0));
        due("none is needed", 0, () -> same.least(1));
        due("nothing waits", -1, () -> of("").least(0));
        steps(heap, 1);
        due("in flight", -1, () -> heap.least(0));
    }

    static void chances() {
        FenceHeap heap = of("without c g;do set 40 5,set 44 6;");
        steps(heap, 17);
        due("chance(0)", 1, () -> heap.chance(0));
        due("chance(1)", 8, () -> heap.chance(1));
        due("chance(2)", NO_SUCH, () -> heap.chance(2));
        due("chance(-1)", NO_SUCH, () -> heap.chance(-1));
        FenceHeap half = of("do set 40 5;");
        steps(half, 12);
        due("chance(0)", 1, () -> half.chance(0));
        due("chance(1)", 2, () -> half.chance(1));
        FenceHeap never = of("do set 40 5;");
        steps(never, 8);
        due("chance(0)", 0, () -> never.chance(0));
        due("chance(1)", 1, () -> never.chance(1));
        FenceHeap both = of("do set 40 0;");
        steps(both, 8);
        due("chance(0)", 1, () -> both.chance(0));
        due("chance(1)", 1, () -> both.chance(1));
        FenceHeap many = of("without a b c d e f g;do new 0 1,new 1 2;");
        due("33 steps", 33, () -> many.steps(33));
        due("too many", -1, () -> many.chance(0));
        due("too many", -1, () -> many.chance(1));
        exactly2000();
    }

    // 2000 = 5 * 5 * 5 * 4 * 4 orders are looked at; one store more, and there are too many.
    static void exactly2000() {
        FenceHeap heap = of("redo;without a b c d e f g;do set 24 1,set 24 2,set 28 1,set 28 2;"
            + "do set 24 3,set 28 3,set 32 1,set 32 2;");
        due("14 + 14 steps", 28, () -> heap.steps(50));
        due("evict(1, 2)", 4, () -> heap.evict(1, 2));
        due("evict(2, 2)", 4, () -> heap.evict(2, 2));
        due("evict(8, 1)", 1, () -> heap.evict(8, 1));
        due("orders()", 4000, heap::orders);
        due("too many to check", -2, () -> heap.check(0));
        due("and none ahead", -2, () -> heap.check(1));
        due("and none ahead", -2, () -> heap.check(2));
        due("too many to explain", -2, () -> heap.explained(0));
        due("none", -1, () -> heap.chance(1));
        due("none to look at", -1, () -> heap.look(0));
        due("evict(8, 1)", 0, () -> heap.evict(8, 1));
        due("orders()", 2000, heap::orders);
        due("explained(0)", 2000, () -> heap.explained(0));
        due("look(0)", 24, () -> heap.look(0));
        due("look(1)", 4, () -> heap.look(1));
        due("some are well", 1, () -> heap.chance(0) > 0 && 2000 % heap.chance(1) == 0 ? 1 : 0);
        due("some are bad", 1, () -> heap.check(0) > 0 && heap.check(0) < 2000 ? 1 : 0);
        due("all are well or bad", 2000, () -> heap.check(0) + heap.chance(0) * (2000 / heap.chance(1)));
    }

    static void seen() {
        FenceHeap heap = of("");
        due("see(64, 0)", -1, () -> heap.see(64, 0));
        due("see(-1, 0)", -1, () -> heap.see(-1, 0));
        due("see(0, 1000)", -1, () -> heap.see(0, 1000));
        due("see(0, -1)", -1, () -> heap.see(0, -1));
        due("refused", 4, () -> heap.count(19));
        for (int i = 1; i <= 8; i++) {
            due("see", i, () -> heap.see(63, 999));
        }
        due("the ninth", -1, () -> heap.see(0, 0));
        due("refused", 5, () -> heap.count(19));
        due("seen", 8, () -> heap.count(15));
        due("no act", 0, () -> heap.count(14));
    }

    static void explained() {
        FenceHeap heap = of("without a b c d e f g;do set 40 5;do set 40 6;");
        due("10 steps", 10, () -> heap.steps(50));
        // COUNT 1, 0, 1, 0 (5 orders by line 0), ENTRY 40 0, 40 5 (5), WORD 40: 5, 6 (3).
        due("explained(0)", 75, () -> heap.explained(0));
        due("explained(1)", 0, () -> heap.explained(1));
        heap.see(0, 1);
        due("explained(0)", 2 * 5 * 3, () -> heap.explained(0));
        due("explained(1)", 15, () -> heap.explained(1));
        heap.see(40, 6);
        due("explained(0)", 2 * 5, () -> heap.explained(0));
        due("explained(1)", 15 + 2, () -> heap.explained(1));
        heap.see(5, 5);
        due("explained(0)", 2, () -> heap.explained(0));
        due("explained(1)", 15 + 12 + 2, () -> heap.explained(1));
        heap.see(0, 1);
        due("seen twice", 2, () -> heap.explained(0));
        heap.see(63, 1);
        due("explained(0)", 0, () -> heap.explained(0));
        due("explained(1)", -1, () -> heap.explained(1));
        due("explained(2)", NO_SUCH, () -> heap.explained(2));
        due("explained(-1)", NO_SUCH, () -> heap.explained(-1));
        FenceHeap many = of("without a b c d e f g;do new 0 1,new 1 2;");
        due("33 steps", 33, () -> many.steps(33));
        due("too many", -2, () -> many.explained(0));
        due("too many", -2, () -> many.explained(1));
    }

    static void looks() {
        FenceHeap heap = of("without a b c d e f g;do set 40 5;do set 40 6;do set 40 7;");
        due("15 steps", 15, () -> heap.steps(50));
        due("look(0)", 40, () -> heap.look(0));
        due("look(1)", 4, () -> heap.look(1));
        heap.see(40, 5);
        due("look(0)", 5, () -> heap.look(0));
        due("look(1)", 3, () -> heap.look(1));
        heap.see(5, 0);
        due("look(0)", 0, () -> heap.look(0));
        due("look(1)", 2, () -> heap.look(1));
        heap.see(0, 3);
        due("none explains", -1, () -> heap.look(0));
        due("look(1)", 0, () -> heap.look(1));
        due("look(2)", NO_SUCH, () -> heap.look(2));
        due("look(-1)", NO_SUCH, () -> heap.look(-1));
        FenceHeap high = of("without a b c d e f g;do set 40 99;do set 40 64;do set 40 63;do set 40 99;");
        due("20 steps", 20, () -> high.steps(50));
        due("the number of entry 0, the least of two alike", 5, () -> high.look(0));
        due("0, 99, 64, 63", 4, () -> high.look(1));
        high.evict(1, 2);
        due("numbers from 64 on", 40, () -> high.look(0));
        due("0, 99, 64, 63", 4, () -> high.look(1));
        high.evict(10, 3);
        due("look(0)", 5, () -> high.look(0));
        due("99, 64, 63", 3, () -> high.look(1));
        FenceHeap one = of("");
        due("look(0)", 0, () -> one.look(0));
        due("look(1)", 1, () -> one.look(1));
        FenceHeap many = of("without a b c d e f g;do new 0 1,new 1 2;");
        due("33 steps", 33, () -> many.steps(33));
        due("too many", -1, () -> many.look(0));
        due("too many", 0, () -> many.look(1));
    }

    static void forgets() {
        FenceHeap heap = of("");
        heap.see(0, 5);
        heap.see(64, 5);
        due("explained", 0, () -> heap.explained(0));
        heap.forget();
        due("seen", 0, () -> heap.count(15));
        due("explained", 1, () -> heap.explained(0));
        due("refused stay", 1, () -> heap.count(19));
        due("see", 1, () -> heap.see(0, 0));
    }

    static void years() {
        FenceHeap heap = of("chain 0 1;leak 5;leak 6;");
        due("what 3", NO_SUCH, () -> heap.years(1, 31, 3));
        due("what -1", NO_SUCH, () -> heap.years(1, 0, -1));
        due("n 31", ILLEGAL, () -> heap.years(1, 31, 0));
        due("n -1", ILLEGAL, () -> heap.years(1, -1, 0));
        due("no year", 0, () -> heap.years(1, 0, 0));
        due("no year", 0, () -> heap.years(1, 0, 1));
        due("two leak", 2, () -> heap.years(1, 0, 2));
        int crash = seedOf(5);
        due("one crash", 1, () -> heap.years(crash, 1, 0));
        due("not a bad one", 0, () -> heap.years(crash, 1, 1));
        due("nothing is changed", 0, () -> heap.count(7));
        heap.crash(0);
        due("down: no crash", 0, () -> heap.years(crash, 1, 0));
        badYear();
    }

    /** The least seed whose first draw of 8 is this. */
    static int seedOf(int first) {
        int seed = 0;
        while ((seed * 1103515245 + 12345 >>> 16 & 32767) % 8 != first) {
            seed++;
        }
        return seed;
    }

    // DONE without f, d: COUNT 1 has not reached, or it has, and 0 behind it has not: that is bad.
    static void badYear() {
        FenceHeap heap = of("without d;do set 24 1;");
        due("12 steps", 12, () -> heap.steps(50));
        int bad = 0;
        int leaked = 0;
        for (int seed = 0; seed < 64; seed++) {
            int one = seed;
            int first = seed * 1103515245 + 12345;
            int second = first * 1103515245 + 12345;
            boolean isCrash = (first >>> 16 & 32767) % 8 == 5;
            boolean isBad = isCrash && (second >>> 16 & 32767) % 2 == 0;
            due("crashes by " + seed, isCrash ? 1 : 0, () -> heap.years(one, 1, 0));
            due("bad by " + seed, isBad ? 1 : 0, () -> heap.years(one, 1, 1));
            due("leaked by " + seed, isBad ? 0 : 1, () -> heap.years(one, 1, 2));
            bad += isBad ? 1 : 0;
            leaked += isBad ? 0 : 1;
        }
        int bads = bad;
        int leaks = leaked;
        due("some are bad, some are not", 1, () -> bads > 0 && leaks > 0 ? 1 : 0);
    }

    static void images() {
        FenceHeap heap = of("do set 40 5;");
        heap.image();
        steps(heap, 3);
        heap.image();
        steps(heap, 3);
        due("restore", 1, () -> heap.restore() ? 1 : 0);
        due("the later image", 3, () -> heap.count(9));
        due("acts", 1, () -> heap.count(14));
        due("image is no act", 0, heap::undo);
    }

    static void restores() {
        FenceHeap heap = of("do drop 0;do set 40 5;do set 41 6;");
        due("restore without", 0, () -> heap.restore() ? 1 : 0);
        steps(heap, 5);
        heap.see(40, 5);
        heap.see(64, 5);
        heap.steps(0);
        heap.site(1);
        heap.image();
        steps(heap, 20);
        heap.crash(0);
        heap.recover();
        heap.later(4, 0, 0);
        heap.undo();
        heap.forget();
        heap.see(1, 1);
        heap.see(2, 2);
        heap.see(-1, 2);
        heap.steps(0);
        feed(heap, "x");
        int[] want = {0, 0, 2, 1, 8, 0, 1, 0, 0, 5, 3, 1, 1, 1, 2, 1, 20, 0, 1, 1};
        for (int again = 0; again < 2; again++) {
            due("restore", 1, () -> heap.restore() ? 1 : 0);
            for (int i = 0; i < 20; i++) {
                int what = i;
                due("count(" + what + ")", want[what], () -> heap.count(what));
            }
            due("explained", 0, () -> heap.explained(0));
            due("undo", 1, heap::undo);
            due("sites", 0, () -> heap.count(2));
            due("undo", 0, heap::undo);
            due("waits", 3, () -> heap.count(3));
            due("undo", -1, heap::undo);
        }
        restoredActs();
        restoredSights();
    }

    // Acts that are undone, and others in their place, don't touch those of the image.
    static void restoredActs() {
        FenceHeap heap = of("");
        for (int i = 0; i < 47; i++) {
            heap.site(i % 7);
        }
        due("sites behind 47", 31, () -> heap.count(2));
        heap.image();
        for (int again = 0; again < 2; again++) {
            for (int i = 0; i < 20; i++) {
                heap.undo();
            }
            for (int i = 0; i < 30; i++) {
                heap.later(4, 0, 0);
                heap.undo();
                heap.site(6);
            }
            due("restore", 1, () -> heap.restore() ? 1 : 0);
            due("acts", 40, () -> heap.count(14));
            int sites = 31;
            for (int i = 46; i >= 7; i--) {
                int left = i - 7;
                due("undo()", left, heap::undo);
                sites ^= 1 << i % 7;
                int want = sites;
                due("sites", want, () -> heap.count(2));
            }
            due("waits", 0, () -> heap.count(3));
            due("undo()", -1, heap::undo);
        }
    }

    static void restoredSights() {
        FenceHeap heap = of("");
        heap.see(0, 1);
        heap.image();
        heap.forget();
        heap.see(0, 0);
        due("explained", 1, () -> heap.explained(0));
        due("restore", 1, () -> heap.restore() ? 1 : 0);
        due("explained", 0, () -> heap.explained(0));
        heap.forget();
        heap.see(0, 0);
        heap.image();
        heap.forget();
        heap.see(0, 1);
        due("restore", 1, () -> heap.restore() ? 1 : 0);
        due("explained", 1, () -> heap.explained(0));
    }
}
