/** The boundaries that "Terms" 1 and promises 1 to 4 name: words, lines, the text and its faults, the tape. */
public final class TextEdges {
    private static final Edges edges = new Edges();
    private static final int LOW = Integer.MIN_VALUE;
    private static final int HIGH = Integer.MAX_VALUE;

    private static void is(long due, long got) {
        edges.is(due, got);
    }

    /** A text has this fault at this place; then all is as it was, but that one text more was refused. */
    private static void faulty(String text, int fault, int place) {
        Told heap = Told.of("redo;without c;chain 1 4 5;do set 40 5;");
        is(fault, heap.tell(text));
        is(place, heap.fault());
        is(1, heap.count(17));
        is(0, heap.count(16));
        is(1, heap.count(1));
        is(4, heap.count(2));
        is(1, heap.count(3));
        is(40, heap.media(21));
        is(44, heap.media(41));
        is(1, heap.media(44));
    }

    /** The same, at the last place where this part of the text stands. */
    private static void faulty(String text, int fault, String at) {
        faulty(text, fault, text.lastIndexOf(at));
    }

    private static Told sound(String text) {
        Told heap = new Told();
        is(0, heap.tell(text));
        is(-1, heap.fault());
        is(0, heap.count(17));
        return heap;
    }

    public static void main(String[] args) {
        use();
        memory();
        tokens();
        clauses();
        limits();
        what();
        firstFault();
        cannotStand();
        tooMuch();
        inUse();
        toldAlready();
        newObject();
        tape();
        reading();
        places();
        edges.end("TextEdges");
    }

    private static void use() {
        edges.sentence("An object is used for at most 512 calls after it has been made", () -> {
            Told heap = new Told();
            for (int i = 0; i < 509; i++) {
                is(i % 2 == 0 ? 1 : 0, heap.site(0));
            }
            is(509 % 2, heap.count(2));
            is(40, heap.count(14));
            is(39, heap.undo());
            is(512, heap.callsMade());
        });
        edges.sentence("An object is used for at most 512 calls after it has been made", () -> {
            Told heap = new Told();
            for (int i = 0; i < 127; i++) {
                is(1, heap.later(3, 20 + i % 44, i % 100));
                is(13, heap.steps(50));
                heap.image();
                is(1, heap.restore());
            }
            is(127, heap.count(5));
            is(127 * 13, heap.count(9));
            is(25, heap.media(57));
            is(26, heap.media(58));
            is(512, heap.callsMade());
        });
    }

    private static void memory() {
        edges.sentence("WORDS 0 to 63 (numbers; all 0 at first)", () -> {
            Told heap = new Told();
            for (int word = 0; word < 64; word++) {
                is(0, heap.now(word));
                is(0, heap.media(word));
            }
            for (int word : new int[] {LOW, -64, -1, 64, 65, 128, HIGH}) {
                is(Told.NO_SUCH, heap.now(word));
                is(Told.NO_SUCH, heap.media(word));
            }
        });
        edges.sentence("four by four in LINES 0 to 15", () -> {
            Told heap = Told.of("without a b c d e f g;do set 23 1,set 24 2,set 27 3,set 28 4;do set 59 5,set 60 6,set 63 7;");
            is(17 + 13, heap.steps(50));
            int[] pending = {6, 6, 6, 0, 0, 1, 2, 1, 0, 0, 0, 0, 0, 0, 1, 2};
            for (int line = 0; line < 16; line++) {
                is(pending[line], heap.pending(line));
            }
            is(2301, heap.line(5, 0));
            is(2402, heap.line(6, 0));
            is(2703, heap.line(6, 1));
            is(2804, heap.line(7, 0));
            is(5905, heap.line(14, 0));
            is(6006, heap.line(15, 0));
            is(6307, heap.line(15, 1));
        });
        edges.sentence("WORD 0: the COUNT; ENTRIES 0 to 7 of the LOG: WORDS 4 and 5 (ADDRESS, NUMBER), 6 and 7, .. 18 and 19", () -> {
            Told heap = Told.of("redo;do new 0 1,new 1 2;");
            is(8 * 3 + 4 + 8 + 3 + 4, heap.steps(50));
            int[] log = {24, 1, 25, 0, 26, 1, 20, 24, 28, 1, 29, 0, 30, 2, 21, 28};
            for (int i = 0; i < 16; i++) {
                is(log[i], heap.media(4 + i));
            }
            for (int word = 0; word < 4; word++) {
                is(0, heap.media(word));
            }
        });
        edges.sentence("ROOTS 0 to 3: WORDS 20 to 23; BLOCKS 0 to 9: WORDS 24 to 27, 28 to 31 ..", () -> {
            Told heap = Told.of("chain 0 0;chain 3 9;data 0 1 2;data 9 3 4;");
            int[] words = {24, 0, 0, 60, 1, 0, 1, 2};
            for (int i = 0; i < words.length; i++) {
                is(words[i], heap.media(20 + i));
            }
            int[] last = {1, 0, 3, 4};
            for (int i = 0; i < last.length; i++) {
                is(last[i], heap.media(60 + i));
            }
            is(1 + 512, heap.shape(1, 0));
        });
        edges.sentence("(HEADER: 0 free, 1 in use, another number: neither; NEXT; two of DATA)", () -> {
            for (int header : new int[] {2, 99}) {
                Told heap = Told.of("chain 1 0;do set 24 " + header + ";do drop 1;do sweep;do new 0 7;");
                is(13, heap.steps(13));
                is(0, heap.shape(0, 2));
                is(0, heap.shape(0, 1));
                is(2, heap.shape(0, 3));
                is(8 * 4 + 2 + 4, heap.steps(50));
                is(2, heap.count(6));
                is(28, heap.media(20));
                is(header, heap.media(24));
            }
        });
        edges.sentence("ADDRESS of a WORD: its number; of a BLOCK: that of its HEADER.", () -> {
            int[][] roots = {{24, 22}, {60, 22}, {25, -1}, {27, -1}, {61, -1}, {63, -1}, {23, -1}, {20, -1}, {4, -1}, {1, -1}};
            for (int[] root : roots) {
                int block = Math.max(20, root[0]);
                Told heap = Told.of("do set " + block + " 1;do set 21 " + root[0] + ";do drop 1;");
                is(26, heap.steps(26));
                is(root[1], heap.steps(50));
            }
            Told beyond = Told.of("do set 20 64;do drop 0;do move 0 1;");
            is(13, beyond.steps(50));
            is(2, beyond.count(6));
        });
        edges.sentence("The HEAP: WORDS 20 to 63.", () -> {
            Told heap = Told.of("do set 20 7,set 63 8;");
            is(8 + 8 + 2 + 4, heap.steps(50));
            is(2, heap.fate(0));
            is(1, heap.later(3, 20, 9));
            is(8, heap.steps(8));
            is(0, heap.fate(0));
            is(0, heap.recovered(1, 0));
            is(7, heap.recovered(1, 20));
        });
        edges.sentence("The MODE: UNDO (without), REDO.", () -> {
            is(0, new Told().count(1));
            is(0, Told.of("without a;").count(1));
            is(0, Told.of("undo;").count(1));
            is(1, Told.of("redo;").count(1));
        });
        edges.sentence("SITES 0 to 6, told as a to g, may be LEFT OUT", () -> {
            for (int site = 0; site < 7; site++) {
                is(1 << site, Told.of("without " + (char) ('a' + site) + ";").count(2));
            }
            faulty("without h;", 1, 8);
            faulty("without z;", 1, 8);
            faulty("without `;", 1, 8);
            faulty("without A;", 1, 8);
        });
        edges.sentence(": a, b, c, d are FENCES, e, f, g FLUSHES.", () -> {
            // By UNDO of two writes: a and b are twice 1, c and d 1; e is twice 1, f 3, g 2, one a line.
            int[] fences = {4, 4, 5, 5, 6, 6, 6};
            int[] flushes = {7, 7, 7, 7, 5, 4, 5};
            for (int site = 0; site < 7; site++) {
                Told heap = Told.of("without " + (char) ('a' + site) + ";do set 40 5,set 44 6;");
                is(9 + fences[site] + flushes[site], heap.steps(50));
                is(9, heap.count(10));
                is(flushes[site], heap.count(11));
                is(fences[site], heap.count(12));
            }
        });
    }

    private static void tokens() {
        edges.sentence("A TEXT of at most 700 bytes tells all.", () -> {
            String twelve = "do set 20 1,set 21 2,set 22 3,set 23 4;".repeat(12);
            Told full = new Told();
            is(0, full.tell(twelve + " ".repeat(695 - twelve.length()) + "redo;"));
            is(1, full.count(1));
            is(12, full.count(3));
            Told open = new Told();
            is(1, open.tell(twelve + "\n".repeat(696 - twelve.length()) + "redo"));
            is(700, open.fault());
            is(0, open.count(3));
        });
        edges.sentence("words (a .. z, the longest row)", () -> {
            faulty("undoredo;", 1, 0);
            faulty("undoz;", 1, 0);
            faulty("undo{;", 1, 4);
            faulty("undo`;", 1, 4);
            faulty("undoA;", 1, 4);
            for (String word : new String[] {"undo", "redo", "without a", "chain 0 1", "leak 1", "data 0 1 2", "do sweep"}) {
                faulty("x" + word.substring(1) + ";", 1, 0);
                faulty("x" + word + ";", 1, 0);
            }
            for (String op : new String[] {"new 0 1", "drop 0", "move 0 1", "set 20 1", "sweep"}) {
                faulty("do x" + op.substring(1) + ";", 1, 3);
                faulty("do x" + op + ";", 1, 3);
            }
            faulty("without ab;", 1, 8);
            faulty("do sweepset 20 1;", 1, 3);
            faulty("chain 0 1leak 2;", 1, 9);
            Told narrow = sound("without a;chain0 1 2;leak3;data4 5 6;do set20 5,new0 1;redo;");
            is(1, narrow.count(1));
            is(32, narrow.media(29));
            is(1, narrow.media(36));
            is(6, narrow.media(43));
        });
        edges.sentence("NUMBERS (1 to 3 digits)", () -> {
            Told heap = sound("data 0 7 07;data 001 007 099;chain 03 002;");
            int[] words = {7, 7, 0, 0, 7, 99, 1};
            for (int i = 0; i < words.length; i++) {
                is(words[i], heap.media(26 + i));
            }
            is(32, heap.media(23));
            faulty("leak 0001;", 2, 5);
            faulty("leak 1/;", 1, 6);
            faulty("leak 1:;", 1, 6);
            faulty("leak /;", 1, 5);
            faulty("leak :;", 1, 5);
        });
        edges.sentence("the signs ; , and blanks (32, 10) between them, which count for nothing", () -> {
            Told heap = sound("\n\n  redo\n; \n do\nsweep , set\n20\n \n1\n;\n ");
            is(1, heap.count(1));
            is(1, heap.count(3));
            for (int sign : new int[] {0, 1, 9, 11, 12, 13, 31, 33, 160, 255}) {
                faulty("undo;" + (char) sign + "redo;", 1, 5);
                faulty("leak " + (char) sign + "3;", 1, 5);
                faulty("leak 3" + (char) sign + ";", 1, 6);
            }
            faulty("un do;", 1, 0);
            faulty("leak 1 0;", 1, 7);
            faulty("do sweep, ,sweep;", 1, 10);
        });
    }

    private static void clauses() {
        edges.sentence("TEXT: CLAUSE*.", () -> {
            edges.alike(new Told(), sound(" \n "));
            Told one = new Told();
            is(0, one.heap(0));
            edges.alike(new Told(), one);
            faulty(";", 1, 0);
            faulty("undo;;", 1, 5);
            faulty(",", 1, 0);
            faulty("1;", 1, 0);
        });
        edges.sentence("'without' SITE SITE*", () -> {
            is(127, sound("without g f e d c b a;").count(2));
            is(127, sound("without g;without f;without e d c;without b a;").count(2));
            faulty("without;", 1, 7);
            faulty("without 1;", 1, 8);
            faulty("without a,b;", 1, 9);
            faulty("without a b c d e f g;;", 1, 22);
            faulty("without a b c d e f g h;", 1, 22);
        });
        edges.sentence("'chain' ROOT BLOCK BLOCK*", () -> {
            Told one = sound("chain 2 7;");
            is(52, one.media(22));
            is(0, one.media(53));
            is(128, one.shape(1, 0));
            Told ten = sound("chain 2 9 8 7 6 5 4 3 2 1 0;");
            is(60, ten.media(22));
            for (int block = 1; block < 10; block++) {
                is(24 + 4 * (block - 1), ten.media(25 + 4 * block));
            }
            is(0, ten.media(25));
            is(1023, ten.shape(1, 0));
            faulty("chain;", 1, 5);
            faulty("chain 0;", 1, 7);
            faulty("chain 0 1,2;", 1, 9);
            faulty("chain 0 0 1 2 3 4 5 6 7 8 9 ,", 1, ",");
        });
        edges.sentence("'do' OP (',' OP)*) ';'", () -> {
            is(1, sound("do sweep;").count(3));
            is(1, sound("do sweep,sweep,sweep,sweep;").count(3));
            faulty("do;", 1, 2);
            faulty("do ,sweep;", 1, 3);
            faulty("do sweep,;", 1, 9);
            faulty("do sweep sweep;", 1, 9);
            faulty("do sweep,sweep,sweep,sweep,;", 1, 27);
        });
        edges.sentence("'leak' BLOCK | 'data' BLOCK NUMBER NUMBER", () -> {
            faulty("leak;", 1, 4);
            faulty("leak 1 2;", 1, 7);
            faulty("leak 1,2;", 1, 6);
            faulty("data;", 1, 4);
            faulty("data 1;", 1, 6);
            faulty("data 1 2;", 1, 8);
            faulty("data 1 2 3 4;", 1, 11);
        });
        edges.sentence("OP: 'new' ROOT NUMBER | 'drop' ROOT | 'move' ROOT ROOT | 'set' ADDRESS NUMBER | 'sweep'.", () -> {
            String[] open = {"new", "new 0", "drop", "move", "move 0", "set", "set 20"};
            String[] full = {"new 0 1", "drop 0", "move 0 1", "set 20 1", "sweep"};
            for (String op : open) {
                faulty("do " + op + ";", 1, ";");
                faulty("do " + op + ",sweep;", 1, ",");
                faulty("do " + op + " x;", 1, "x");
            }
            for (String op : full) {
                is(1, sound("do " + op + ";").count(3));
                faulty("do " + op + " 7;", 1, "7");
            }
        });
    }

    private static void limits() {
        edges.sentence("ROOT 0 to 3", () -> {
            String[] places = {"chain # 1;", "do new # 1;", "do drop #;", "do move # 1;", "do move 2 #;"};
            for (String place : places) {
                sound(place.replace("#", "0"));
                sound(place.replace("#", "3"));
                for (String root : new String[] {"4", "9", "10", "103", "999"}) {
                    faulty(place.replace("#", root), 2, place.indexOf('#'));
                }
                faulty(place.replace("#", "-1"), 1, place.indexOf('#'));
            }
        });
        edges.sentence("BLOCK 0 to 9", () -> {
            String[] places = {"chain 0 #;", "chain 1 4 #;", "leak #;", "data # 1 2;"};
            for (String place : places) {
                sound(place.replace("#", "0"));
                sound(place.replace("#", "9"));
                for (String block : new String[] {"10", "11", "99", "100", "999"}) {
                    faulty(place.replace("#", block), 2, place.indexOf('#'));
                }
                faulty(place.replace("#", "-1"), 1, place.indexOf('#'));
            }
        });
        edges.sentence("ADDRESS 20 to 63", () -> {
            sound("do set 20 1;");
            sound("do set 63 1;");
            for (String address : new String[] {"0", "19", "64", "99", "120", "999"}) {
                faulty("do set " + address + " 1;", 2, 7);
            }
        });
        edges.sentence("NUMBER 0 to 99", () -> {
            String[] places = {"do new 0 #;", "do set 20 #;", "data 0 # 1;", "data 0 1 #;"};
            for (String place : places) {
                sound(place.replace("#", "0"));
                sound(place.replace("#", "99"));
                for (String number : new String[] {"100", "101", "999"}) {
                    faulty(place.replace("#", number), 2, place.indexOf('#'));
                }
            }
            Told most = sound("data 0 99 0;data 9 0 99;");
            is(99, most.media(26));
            is(0, most.media(27));
            is(99, most.media(63));
        });
    }

    private static void what() {
        edges.sentence("By 'chain' the ROOT is the ADDRESS of the first BLOCK,", () -> {
            for (int root = 0; root < 4; root++) {
                for (int block = 0; block < 10; block++) {
                    Told heap = sound("chain " + root + " " + block + ";");
                    for (int other = 0; other < 4; other++) {
                        is(other == root ? 24 + 4 * block : 0, heap.media(20 + other));
                    }
                    is(1 << block, heap.shape(1, 0));
                }
            }
        });
        edges.sentence("NEXT of each that of the one behind it (0 of the last), all are in use", () -> {
            Told heap = sound("chain 0 9 0 5;chain 1 3;");
            int[][] words = {{20, 60}, {61, 24}, {25, 44}, {45, 0}, {21, 36}, {37, 0}, {22, 0}, {23, 0}};
            for (int[] one : words) {
                is(one[1], heap.media(one[0]));
            }
            is(512 + 1 + 32 + 8, heap.shape(1, 2));
            is(0, heap.shape(1, 3));
        });
        edges.sentence("by 'leak' a BLOCK is in use", () -> {
            Told heap = sound("leak 0;leak 9;");
            is(1, heap.media(24));
            is(0, heap.media(25));
            is(1, heap.media(60));
            is(513, heap.shape(1, 2));
            is(513, heap.shape(1, 1));
            is(0, heap.shape(1, 0));
        });
        edges.sentence("by 'data' DATA are told", () -> {
            Told heap = sound("data 0 1 2;chain 0 0 1;data 1 3 4;leak 2;data 2 5 6;data 3 7 8;");
            int[] words = {1, 28, 1, 2, 1, 0, 3, 4, 1, 0, 5, 6, 0, 0, 7, 8};
            for (int i = 0; i < words.length; i++) {
                is(words[i], heap.media(24 + i));
            }
        });
        edges.sentence("So MEDIA is from the beginning.", () -> {
            Told heap = sound("chain 0 1 2;data 1 9 9;");
            is(0, heap.count(13));
            is(0, heap.count(10));
            is(1, heap.orders());
            is(28, heap.now(20));
            is(28, heap.media(20));
            is(2, heap.crash(0));
            is(28, heap.media(20));
        });
        edges.sentence("Each 'do' is a TRANSACTION that WAITS, the first told first.", () -> {
            Told heap = sound("do set 40 1;redo;do set 40 2;do set 40 3;");
            for (int left = 2; left >= 0; left--) {
                is(13, heap.steps(13));
                is(3 - left, heap.media(40));
                is(left, heap.count(3));
            }
        });
    }

    private static void firstFault() {
        edges.sentence("FAULTS, the first along the text, at a TOKEN's first byte", () -> {
            faulty("leak 10;xyz;", 2, 5);
            faulty("xyz;leak 10;", 1, 0);
            faulty("undo;undo xyz", 4, 5);
            faulty("leak 3;leak 3 3", 3, 12);
            faulty("  \n  undo;  redo;", 4, 12);
            faulty("chain 0 999 ;undo;undo;", 2, 8);
            faulty("without a aa;", 1, 10);
        });
        edges.sentence("of one TOKEN the least", () -> {
            faulty("leak 1;leak 0001;", 2, 12);
            faulty("chain 0 1 0001;", 2, 10);
            faulty("data 1 0 0;data 0001 0 0;", 2, 16);
            faulty("do move 1 0001;", 2, 10);
            faulty("chain 0 1;chain 0000 2;", 2, 16);
            faulty("12345;", 1, 0);
            faulty("undo 12345;", 1, 5);
            faulty("do sweep,sweep,sweep,sweep,12345;", 1, 27);
            faulty("undo undo;", 1, 5);
            faulty("without a;chain a 1;", 1, 16);
            faulty("do sweep;".repeat(12) + "undo do sweep;", 1, 113);
        });
    }

    private static void cannotStand() {
        edges.sentence("1 a TOKEN that can't stand there, or is none", () -> {
            String[] full = {"undo", "redo", "without a", "chain 0 1 2", "leak 2", "data 1 2 3", "do new 0 1"};
            for (String clause : full) {
                faulty(clause + ".", 1, clause.length());
                faulty(clause + ",;", 1, clause.length() + (clause.startsWith("do ") ? 1 : 0));
                faulty(clause + " undo;", 1, clause.length() + 1);
                faulty(clause.substring(0, 1).toUpperCase() + clause.substring(1) + ";", 1, 0);
                faulty("\"" + clause + "\";", 1, 0);
            }
            faulty("leak -1;", 1, 5);
            faulty("leak a;", 1, 5);
            faulty("sweep;", 1, 0);
            faulty("do undo;", 1, 3);
            faulty("do leak 1;", 1, 3);
        });
        edges.sentence("(the text's length where it ends too soon)", () -> {
            String[] open = {"undo", "redo", "without", "without a", "chain", "chain 0", "chain 0 1", "leak", "leak 1",
                "data", "data 1", "data 1 2", "data 1 2 3", "do", "do new", "do new 0", "do new 0 1", "do drop", "do drop 1",
                "do move", "do move 0", "do move 0 1", "do set", "do set 20", "do set 20 1", "do sweep", "do sweep,"};
            for (String text : open) {
                faulty(text, 1, text.length());
                faulty(text + " \n ", 1, text.length() + 3);
                faulty("leak 9;" + text, 1, text.length() + 7);
            }
            Told cut = new Told();
            cut.put("undo;redo;redo;");
            is(1, cut.heap(4));
            is(4, cut.fault());
            cut.put("leak 12;");
            is(1, cut.heap(6));
            is(6, cut.fault());
        });
    }

    private static void tooMuch() {
        edges.sentence("2 one that can, but is too much: a NUMBER of 4 digits or more, or not as told", () -> {
            String[] places = {"chain # 1;", "chain 0 #;", "leak #;", "data # 1 2;", "data 0 # 2;", "data 0 1 #;", "do new # 1;",
                "do new 0 #;", "do drop #;", "do move # 1;", "do move 0 #;", "do set # 1;", "do set 20 #;"};
            String[] numbers = {"0001", "0021", "1000", "9999", "4294967297", "18446744073709551617", "0".repeat(300)};
            for (String place : places) {
                for (String number : numbers) {
                    faulty(place.replace("#", number), 2, place.indexOf('#'));
                }
            }
        });
        edges.sentence("the first word of the 5th OP of a 'do'", () -> {
            sound("do sweep,sweep,sweep,sweep;do sweep,sweep,sweep,sweep;");
            for (String op : new String[] {"new 0 1", "drop 0", "move 0 1", "set 20 1", "sweep", "set 19 100", "move 1 1", "new"}) {
                faulty("do sweep,new 0 1,drop 1,set 20 1," + op + ";", 2, 33);
                faulty("do sweep;do sweep,new 0 1,drop 1,set 20 1,\n" + op + ";", 2, 43);
            }
            faulty("do sweep,sweep,sweep,sweep,swee;", 1, 27);
        });
        edges.sentence("the 'do' of the 13th", () -> {
            String twelve = "do sweep;".repeat(12);
            is(12, sound(twelve).count(3));
            is(1, sound(twelve + "redo;").count(1));
            faulty(twelve + "do sweep;", 2, 108);
            faulty(twelve + "do 7;", 2, 108);
            faulty(twelve + "redo;  do", 2, 115);
            faulty(twelve + "dos;", 1, 108);
        });
    }

    private static void inUse() {
        edges.sentence("3 a BLOCK of a 'chain', a 'leak' that is in use already, of a 'data' that is told there already", () -> {
            faulty("chain 0 1 1;", 3, 10);
            faulty("chain 0 1 2 1;", 3, 12);
            faulty("chain 0 0 1 2 3 4 5 6 7 8 9 0;", 3, 28);
            faulty("chain 0 1;chain 1 1;", 3, 18);
            faulty("leak 1;chain 0 1;", 3, 15);
            faulty("chain 0 2 1;leak 1;", 3, 17);
            faulty("leak 1;leak 1;", 3, 12);
            faulty("leak 1;leak 001;", 3, 12);
            faulty("data 1 0 0;data 1 0 0;", 3, 16);
            sound("data 1 1 1;leak 1;");
            sound("chain 0 1;data 1 1 1;");
            sound("data 1 1 1;chain 0 1;data 2 1 1;");
        });
        edges.sentence("both ROOTS of a 'move' alike (at the second)", () -> {
            for (int root = 0; root < 4; root++) {
                faulty("do move " + root + " " + root + ";", 3, 10);
                faulty("do move " + root + " 00" + root + ";", 3, 10);
                sound("do move " + root + " " + (root + 1) % 4 + ";");
            }
        });
    }

    private static void toldAlready() {
        edges.sentence("4 'undo', 'redo' behind either", () -> {
            faulty("undo;undo;", 4, 5);
            faulty("undo;redo;", 4, 5);
            faulty("redo;undo;", 4, 5);
            faulty("redo;leak 1;redo;", 4, 12);
        });
        edges.sentence("a SITE told already", () -> {
            faulty("without a a;", 4, 10);
            faulty("without g;without g;", 4, 18);
            faulty("without a b c d e f g a;", 4, 22);
            faulty("without a b c d e f g;without d;", 4, 30);
        });
        edges.sentence("the ROOT of a 'chain' that has one", () -> {
            faulty("chain 0 1;chain 0 2;", 4, 16);
            faulty("chain 3 1;chain 2 2;chain 003 4;", 4, 26);
            sound("chain 0 1;chain 1 2;chain 2 3;chain 3 4;");
        });
    }

    private static void newObject() {
        edges.sentence("All as by an empty TEXT.", () -> {
            Told heap = new Told();
            Told told = new Told();
            is(0, told.heap(0));
            edges.alike(told, heap);
            for (int what = 0; what < 20; what++) {
                is(0, heap.count(what));
            }
            is(-1, heap.fault());
            is(1, heap.orders());
            is(0, heap.restore());
            is(-1, heap.undo());
            is(-1, heap.steps(1));
            is(0, heap.check(0));
            is(-1, heap.needless());
            is(-1, heap.least(0));
        });
        edges.sentence("The constants: `NONE = -1`: There is none.", () -> is(-1, FenceHeap.NONE));
        edges.sentence("`TOO_MANY = -2`: There are too many orders to look at.", () -> is(-2, FenceHeap.TOO_MANY));
    }

    private static void tape() {
        edges.sentence("Twenty bytes come behind the tape, of each number the highest first: how many it has", () -> {
            Told heap = new Told();
            // "redo;chain 0 1 2;lea" and "k 3;" with 16 blanks.
            is(20, heap.feed(0x7265646f, 0x3b636861, 0x696e2030, 0x20312032, 0x3b6c6561));
            is(40, heap.feed(0x6b20333b, 0x20202020, 0x20202020, 0x20202020, 0x20202020));
            is(40, heap.count(16));
            is(0, heap.heap(40));
            is(1, heap.count(1));
            is(32, heap.media(29));
            is(1, heap.media(36));
            is(20, heap.feed(0x80000000, -1, LOW, HIGH, 0));
            is(1, heap.heap(20));
            is(0, heap.fault());
        });
        edges.sentence("NONE, and none come, if it would have more than 700.", () -> {
            Told heap = new Told();
            is(20, heap.feed(0x7265646f, 0x3b202020, 0x20202020, 0x20202020, 0x20202020));
            for (int i = 2; i <= 35; i++) {
                is(20 * i, heap.feed(0x20202020, 0x20202020, 0x20202020, 0x20202020, 0x20202020));
            }
            for (int i = 0; i < 3; i++) {
                is(-1, heap.feed(0x78787878, 0x78787878, 0x78787878, 0x78787878, 0x78787878));
                is(700, heap.count(16));
            }
            is(0, heap.count(17) + heap.count(18) + heap.count(19));
            is(0, heap.heap(700));
            is(1, heap.count(1));
            is(0, heap.count(16));
            is(20, heap.feed(0, 0, 0, 0, 0));
        });
    }

    private static Told busy() {
        Told heap = Told.of("chain 0 1;do drop 0;do set 40 5;");
        heap.steps(3);
        heap.see(4, 20);
        heap.image();
        heap.steps(2);
        heap.site(6);
        return heap;
    }

    private static void reading() {
        edges.sentence("The tape's first n bytes (it is empty then) are a TEXT, all anew", () -> {
            Told heap = busy();
            heap.put("redo;chain 1 2;xyz");
            is(0, heap.heap(15));
            is(0, heap.count(16));
            is(1, heap.count(1));
            is(32, heap.media(21));
            is(0, heap.media(20));
            for (int what = 3; what < 16; what++) {
                is(0, heap.count(what));
            }
            is(0, heap.count(2));
            heap.put("undo;");
            is(0, heap.heap(0));
            is(0, heap.count(16));
            is(0, heap.media(21));
            heap.put("xyz");
            is(1, heap.heap(3));
            is(0, heap.count(16));
        });
        edges.sentence("are a TEXT, all anew", () -> {
            // Nothing of an earlier text, be it with a fault, is left in a later one.
            Told heap = new Told();
            is(0, heap.tell("redo;without a g;chain 0 1 2;data 3 4 5;leak 6;do set 20 1,sweep,sweep,sweep;do sweep,drop 1;"));
            is(2, heap.tell("redo;without b;chain 1 2;data 4 4 5;leak 7;do set 20 1,sweep,sweep,sweep;do sweep,drop 4;"));
            is(0, heap.tell("chain 0 1;data 3 6 7;data 4 8 9;leak 2;do set 42 5;do set 43 6;"));
            is(26, heap.steps(50));
            is(0, heap.count(1));
            is(0, heap.count(2));
            is(5, heap.media(42));
            is(6, heap.media(43));
            is(0, heap.media(33));
        });
        edges.sentence("0, or the FAULT (all stays, but STATUS).", () -> {
            Told heap = busy();
            heap.put("redo;without a;chain 1 2;data 3 4 5;do sweep;leak 2;");
            is(3, heap.heap(52));
            is(1, heap.count(17));
            is(50, heap.fault());
            is(2, heap.undo());
            is(1, heap.undo());
            is(1, heap.restore());
            is(0, heap.count(17));
            Told same = busy();
            same.undo();
            same.undo();
            is(0, same.count(17));
            same.put("x");
            is(1, same.heap(1));
            same.restore();
            heap.put("x");
            is(1, heap.heap(1));
            heap.restore();
            edges.alike(same, heap);
        });
        edges.sentence("ACTS, what is SEEN, the image of all are gone.", () -> {
            Told heap = busy();
            is(3, heap.count(14));
            is(1, heap.count(15));
            is(0, heap.heap(0));
            is(0, heap.count(14));
            is(0, heap.count(15));
            is(-1, heap.undo());
            is(0, heap.restore());
            is(1, heap.explained(0));
            is(1, heap.see(0, 0));
            is(1, heap.site(0));
            is(1, heap.count(14));
            is(0, heap.undo());
        });
        edges.sentence("IllegalArgumentException: the tape has not so many, n below 0 (nothing changes).", () -> {
            Told heap = busy();
            heap.put("x");
            heap.heap(1);
            Told same = busy();
            same.put("x");
            same.heap(1);
            is(Told.ILLEGAL, heap.heap(1));
            heap.put("redo;");
            same.put("redo;");
            for (int n : new int[] {21, 700, 701, HIGH, -1, LOW}) {
                is(Told.ILLEGAL, heap.heap(n));
            }
            edges.alike(same, heap);
            is(0, heap.heap(20));
            is(1, heap.count(1));
        });
    }

    private static void places() {
        edges.sentence("The place of the latest heap()'s FAULT; NONE without.", () -> {
            Told heap = new Told();
            is(-1, heap.fault());
            is(1, heap.tell("x"));
            is(0, heap.fault());
            is(Told.ILLEGAL, heap.heap(1));
            is(0, heap.fault());
            is(2, heap.tell("  leak 10;"));
            is(7, heap.fault());
            is(0, heap.tell("undo;"));
            is(-1, heap.fault());
            is(1, heap.tell("undo"));
            is(4, heap.fault());
            is(0, heap.heap(0));
            is(-1, heap.fault());
        });
    }
}
