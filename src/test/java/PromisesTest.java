/** One part for each promise of ../shared/DOC.md: ordinary inputs, edges, wrong inputs; what is due was worked out by hand. */
public final class PromisesTest {
    private static final int BAD = -1;
    private static final int STATE = -2;
    private static final int FULL = -3;
    private static final int NONE = -9;
    private static final int NO = -1000000;
    private static final int NOT = -2000000;

    private static int wrong = 0;

    private static void due(String call, long got, long want) {
        if (got != want) {
            wrong++;
            System.out.println(call + " answered " + got + ", due is " + want);
        }
    }

    public static void main(String[] args) {
        newObject();
        type();
        clear();
        tellsFaults();
        tellsSent();
        tellsFull();
        sends();
        marks();
        flips();
        clears();
        undo();
        undoOfEach();
        form();
        bit();
        word();
        recent();
        pieceKinds();
        pieceBreaches();
        pieceRuns();
        pieceBad();
        readPieces();
        readBlamed();
        readLate();
        cuts();
        level();
        evenest();
        evenestBad();
        weight();
        keepAndBack();
        count();
        constants();
        System.out.println(wrong == 0 ? "all answers are as due" : wrong + " answers are not as due");
        if (wrong != 0) {
            System.exit(1);
        }
    }

    // ---- helpers

    private static void write(EvenWords x, String text) {
        for (int i = 0; i < text.length(); i++) {
            x.type(text.charAt(i));
        }
    }

    /** A new object that got these kinds: DATA 0 to 30, 31 and on for the MARKS. */
    private static EvenWords sent(int... kinds) {
        EvenWords x = new EvenWords();
        for (int kind : kinds) {
            if (kind < 31) {
                x.sends(kind);
            } else {
                x.marks(kind - 31);
            }
        }
        return x;
    }

    private static EvenWords turned(EvenWords x, int... bits) {
        for (int bit : bits) {
            x.flips(bit);
        }
        return x;
    }

    private static void telling(String text, int want) {
        EvenWords x = new EvenWords();
        write(x, text);
        due("tells() of '" + text + "'", x.tells(), want);
        boolean told = want >= 0;
        due("letters behind tells() of '" + text + "'", x.count(6), told ? 0 : text.length());
        due("words behind tells() of '" + text + "'", x.count(0), told ? want : 0);
        due("undoable behind tells() of '" + text + "'", x.count(7), told ? 1 : 0);
    }

    private static void counts(String when, EvenWords x, int... want) {
        for (int what = 0; what < want.length; what++) {
            due("count(" + what + ") " + when, x.count(what), want[what]);
        }
    }

    private static void bits(String when, EvenWords x, String want) {
        StringBuilder got = new StringBuilder();
        for (int b = 0; x.bit(b) != BAD; b++) {
            got.append(x.bit(b));
        }
        if (!got.toString().equals(want)) {
            wrong++;
            System.out.println("bits " + when + " are " + got + ", due are " + want);
        }
    }

    // ---- 1 to 4

    private static void newObject() {
        EvenWords x = new EvenWords();
        counts("of a new object", x, 0, 0, 0, 0, 0, 0, 0, 0);
        due("recent(0) of a new object", x.recent(0), NONE);
        due("bit(0) of a new object", x.bit(0), BAD);
        due("word(0) of a new object", x.word(0), BAD);
        due("back(0) of a new object", x.back(0), STATE);
        due("back(1) of a new object", x.back(1), STATE);
        due("undo() of a new object", x.undo(), STATE);
        due("clears() of a new object", x.clears(), STATE);
    }

    private static void type() {
        EvenWords x = new EvenWords();
        due("type(-1)", x.type(-1), BAD);
        due("type(256)", x.type(256), BAD);
        due("type(MIN)", x.type(Integer.MIN_VALUE), BAD);
        due("type(MAX)", x.type(Integer.MAX_VALUE), BAD);
        due("type(0)", x.type(0), 1);
        due("type(255)", x.type(255), 2);
        for (int i = 3; i <= 120; i++) {
            due("type(65), the " + i + "th", x.type(65), i);
        }
        due("type(65) at 120", x.type(65), FULL);
        due("type(256) at 120", x.type(256), BAD);
        due("count(6) at 120", x.count(6), 120);
    }

    private static void clear() {
        EvenWords x = sent(0);
        due("clear() of nothing", x.clear(), 0);
        write(x, "d1;");
        due("clear() of three", x.clear(), 3);
        due("clear() again", x.clear(), 0);
        due("tells() behind clear()", x.tells(), -10);
        counts("behind clear()", x, 1, 0, 3, 0, 2, 0, 0, 1);
    }

    private static void tellsFaults() {
        telling("", -10);
        telling(" ", -11);
        telling("d", -11);
        telling("d ", -12);
        telling("d1", -12);
        telling("d1 ", -13);
        telling("d1;d", -14);
        telling("d1;k2", -15);
        telling(";", -10);
        telling("7", -10);
        telling("x", -10);
        telling("D1;", -10);
        telling("d1x;", -12);
        telling("d x1;", -12);
        telling("dd1;", -11);
        telling("dk1;", -11);
        telling("d;", -11);
        telling("  d  31 ;", -15);
        telling("d31;", -11);
        telling("d99;", -11);
        telling("d100;", -11);
        telling("d1000000000000000000000000;", -11);
        telling("d4294967297;", -11);
        telling("d01;", -11);
        telling("d00;", -11);
        telling("k3;", -11);
        telling("k10;", -11);
        telling("k02;", -11);
        telling("d1 2;", -13);
        telling("d1;5;", -13);
        telling("d1;;", -13);
        telling("d1d2;", -12);
        telling("d1k2;", -12);
        telling("d1; x", -14);
        telling("d31;x", -11);
        telling("x d1;", -10);
        telling("d1;\t", -13);
        telling("\td1;", -10);
        telling("d1:", -12);
        telling("d/;", -11);
        telling("d:;", -11);
        telling("d-1;", -11);
        telling("d" + (char) 178 + ";", -11);
        telling("d1;" + (char) 160, -13);
        telling("d1;" + (char) 0, -13);
        telling(" ".repeat(120), -130);
        telling("1".repeat(120), -10);
        telling("d" + "1".repeat(119), -11);
        telling("d" + " ".repeat(118) + "1", -130);
    }

    private static void tellsSent() {
        telling("d0;", 1);
        telling("d30;", 1);
        telling("d9;", 1);
        telling("d10;", 1);
        telling("k0;", 1);
        telling("k2;", 1);
        telling("  d  1  ;  k  2  ;  ", 2);
        telling("d1;d2;d3;k0;k1;", 5);
        telling("d0;".repeat(32), 32);
        EvenWords x = sent(18);
        write(x, "d 18;k 1; d30;d 0;");
        due("tells() behind a word", x.tells(), 4);
        bits("behind tells()", x, "010111" + "101000" + "011110" + "000111" + "001011");
        due("word(2)", x.word(2), 32);
        due("recent(0) behind tells()", x.recent(0), 1);
        counts("behind tells()", x, 5, 1, 4 + 2 + 4 + 3 + 3, 0, 4, 1, 0, 2);
        due("undo() of tells()", x.undo(), 1);
        bits("behind undo() of tells()", x, "010111");
        counts("behind undo() of tells()", x, 1, 1, 4, 0, 3, 0, 0, 1);
        due("recent(0) behind undo() of tells()", x.recent(0), NONE);
    }

    private static void tellsFull() {
        EvenWords x = new EvenWords();
        write(x, "d0;".repeat(40));
        due("tells() of 40", x.tells(), FULL);
        counts("behind tells() of 40", x, 0, 0, 0, 0, 0, 0, 120, 0);
        x.clear();
        write(x, "d0;".repeat(33));
        due("tells() of 33", x.tells(), FULL);
        x.clear();
        write(x, "d0;".repeat(33) + "y");
        due("tells() of 33 and a fault", x.tells(), -109);
        x.clear();
        write(x, "d0;".repeat(30));
        due("tells() of 30", x.tells(), 30);
        write(x, "k0;k1;k2;");
        due("tells() of 3 more", x.tells(), FULL);
        counts("behind tells() that is FULL", x, 30, 0, 90, 0, 2, 0, 9, 1);
        due("recent(0) behind tells() that is FULL", x.recent(0), NONE);
        x.clear();
        write(x, "k0;k1;");
        due("tells() of 2 more", x.tells(), 2);
        due("count(0)", x.count(0), 32);
        write(x, "d0;");
        due("tells() of 1 more", x.tells(), FULL);
        due("clear() behind it", x.clear(), 3);
    }

    // ---- 5 to 9

    private static void sends() {
        int[] formA = {11, 13, 14, 19, 21, 22, 25, 26, 28, 35, 37, 38, 41, 42, 44, 49, 50, 52,
            23, 27, 29, 39, 43, 45, 46, 51, 53, 54, 57, 58, 56};
        int[] formB = {11, 13, 14, 19, 21, 22, 25, 26, 28, 35, 37, 38, 41, 42, 44, 49, 50, 52,
            40, 36, 34, 24, 20, 18, 17, 12, 10, 9, 6, 5, 7};
        for (int data = 0; data <= 30; data++) {
            EvenWords x = new EvenWords();
            due("sends(" + data + ") at SUM -1", x.sends(data), formA[data]);
            due("SUM behind it", x.count(1), data >= 18 && data < 30 ? 1 : 0);
            EvenWords y = sent(18);
            due("sends(" + data + ") at SUM 1", y.sends(data), formB[data]);
            due("SUM behind it", y.count(1), data >= 18 && data < 30 ? 0 : 1);
        }
        EvenWords x = new EvenWords();
        due("sends(-1)", x.sends(-1), BAD);
        due("sends(31)", x.sends(31), BAD);
        due("sends(MIN)", x.sends(Integer.MIN_VALUE), BAD);
        counts("behind sends() that is BAD", x, 0, 0, 0, 0, 0, 0, 0, 0);
        for (int i = 0; i < 32; i++) {
            due("sends(18)", x.sends(18), i % 2 == 0 ? 23 : 40);
        }
        due("sends(18), the 33rd", x.sends(18), FULL);
        due("sends(31) at 32", x.sends(31), BAD);
        due("count(0)", x.count(0), 32);
        due("count(7)", x.count(7), 6);
    }

    private static void marks() {
        int[] formA = {15, 30, 60};
        for (int mark = 0; mark <= 2; mark++) {
            EvenWords x = new EvenWords();
            due("marks(" + mark + ") at SUM -1", x.marks(mark), formA[mark]);
            due("SUM behind it", x.count(1), 1);
            due("marks(" + mark + ") at SUM 1", x.marks(mark), 63 - formA[mark]);
            due("SUM behind it", x.count(1), 0);
            due("word(1)", x.word(1), 31 + mark);
        }
        EvenWords x = new EvenWords();
        due("marks(-1)", x.marks(-1), BAD);
        due("marks(3)", x.marks(3), BAD);
        due("marks(MAX)", x.marks(Integer.MAX_VALUE), BAD);
        counts("behind marks() that is BAD", x, 0, 0, 0, 0, 0, 0, 0, 0);
        write(x, "d0;".repeat(32));
        x.tells();
        due("marks(0), the 33rd", x.marks(0), FULL);
        due("marks(3) at 32", x.marks(3), BAD);
        due("recent(0)", x.recent(0), NONE);
        due("count(7)", x.count(7), 1);
    }

    private static void flips() {
        EvenWords x = new EvenWords();
        due("flips(0) of nothing", x.flips(0), BAD);
        x = sent(18, 0);
        due("flips(-1)", x.flips(-1), BAD);
        due("flips(12)", x.flips(12), BAD);
        due("flips(MAX)", x.flips(Integer.MAX_VALUE), BAD);
        due("count(7) behind flips() that is BAD", x.count(7), 2);
        due("flips(0)", x.flips(0), 1);
        due("flips(5)", x.flips(5), 0);
        due("flips(11)", x.flips(11), 0);
        bits("turned", x, "110110" + "001010");
        counts("turned", x, 2, 1, 6, 3, 3, 0, 0, 5);
        due("word(0) turned", x.word(0), 18);
        due("sends(18) behind turned bits", x.sends(18), 40);
        due("flips(0) back", x.flips(0), 0);
        due("count(3)", x.count(3), 2);
    }

    private static void clears() {
        EvenWords x = sent(18, 31, 32, 18);
        x.flips(3);
        write(x, "d1");
        x.keep(1);
        due("clears()", x.clears(), 4);
        counts("behind clears()", x, 0, 0, 0, 0, 0, 0, 2, 6);
        due("recent(0) behind clears()", x.recent(0), NONE);
        due("clears() of nothing", x.clears(), STATE);
        due("count(7) behind clears() of nothing", x.count(7), 6);
        due("sends(18) behind clears()", x.sends(18), 23);
        due("undo()", x.undo(), 5);
        due("undo() of clears()", x.undo(), 4);
        bits("behind undo() of clears()", x, "010011" + "110000" + "011110" + "101000");
        counts("behind undo() of clears()", x, 4, 0, 11, 1, 5, 2, 2, 4);
        due("recent(0)", x.recent(0), 0);
        due("recent(1)", x.recent(1), 1);
        x.clears();
        due("back(1) behind clears()", x.back(1), 4);
    }

    private static void undo() {
        EvenWords x = new EvenWords();
        for (int data = 0; data < 8; data++) {
            due("count(7)", x.count(7), Math.min(data, 6));
            x.sends(data);
        }
        for (int left = 5; left >= 0; left--) {
            due("undo()", x.undo(), left);
            due("count(7) behind undo()", x.count(7), left);
            due("count(0) behind undo()", x.count(0), left + 2);
            due("the last word behind undo()", x.word(left + 1), left + 1);
        }
        due("undo() of what is lost", x.undo(), STATE);
        due("count(0)", x.count(0), 2);
        x.sends(18);
        x.undo();
        x.sends(19);
        due("undo() behind undo() and sends()", x.undo(), 0);
        due("count(0)", x.count(0), 2);
        due("undo() again", x.undo(), STATE);
    }

    private static void undoOfEach() {
        EvenWords x = sent(31, 32);
        x.flips(2);
        x.flips(3);
        write(x, "k2; d5;");
        x.tells();
        x.marks(0);
        write(x, "abc");
        due("undo() of marks()", x.undo(), 5);
        due("recent(0)", x.recent(0), 1);
        due("recent(1)", x.recent(1), 2);
        due("undo() of tells()", x.undo(), 4);
        due("recent(0)", x.recent(0), 0);
        due("recent(1)", x.recent(1), 1);
        counts("behind undo() of tells()", x, 2, 0, 4, 2, 4, 2, 3, 4);
        due("undo() of flips()", x.undo(), 3);
        bits("behind undo() of flips()", x, "000111" + "100001");
        due("undo() of flips()", x.undo(), 2);
        bits("behind undo() of flips()", x, "001111" + "100001");
        due("undo() of marks()", x.undo(), 1);
        counts("behind undo() of marks()", x, 1, 1, 4, 0, 4, 1, 3, 1);
        x.type(256);
        x.tells();
        x.sends(31);
        x.flips(6);
        x.keep(0);
        due("undo() behind refused calls", x.undo(), 0);
        counts("behind the last undo()", x, 0, 0, 0, 0, 0, 0, 3, 0);
    }

    // ---- 10 to 13

    private static void form() {
        int[] formA = {11, 13, 14, 19, 21, 22, 25, 26, 28, 35, 37, 38, 41, 42, 44, 49, 50, 52,
            23, 27, 29, 39, 43, 45, 46, 51, 53, 54, 57, 58, 56, 15, 30, 60};
        EvenWords x = sent(18);
        for (int k = 0; k <= 33; k++) {
            due("form(" + k + ", 0)", x.form(k, 0), formA[k]);
            due("form(" + k + ", 1)", x.form(k, 1), k <= 17 ? formA[k] : 63 - formA[k]);
        }
        due("form(-1, 0)", x.form(-1, 0), BAD);
        due("form(34, 0)", x.form(34, 0), BAD);
        due("form(34, 1)", x.form(34, 1), BAD);
        due("form(-1, 1)", x.form(-1, 1), BAD);
        due("form(0, -1)", x.form(0, -1), BAD);
        due("form(0, 2)", x.form(0, 2), BAD);
        due("form(MIN, MAX)", x.form(Integer.MIN_VALUE, Integer.MAX_VALUE), BAD);
    }

    private static void bit() {
        EvenWords x = sent(18, 18);
        bits("of two words", x, "010111101000");
        due("bit(-1)", x.bit(-1), BAD);
        due("bit(12)", x.bit(12), BAD);
        due("bit(MAX)", x.bit(Integer.MAX_VALUE), BAD);
        due("bit(MIN)", x.bit(Integer.MIN_VALUE), BAD);
        write(x, "d0;".repeat(30));
        x.tells();
        due("bit(191)", x.bit(191), 1);
        due("bit(192)", x.bit(192), BAD);
    }

    private static void word() {
        EvenWords x = sent(30, 33, 0, 31, 18);
        int[] want = {30, 33, 0, 31, 18, BAD};
        for (int w = 0; w < want.length; w++) {
            due("word(" + w + ")", x.word(w), want[w]);
        }
        due("word(-1)", x.word(-1), BAD);
        due("word(MAX)", x.word(Integer.MAX_VALUE), BAD);
        x.flips(0);
        due("word(0) turned", x.word(0), 30);
        x.clears();
        due("word(0) behind clears()", x.word(0), BAD);
    }

    private static void recents(EvenWords x, String when, int first, int second) {
        due("recent(0) behind " + when, x.recent(0), first);
        due("recent(1) behind " + when, x.recent(1), second);
        due("recent(2) behind " + when, x.recent(2), NONE);
        due("recent(MAX)", x.recent(Integer.MAX_VALUE), NONE);
        due("recent(-1)", x.recent(-1), BAD);
        due("recent(MIN)", x.recent(Integer.MIN_VALUE), BAD);
    }

    private static void recent() {
        recents(sent(), "nothing", NONE, NONE);
        recents(sent(5), "no MARK", NONE, NONE);
        recents(sent(31), "0", 0, NONE);
        recents(sent(31, 31, 4), "0 0", 0, NONE);
        recents(sent(31, 33), "0 2", 0, 2);
        recents(sent(31, 33, 33), "0 2 2", 0, 2);
        recents(sent(31, 33, 31), "0 2 0", 2, 0);
        recents(sent(31, 33, 31, 1, 31), "0 2 0 0", 2, 0);
        recents(sent(31, 32, 33), "0 1 2", 1, 2);
        recents(sent(31, 32, 33, 31), "0 1 2 0", 2, 0);
        EvenWords x = sent(31, 33);
        write(x, "k0;k1;");
        x.tells();
        recents(x, "0 2 told 0 1", 0, 1);
    }

    // ---- 14 to 16

    private static void pieceOf(EvenWords x, String when, int f, int u, int p, int... want) {
        for (int what = 0; what < want.length; what++) {
            due("piece(" + f + ", " + u + ", " + p + ", " + what + ") " + when, x.piece(f, u, p, what), want[what]);
        }
    }

    private static void pieceKinds() {
        EvenWords x = sent(30);
        pieceOf(x, "of 111000", 0, 0, 0, 56, 30, 1, 0, 0);
        // by u 1 the LEVEL is 4 behind the third bit, and 7 is due
        pieceOf(x, "of 111000", 0, 1, 0, 56, 30, 0, 2 + 8, 1);
        pieceOf(turned(sent(30), 0), "of 011000", 0, 0, 0, 24, 21, 0, 2, 0);
        pieceOf(turned(sent(30), 0), "of 011000", 0, 1, 0, 24, 21, 1, 0, 0);
        pieceOf(turned(sent(30), 3), "of 111100", 0, 0, 0, 60, 33, 1, 0, 1);
        pieceOf(turned(sent(30), 3, 4), "of 111110", 0, 0, 0, 62, NONE, 0, 1 + 8, 1);
        pieceOf(turned(sent(30), 0, 1), "of 001000", 0, 1, 0, 8, NONE, 0, 1, 0);
        pieceOf(turned(sent(30), 0, 1), "of 001000", 0, 0, 0, 8, NONE, 0, 1 + 8, 0);
        pieceOf(turned(sent(30), 0, 1, 2, 3, 4, 5), "of 000111", 0, 1, 0, 7, 30, 1, 0, 1);
        EvenWords y = sent(18, 18, 0);
        pieceOf(y, "of 010111 101000 001011", 0, 0, 1, 40, 18, 1, 0, 0);
        // by u 1 the first PIECE ends at LEVEL 3, then it is 4
        pieceOf(y, "of 010111 101000 001011", 0, 1, 1, 40, 18, 1, 8, 0);
        // 1 011110 100000 1011
        pieceOf(y, "from 1 on", 1, 0, 0, 47, NONE, 0, 1, 1);
        pieceOf(y, "from 1 on", 1, 0, 1, 16, NONE, 0, 1, 0);
        pieceOf(y, "from 1 on", 1, 0, 2, NONE, NONE, NONE, NONE, NONE);
        pieceOf(y, "ends", 0, 0, 3, NONE, NONE, NONE, NONE, NONE);
        due("piece(0, 0, MAX, 0)", y.piece(0, 0, Integer.MAX_VALUE, 0), NONE);
        everyNumber();
    }

    /** Every number of six bits, made of DATA 30 by turned bits, against what the terms say of it. */
    private static void everyNumber() {
        EvenWords forms = new EvenWords();
        for (int number = 0; number < 64; number++) {
            EvenWords x = sent(30);
            for (int b = 0; b < 6; b++) {
                if (((number ^ 56) >> (5 - b) & 1) == 1) {
                    x.flips(b);
                }
            }
            for (int u = 0; u <= 1; u++) {
                int means = NONE;
                int right = 0;
                for (int k = 0; k <= 33; k++) {
                    if (forms.form(k, 0) == number || forms.form(k, 1) == number) {
                        means = k;
                    }
                    if (forms.form(k, u) == number) {
                        right = 1;
                    }
                }
                int ones = Integer.bitCount(number);
                int behind = ones > 3 ? 1 : ones < 3 ? 0 : u;
                String call = "piece(0, " + u + ", 0, .) of " + number;
                due(call + " as a number", x.piece(0, u, 0, 0), number);
                due(call + ": what it is", x.piece(0, u, 0, 1), means);
                due(call + ": whether RIGHT", x.piece(0, u, 0, 2), right);
                due(call + ": BREACHES 1, 2", x.piece(0, u, 0, 3) & 3, means == NONE ? 1 : right == 1 ? 0 : 2);
                due(call + ": SUM behind", x.piece(0, u, 0, 4), behind);
            }
        }
    }

    private static void pieceBreaches() {
        // LEVEL by u -1: -2 -3 -2 -3 -2 -1, so -3 is no BREACH
        due("BREACHES of 001011", sent(0).piece(0, 0, 0, 3), 0);
        // by u 1: 2 3 2 3 2 1, so 3 is none
        due("BREACHES of 110100", sent(17).piece(0, 1, 0, 3), 0);
        // by u -1: -2 -3 -4 -3 -2 -1
        due("BREACHES of 000111", turned(sent(30), 0, 1, 2, 3, 4, 5).piece(0, 0, 0, 3), 2 + 8);
        // a LEVEL that stays far counts at each PIECE: 111111 010111 by u -1 goes to 5 and stays above 3
        EvenWords x = turned(sent(30, 18), 3, 4, 5);
        due("BREACHES of 111111", x.piece(0, 0, 0, 3), 1 + 8);
        due("BREACHES of 010111 behind it", x.piece(0, 0, 1, 3), 2 + 8);
        due("SUM behind 111111", x.piece(0, 0, 0, 4), 1);
        // by the SUM of the PIECES, not by what was SENT: 010111 turned to 010101, then 101000 is not RIGHT
        EvenWords y = turned(sent(18, 18), 4);
        due("BREACHES of 010101", y.piece(0, 0, 0, 3), 0);
        due("BREACHES of 101000 behind it", y.piece(0, 0, 1, 3), 2);
        due("count(1) stays", y.count(1), 0);
    }

    private static void pieceRuns() {
        // 111000 000111: a RUN of 6; LEVEL by u -1 goes to -4
        EvenWords six = turned(sent(30, 30), 6, 7, 8, 9, 10, 11);
        due("BREACHES behind a RUN of 6", six.piece(0, 0, 1, 3), 2 + 8);
        // 111000 000011: a RUN of 7
        EvenWords seven = turned(sent(30, 0), 8);
        pieceOf(seven, "with a RUN of 7", 0, 0, 1, 3, 33, 0, 2 + 4 + 8, 0);
        pieceOf(seven, "with a RUN of 7", 0, 1, 1, 3, 33, 1, 4, 0);
        due("BREACHES ahead of it", seven.piece(0, 0, 0, 3), 0);
        // READ from 4 on, the same zeros are a RUN of 6: 000000 by u 1 goes to -5
        due("BREACHES from 4 on", seven.piece(4, 1, 0, 3), 1 + 8);
        // READ from 3 on: 000000 0.. is one PIECE only, its RUN is 6
        due("BREACHES from 3 on", seven.piece(3, 1, 0, 3), 1 + 8);
        due("no second PIECE from 3 on", seven.piece(3, 1, 1, 3), NONE);
    }

    private static void pieceBad() {
        EvenWords x = sent(0);
        int[][] bad = {{-1, 0, 0, 0}, {6, 0, 0, 0}, {0, -1, 0, 0}, {0, 2, 0, 0}, {0, 0, -1, 0}, {0, 0, 0, -1},
            {0, 0, 0, 5}, {6, 0, 9, 0}, {0, 2, 9, 0}, {0, 0, 9, 5}, {Integer.MIN_VALUE, 0, 0, 0},
            {0, 0, Integer.MIN_VALUE, 0}, {Integer.MAX_VALUE, 1, 1, 1}};
        for (int[] a : bad) {
            due("piece(" + a[0] + ", " + a[1] + ", " + a[2] + ", " + a[3] + ")",
                x.piece(a[0], a[1], a[2], a[3]), BAD);
        }
        due("piece(5, 1, 0, 4)", x.piece(5, 1, 0, 4), NONE);
        due("piece(0, 0, 0, 0) of no WORDS", sent().piece(0, 0, 0, 0), NONE);
        due("piece(5, 1, 0, 4) of no WORDS", sent().piece(5, 1, 0, 4), NONE);
    }

    private static void reads(EvenWords x, String when, int f, int u, int... want) {
        for (int what = 0; what < want.length; what++) {
            due("read(" + f + ", " + u + ", " + what + ") " + when, x.read(f, u, what), want[what]);
        }
    }

    private static void readPieces() {
        reads(sent(), "of no WORDS", 0, 0, 0, NONE, 0, 0, NONE, NOT);
        reads(sent(), "of no WORDS", 5, 1, 0, NONE, 0, 0, NONE, NOT);
        reads(sent(0), "of a WORD", 1, 0, 0, NONE, 0, 0, NONE, NOT);
        for (int f = 0; f <= 5; f++) {
            due("read(" + f + ", 0, 0) of 3", sent(0, 1, 2).read(f, 0, 0), f == 0 ? 3 : 2);
        }
        // 010111 101000 001011 by u 1: 23 is not RIGHT and goes to 4, then 101000 is RIGHT but goes on from 3 to 4
        EvenWords x = sent(18, 18, 0);
        due("FIRST by u -1", x.read(0, 0, 1), NONE);
        due("with a BREACH by u -1", x.read(0, 0, 2), 0);
        due("FIRST by u 1", x.read(0, 1, 1), 0);
        due("with a BREACH by u 1", x.read(0, 1, 2), 2);
        // 111000 000011 by u -1: the second PIECE alone, by u 1 both
        EvenWords y = turned(sent(30, 0), 8);
        due("FIRST", y.read(0, 0, 1), 1);
        due("with a BREACH", y.read(0, 0, 2), 1);
        due("FIRST by u 1", y.read(0, 1, 1), 0);
        due("with a BREACH by u 1", y.read(0, 1, 2), 2);
        int[][] bad = {{-1, 0, 0}, {6, 0, 0}, {0, -1, 0}, {0, 2, 0}, {0, 0, -1}, {0, 0, 6},
            {Integer.MIN_VALUE, 0, 0}, {0, Integer.MAX_VALUE, 0}, {0, 0, Integer.MIN_VALUE}};
        for (int[] a : bad) {
            due("read(" + a[0] + ", " + a[1] + ", " + a[2] + ")", x.read(a[0], a[1], a[2]), NO);
        }
    }

    private static void readBlamed() {
        // 001011 by u -1; a bit turned: 101011 011011 000011 001111 001001 001010: right are 43, 27 and 15 alone,
        // and none of them goes beyond 3
        reads(sent(0), "of 001011", 0, 0, 1, NONE, 0, 3, 0, NOT);
        // by u 1: right are 3 (to -3), 9 and 10; LEVELS of 000011: 0 -1 -2 -3 -2 -1
        reads(sent(0), "of 001011", 0, 1, 1, NONE, 0, 3, 2, NOT);
        // 001000 by u 1 is no FORM; right would be 101000 011000 001100 001010 001001 (000000 is none)
        reads(turned(sent(30), 0, 1), "of 001000", 0, 1, 1, 0, 1, 5, 0, 0);
        // the bits ahead of f are of no PIECE: 00 101100 1011 from 2 on by u -1: 44 is RIGHT;
        // right with one turned are 111100 011.. no: 101100 ^ one bit with four ones: 60 (111100), 46, 45
        reads(sent(0, 0), "from 2 on", 2, 0, 1, NONE, 0, 3, 3, NOT);
        // 000000 can't be made right by one bit
        reads(turned(sent(30), 0, 1, 2), "of 000000", 0, 1, 1, 0, 1, 0, NONE, NOT);
    }

    private static void readLate() {
        // DATA 18 DATA 0 DATA 18: 010111 001011 101000; bit 1 turned: 000111 is DATA 30 in FORM B, at once a BREACH
        EvenWords soon = turned(sent(18, 0, 18), 1);
        due("FIRST", soon.read(0, 0, 1), 0);
        due("LATE", soon.read(0, 0, 5), 0);
        // bit 4 turned: 010101 is DATA 4, no BREACH; 101000 two PIECES behind is the first that is not RIGHT
        EvenWords x = turned(sent(18, 0, 18), 4);
        due("FIRST", x.read(0, 0, 1), 2);
        due("with a BREACH", x.read(0, 0, 2), 1);
        // 010101 001011 101000, u -1: of the first PIECE with a one more 53, 29, 23 are RIGHT (0, 2, 4),
        // then 001011 from LEVEL 1 and 101000 from 1: no BREACH; of the second 43, 27, 15 are (6, 7, 9),
        // and of the last none but 10 11 10 ..: 101000 with one bit more is DATA: 56 (13), 44 (15), 42 (16), 41 (17)
        due("BLAMED", x.read(0, 0, 3), 10);
        due("the lowest", x.read(0, 0, 4), 0);
        due("LATE", x.read(0, 0, 5), 2);
        // 010111 101000 001011 010101 101000, the last not RIGHT: no bit of the first PIECE helps, for 101000 is RIGHT
        // by it alone; 101000 helps with 9, 10 or 11 (not 7: 111000 is not due); then 3, 3 and 4 bits more
        EvenWords y = turned(sent(18, 18, 0, 18, 18), 22);
        reads(y, "of five WORDS", 0, 0, 5, 4, 1, 13, 9, 3);
        reads(sent(0), "of one WORD behind it", 0, 0, 1, NONE, 0, 3, 0, NOT);
        due("BLAMED of none by the same object", y.clears() + y.read(0, 0, 3), 5);
    }

    private static void cutsOf(EvenWords x, String when, int... want) {
        due("cuts(-1) of " + when, x.cuts(-1), want.length);
        for (int k = 0; k < want.length; k++) {
            due("cuts(" + k + ") of " + when, x.cuts(k), want[k]);
        }
        due("cuts() behind the last of " + when, x.cuts(want.length), NONE);
        due("cuts(MAX)", x.cuts(Integer.MAX_VALUE), NONE);
        due("cuts(-2)", x.cuts(-2), BAD);
        due("cuts(MIN)", x.cuts(Integer.MIN_VALUE), BAD);
    }

    private static void cuts() {
        cutsOf(sent(), "nothing");
        cutsOf(sent(0), "001011", 0, 1);
        cutsOf(sent(18), "010111", 0);
        // 010101 010101: 21 and 42 by turns, by either SUM
        cutsOf(sent(4, 4), "010101 010101", 0, 1, 2, 3, 4, 5, 6, 7, 8, 9, 10, 11);
        // 111000 111000: 56 is RIGHT by -1; 110001 by either (1 1 0 0 0 1 by u 1: 2 3 2 1 0 1); 100011; 000111 by 1;
        // 001110; 011100 by either
        cutsOf(sent(30, 30), "111000 111000", 0, 2, 3, 4, 5, 7, 8, 9, 10, 11);
        cutsOf(turned(sent(30), 0, 1, 2), "000000");
    }

    // ---- 17 to 19

    private static void level() {
        EvenWords x = sent(0);
        // 001011: -2 -3 -2 -3 -2 -1
        int[] times = {0, 2, 3, 1, 0, 0};
        int[] above = {-3, -2, -1, NOT, NOT, NOT};
        int[] below = {NOT, NOT, -3, -2, -1, -1};
        for (int i = 0; i < times.length; i++) {
            due("level(" + (i - 4) + ", 0)", x.level(i - 4, 0), times[i]);
            due("level(" + (i - 4) + ", 1)", x.level(i - 4, 1), above[i]);
            due("level(" + (i - 4) + ", 2)", x.level(i - 4, 2), below[i]);
        }
        due("level(-300, 1)", x.level(-300, 1), -3);
        due("level(300, 2)", x.level(300, 2), -1);
        due("level(-300, 0)", x.level(-300, 0), 0);
        due("level(-300, 2)", x.level(-300, 2), NOT);
        due("level(300, 1)", x.level(300, 1), NOT);
        due("level(-301, 0)", x.level(-301, 0), NO);
        due("level(301, 2)", x.level(301, 2), NO);
        due("level(MIN, 0)", x.level(Integer.MIN_VALUE, 0), NO);
        due("level(0, -1)", x.level(0, -1), NO);
        due("level(0, 3)", x.level(0, 3), NO);
        // 111111 by turned bits: 0 1 2 3 4 5
        EvenWords y = turned(sent(30), 3, 4, 5);
        due("level(5, 0) turned", y.level(5, 0), 1);
        due("level(2, 1) turned", y.level(2, 1), 3);
        due("level(2, 2) turned", y.level(2, 2), 1);
        due("level(-1, 0): ahead of all bits does not count", y.level(-1, 0), 0);
        due("level(0, 2)", y.level(0, 2), NOT);
        due("level(0, 0) of no WORDS", sent().level(0, 0), 0);
        due("level(0, 1) of no WORDS", sent().level(0, 1), NOT);
        due("level(0, 2) of no WORDS", sent().level(0, 2), NOT);
    }

    private static void orderOf(EvenWords x, String when, int longest, int... order) {
        int n = order.length;
        due("evenest(" + n + ", -1) of " + when, x.evenest(n, -1), longest);
        for (int i = 0; i < n; i++) {
            due("evenest(" + n + ", " + i + ") of " + when, x.evenest(n, i), order[i]);
        }
        due("evenest(" + n + ", " + n + ") of " + when, x.evenest(n, n), NONE);
    }

    private static void evenest() {
        orderOf(sent(0), "001011", 2, 0);
        // 100011 111000 has a RUN of 5, 111000 100011 of 3
        orderOf(sent(9, 30), "100011 111000", 3, 1, 0);
        orderOf(sent(30, 9), "111000 100011", 3, 0, 1);
        // 5 either way
        orderOf(sent(30, 0), "111000 001011", 5, 0, 1);
        orderOf(sent(0, 30), "001011 111000", 5, 0, 1);
        // FORMS go by the order: 010111 100100 has 4, 011011 101000 has 3
        orderOf(sent(18, 19), "DATA 18 19", 3, 1, 0);
        // turned bits don't matter, nor the words ahead of the last n but for where they leave RUN and SUM
        orderOf(turned(sent(9, 30), 0, 1, 2, 3, 4, 5, 8), "100011 111000 turned", 3, 1, 0);
        // behind 010111, at SUM 1, either order has 4 at once
        orderOf(sent(18, 18, 19), "DATA 18 18 19", 4, 0, 1);
        // behind 011011, at SUM 1: 101000 011011 has 4, 100100 010111 has 3
        orderOf(sent(19, 18, 19), "DATA 19 18 19", 3, 1, 0);
        // what is ahead has 5, so the last two stay as they are
        orderOf(sent(9, 30, 9, 30), "100011 111000 100011 111000", 5, 0, 1);
        // the RUN goes on from what is ahead: behind 100011, 111000 101001 has 5, 101001 111000 has 4
        orderOf(sent(9, 30, 12), "100011, 111000 101001", 4, 1, 0);
        orderOf(turned(sent(9, 30, 12), 4, 5), "100011 turned, 111000 101001", 4, 1, 0);
        orderOf(sent(4, 4, 4, 4, 4, 4), "six of 010101", 1, 0, 1, 2, 3, 4, 5);
        orderOf(sent(13, 4, 4, 4, 4, 4), "101010, then 010101", 1 + 1, 0, 1, 2, 3, 4, 5);
    }

    private static void evenestBad() {
        EvenWords x = sent(0, 1);
        due("evenest(0, -1)", x.evenest(0, -1), BAD);
        due("evenest(7, -1)", x.evenest(7, -1), BAD);
        due("evenest(-1, 0)", x.evenest(-1, 0), BAD);
        due("evenest(MIN, 0)", x.evenest(Integer.MIN_VALUE, 0), BAD);
        due("evenest(1, -2)", x.evenest(1, -2), BAD);
        due("evenest(3, -2)", x.evenest(3, -2), BAD);
        due("evenest(1, MIN)", x.evenest(1, Integer.MIN_VALUE), BAD);
        due("evenest(3, -1)", x.evenest(3, -1), STATE);
        due("evenest(6, 9)", x.evenest(6, 9), STATE);
        due("evenest(2, 2)", x.evenest(2, 2), NONE);
        due("evenest(1, MAX)", x.evenest(1, Integer.MAX_VALUE), NONE);
        counts("behind evenest()", x, 2, 0, 6, 0, 2, 0, 0, 2);
    }

    private static void weight() {
        EvenWords x = sent(0);
        // -2 -3 -2 -3 -2 -1, times 1 2 3 4 5 6
        due("weight(1)", x.weight(1), -42);
        due("weight(-1)", x.weight(-1), 42);
        due("weight(0)", x.weight(0), 0);
        due("weight(23809)", x.weight(23809), -999978);
        due("weight(-23809)", x.weight(-23809), 999978);
        due("weight(-23810)", x.weight(-23810), NO);
        due("weight(23810)", x.weight(23810), NO);
        due("weight(MIN)", x.weight(Integer.MIN_VALUE), NO);
        due("weight(MAX)", x.weight(Integer.MAX_VALUE), NO);
        // 011011: -2 -1 0 -1 0 1: -2 in all
        EvenWords y = sent(19);
        due("weight(-499999)", y.weight(-499999), 999998);
        due("weight(499999)", y.weight(499999), -999998);
        due("weight(-500000)", y.weight(-500000), NO);
        due("weight(MIN) of -2", y.weight(Integer.MIN_VALUE), NO);
        y.flips(5);
        // 011010: .. -1 at last
        due("weight(1) turned", y.weight(1), -14);
        due("weight(MAX) of no WORDS", sent().weight(Integer.MAX_VALUE), 0);
    }

    // ---- 20 to 22

    private static void keepAndBack() {
        EvenWords x = sent(31, 32, 18);
        x.flips(4);
        due("keep(0)", x.keep(0), 3);
        due("keep(2)", x.keep(2), BAD);
        due("keep(-1)", x.keep(-1), BAD);
        due("keep(MIN)", x.keep(Integer.MIN_VALUE), BAD);
        due("back(2)", x.back(2), BAD);
        due("back(-1)", x.back(-1), BAD);
        due("back(MAX)", x.back(Integer.MAX_VALUE), BAD);
        due("back(1), not kept", x.back(1), STATE);
        due("count(7) behind back() that is refused", x.count(7), 4);
        x.marks(2);
        x.flips(0);
        write(x, "d3");
        due("keep(1)", x.keep(1), 4);
        due("count(7) behind keep()", x.count(7), 6);
        due("back(0)", x.back(0), 3);
        bits("behind back(0)", x, "001101" + "100001" + "010111");
        counts("behind back(0)", x, 3, 1, 9, 1, 4, 2, 2, 0);
        due("recent(0)", x.recent(0), 0);
        due("recent(1)", x.recent(1), 1);
        due("word(2)", x.word(2), 18);
        due("undo() behind back()", x.undo(), STATE);
        x.clears();
        due("back(1)", x.back(1), 4);
        bits("behind back(1)", x, "101101" + "100001" + "010111" + "000011");
        due("recent(0)", x.recent(0), 1);
        due("recent(1)", x.recent(1), 2);
        x.sends(0);
        x.flips(3);
        due("back(1) again", x.back(1), 4);
        bits("behind back(1) again", x, "101101" + "100001" + "010111" + "000011");
        x.clears();
        due("keep(1) of no WORDS", x.keep(1), 0);
        due("back(0)", x.back(0), 3);
        due("back(1) of no WORDS", x.back(1), 0);
        counts("behind back(1) of no WORDS", x, 0, 0, 0, 0, 0, 0, 2, 0);
        x.sends(5);
        due("undo() behind back() and sends()", x.undo(), 0);
    }

    private static void count() {
        EvenWords x = sent(18, 31, 30, 33);
        write(x, "xy");
        // 010111 110000 111000 111100, SUM 1 0 0 1
        counts("of four WORDS", x, 4, 1, 4 + 2 + 3 + 4, 0, 5, 2, 2, 4);
        x.flips(8);
        x.flips(10);
        x.flips(10);
        counts("with a bit TURNED", x, 4, 1, 14, 1, 6, 2, 2, 6);
        due("count(-1)", x.count(-1), BAD);
        due("count(8)", x.count(8), BAD);
        due("count(MIN)", x.count(Integer.MIN_VALUE), BAD);
        due("count(MAX)", x.count(Integer.MAX_VALUE), BAD);
        // all of 32 WORDS turned to ones
        EvenWords y = new EvenWords();
        write(y, "d13;".repeat(30));
        y.tells();
        y.sends(13);
        y.sends(13);
        for (int b = 1; b < 192; b += 2) {
            y.flips(b);
        }
        counts("of 192 ones", y, 32, 0, 192, 96, 192, 0, 0, 6);
        due("level(191, 0) of 192 ones", y.level(191, 0), 1);
        due("level(191, 1) of 192 ones", y.level(191, 1), NOT);
        due("level(300, 2) of 192 ones", y.level(300, 2), 191);
        // b times b and 1, b from 0 to 191, together 2359232
        due("weight(1) of 192 ones", y.weight(1), NO);
    }

    private static void constants() {
        due("BAD", EvenWords.BAD, -1);
        due("STATE", EvenWords.STATE, -2);
        due("FULL", EvenWords.FULL, -3);
        due("NONE", EvenWords.NONE, -9);
        due("NO", EvenWords.NO, -1000000);
        due("NOT", EvenWords.NOT, -2000000);
    }
}
