/** The sentences that name a bound: THE WIRE as it is, READ, CUTS, and promises 10 to 16. */
public final class BoundsOfReadingTest {
    public static void main(String[] args) {
        form();
        bit();
        word();
        recent();
        pieceBad();
        pieces();
        right();
        meanings();
        sumBehind();
        formBreaches();
        runBreaches();
        levelBreaches();
        readBad();
        first();
        blamed();
        blamedBits();
        late();
        cutsBad();
        cuts();
        nothingChanges();
        Check.end();
    }

    private static Used some() {
        Used x = Used.sent(18, 31, 5, 32).turn(3, 9).write("d1;k2");
        x.keep(0);
        return x;
    }

    // ---- as it is

    private static void form() {
        Check.sentence("form: k 0 and 33, form 0 and 1 are as told", () -> {
            Used x = new Used();
            Check.due("form(0, 0)", x.form(0, 0), 11);
            Check.due("form(0, 1)", x.form(0, 1), 11);
            Check.due("form(33, 0)", x.form(33, 0), 60);
            Check.due("form(33, 1)", x.form(33, 1), 3);
        });
        Check.sentence("form: BAD (k below 0 or above 33)", () -> {
            for (int k : new int[] {-1, 34, 35, Check.MIN, Check.MAX}) {
                for (int form = 0; form <= 1; form++) {
                    int which = form;
                    Check.idle("form(" + k + ", " + form + ")", BoundsOfReadingTest::some, x -> x.form(k, which), Check.BAD);
                }
            }
        });
        Check.sentence("form: BAD (form neither 0 nor 1)", () -> {
            for (int form : new int[] {-1, 2, Check.MIN, Check.MAX}) {
                Check.idle("form(0, " + form + ")", BoundsOfReadingTest::some, x -> x.form(0, form), Check.BAD);
                Check.idle("form(33, " + form + ")", BoundsOfReadingTest::some, x -> x.form(33, form), Check.BAD);
                Check.idle("form(34, " + form + ")", BoundsOfReadingTest::some, x -> x.form(34, form), Check.BAD);
            }
        });
        Check.sentence("form: DATA 17 is the last, DATA 18 the first whose FORMS are two", () -> {
            Used x = Used.sent(18);
            Check.due("form(17, 0)", x.form(17, 0), 52);
            Check.due("form(17, 1)", x.form(17, 1), 52);
            Check.due("form(18, 0)", x.form(18, 0), 23);
            Check.due("form(18, 1)", x.form(18, 1), 40);
        });
        Check.sentence("form: where DATA 29, DATA 30 and MARK 0 meet", () -> {
            Used x = new Used();
            Check.due("form(29, 0)", x.form(29, 0), 58);
            Check.due("form(29, 1)", x.form(29, 1), 5);
            Check.due("form(30, 0)", x.form(30, 0), 56);
            Check.due("form(30, 1)", x.form(30, 1), 7);
            Check.due("form(31, 0)", x.form(31, 0), 15);
            Check.due("form(31, 1)", x.form(31, 1), 48);
            Check.due("form(32, 1)", x.form(32, 1), 33);
        });
    }

    private static void bit() {
        Check.sentence("bit: the first and the last", () -> {
            Used x = Used.wire("100000 000001");
            Check.due("bit(0)", x.bit(0), 1);
            Check.due("bit(1)", x.bit(1), 0);
            Check.due("bit(10)", x.bit(10), 0);
            Check.due("bit(11)", x.bit(11), 1);
            Used y = Used.words(32);
            Check.due("bit(0) of 192", y.bit(0), 0);
            Check.due("bit(191) of 192", y.bit(191), 1);
        });
        Check.sentence("bit: BAD: below 0, behind the last", () -> {
            for (int b : new int[] {-1, 24, 25, 192, Check.MIN, Check.MAX}) {
                Check.idle("bit(" + b + ") of 24", BoundsOfReadingTest::some, x -> x.bit(b), Check.BAD);
            }
            for (int b : new int[] {-1, 192, 193}) {
                Check.idle("bit(" + b + ") of 192", () -> Used.words(32), x -> x.bit(b), Check.BAD);
            }
        });
        Check.sentence("bit: BAD: no bits", () -> {
            for (int b : new int[] {-1, 0, 5, 191}) {
                Check.idle("bit(" + b + ") of none", Used::new, x -> x.bit(b), Check.BAD);
            }
        });
    }

    private static void word() {
        Check.sentence("word: the first and the last; DATA 0 .. 30, MARKS 31 .. 33", () -> {
            Check.due("kinds", Used.sent(0, 30, 31, 33).kinds(), "0 30 31 33");
            Used y = Used.words(31).send(33);
            Check.due("word(0) of 32", y.word(0), 4);
            Check.due("word(31) of 32", y.word(31), 33);
        });
        Check.sentence("word: BAD: below 0, behind the last", () -> {
            for (int w : new int[] {-1, 4, 5, 32, Check.MIN, Check.MAX}) {
                Check.idle("word(" + w + ") of 4", BoundsOfReadingTest::some, x -> x.word(w), Check.BAD);
            }
            for (int w : new int[] {-1, 32, 33}) {
                Check.idle("word(" + w + ") of 32", () -> Used.words(32), x -> x.word(w), Check.BAD);
            }
        });
        Check.sentence("word: BAD: no WORDS", () -> {
            for (int w : new int[] {-1, 0, 31}) {
                Check.idle("word(" + w + ") of none", Used::new, x -> x.word(w), Check.BAD);
            }
        });
        Check.sentence("word: what it was SENT as, whatever is TURNED", () -> {
            Used x = Used.sent(18, 31).turn(0, 1, 2, 3, 4, 5, 6);
            Check.due("kinds", x.kinds(), "18 31");
        });
    }

    private static void recent() {
        Check.sentence("recent: NONE: not so many: of 0, 1 and 2", () -> {
            Check.due("recent(0) of none", Used.sent(18).recent(0), Check.NONE);
            Check.due("recent(0) of one", Used.sent(32).recent(0), 1);
            Check.due("recent(1) of one", Used.sent(32).recent(1), Check.NONE);
            Check.due("recent(1) of two", Used.sent(32, 31).recent(1), 0);
            Check.due("recent(2) of two", Used.sent(32, 31).recent(2), Check.NONE);
            Check.due("recent(2) of three", Used.sent(31, 32, 33).recent(2), Check.NONE);
            Check.due("recent(MAX)", Used.sent(31, 32).recent(Check.MAX), Check.NONE);
        });
        Check.sentence("recent: BAD (i below 0), ahead of NONE", () -> {
            for (int i : new int[] {-1, -2, Check.MIN}) {
                Check.idle("recent(" + i + ") of none", Used::new, x -> x.recent(i), Check.BAD);
                Check.idle("recent(" + i + ") of two", BoundsOfReadingTest::some, x -> x.recent(i), Check.BAD);
            }
        });
    }

    // ---- pieces

    private static void pieceBad() {
        Check.sentence("piece: f 0 and 5, u 0 and 1, p 0, what 0 and 4 are as told", () -> {
            Used x = Used.wire("010101 010101");
            Check.due("piece(0, 0, 0, 0)", x.piece(0, 0, 0, 0), 21);
            Check.due("piece(5, 1, 0, 0)", x.piece(5, 1, 0, 0), 42);
            Check.due("piece(5, 1, 0, 4)", x.piece(5, 1, 0, 4), 1);
            Check.due("piece(5, 0, 0, 4)", x.piece(5, 0, 0, 4), 0);
        });
        Check.sentence("piece: BAD: each number beyond what is told, alone", () -> {
            int[][] bad = {{-1, 0, 0, 0}, {6, 0, 0, 0}, {0, -1, 0, 0}, {0, 2, 0, 0}, {0, 0, -1, 0}, {0, 0, 0, -1},
                {0, 0, 0, 5}, {Check.MIN, 0, 0, 0}, {Check.MAX, 0, 0, 0}, {0, Check.MIN, 0, 0}, {0, Check.MAX, 0, 0},
                {0, 0, Check.MIN, 0}, {0, 0, 0, Check.MIN}, {0, 0, 0, Check.MAX}};
            for (int[] a : bad) {
                String call = "piece(" + a[0] + ", " + a[1] + ", " + a[2] + ", " + a[3] + ")";
                Check.idle(call, BoundsOfReadingTest::some, x -> x.piece(a[0], a[1], a[2], a[3]), Check.BAD);
            }
        });
        Check.sentence("piece: BAD ahead of NONE", () -> {
            int[][] bad = {{6, 0, 9, 0}, {-1, 0, 9, 0}, {0, 2, 9, 0}, {0, -1, 9, 0}, {0, 0, 9, 5}, {0, 0, 9, -1}};
            for (int[] a : bad) {
                String call = "piece(" + a[0] + ", " + a[1] + ", " + a[2] + ", " + a[3] + ")";
                Check.idle(call, BoundsOfReadingTest::some, x -> x.piece(a[0], a[1], a[2], a[3]), Check.BAD);
                Check.idle(call + " of none", Used::new, x -> x.piece(a[0], a[1], a[2], a[3]), Check.BAD);
            }
            Check.due("piece(0, 0, -1, 0) of none", new Used().piece(0, 0, -1, 0), Check.BAD);
        });
    }

    private static void pieces() {
        Check.sentence("PIECES: 6 by 6, as long as there are 6: of one WORD, from 0 alone", () -> {
            Used x = Used.sent(4);
            Check.due("from 0", x.read(0, 0, 0), 1);
            for (int f = 1; f <= 5; f++) {
                Check.due("from " + f, x.read(f, 0, 0), 0);
                Check.due("piece(" + f + ", 0, 0, 0)", x.piece(f, 0, 0, 0), Check.NONE);
            }
        });
        Check.sentence("PIECES: of two WORDS: two from 0, one from 1 to 5", () -> {
            Used x = Used.wire("110010 101101");
            int[] want = {50, 37, 10, 21, 43, 22};
            for (int f = 0; f <= 5; f++) {
                Check.due("from " + f, x.read(f, 1, 0), f == 0 ? 2 : 1);
                Check.due("piece(" + f + ", 0, 0, 0)", x.piece(f, 0, 0, 0), want[f]);
                Check.due("piece(" + f + ", 0, 1, 0)", x.piece(f, 0, 1, 0), f == 0 ? 45 : Check.NONE);
            }
        });
        Check.sentence("PIECES: of 32 WORDS: 32 from 0, 31 from 1 to 5", () -> {
            Used x = Used.words(32);
            for (int f = 0; f <= 5; f++) {
                int many = f == 0 ? 32 : 31;
                Check.due("from " + f, x.read(f, 0, 0), many);
                Check.due("the last from " + f, x.piece(f, 0, many - 1, 0), f % 2 == 0 ? 21 : 42);
                Check.due("behind the last from " + f, x.piece(f, 0, many, 0), Check.NONE);
            }
        });
        Check.sentence("PIECES: none, of no WORDS", () -> {
            for (int f = 0; f <= 5; f++) {
                Check.due("from " + f, new Used().read(f, 0, 0), 0);
                Check.due("piece(" + f + ", 1, 0, 3)", new Used().piece(f, 1, 0, 3), Check.NONE);
            }
        });
        Check.sentence("piece: NONE: not so many, whatever is asked of it", () -> {
            for (int what = 0; what <= 4; what++) {
                Used x = Used.wire("010101 010101");
                Check.due("piece(0, 0, 1, " + what + ") is there", x.piece(0, 0, 1, what) == Check.NONE, false);
                Check.due("piece(0, 0, 2, " + what + ")", x.piece(0, 0, 2, what), Check.NONE);
                Check.due("piece(5, 0, 1, " + what + ")", x.piece(5, 0, 1, what), Check.NONE);
                Check.due("piece(0, 0, 32, " + what + ")", x.piece(0, 0, 32, what), Check.NONE);
                Check.due("piece(0, 0, MAX, " + what + ")", x.piece(0, 0, Check.MAX, what), Check.NONE);
            }
        });
        Check.sentence("PIECES: 0 and 63 as numbers", () -> {
            Used x = Used.wire("000000 111111");
            Check.due("piece 0", x.piece(0, 0, 0, 0), 0);
            Check.due("piece 1", x.piece(0, 0, 1, 0), 63);
        });
    }

    private static void isRight(String bits, int kind, int rightAtLow, int rightAtHigh) {
        Used x = Used.wire(bits);
        Check.due("what " + bits + " is", x.piece(0, 0, 0, 1), kind);
        Check.due("what " + bits + " is by u 1", x.piece(0, 1, 0, 1), kind);
        Check.due("whether " + bits + " is RIGHT by u -1", x.piece(0, 0, 0, 2), rightAtLow);
        Check.due("whether " + bits + " is RIGHT by u 1", x.piece(0, 1, 0, 2), rightAtHigh);
    }

    private static void right() {
        Check.sentence("RIGHT: the FORM due: of DATA 0 to 17 by either SUM", () -> {
            isRight("001011", 0, 1, 1);
            isRight("110100", 17, 1, 1);
        });
        Check.sentence("RIGHT: the FORM due: A at SUM -1, B at 1, from DATA 18 on", () -> {
            isRight("010111", 18, 1, 0);
            isRight("101000", 18, 0, 1);
            isRight("111010", 29, 1, 0);
            isRight("000101", 29, 0, 1);
        });
        Check.sentence("RIGHT: DATA 30 is 56 at SUM -1 alone, 7 at 1 alone", () -> {
            isRight("111000", 30, 1, 0);
            isRight("000111", 30, 0, 1);
        });
        Check.sentence("RIGHT: MARKS: A at SUM -1, B at 1", () -> {
            isRight("001111", 31, 1, 0);
            isRight("110000", 31, 0, 1);
            isRight("111100", 33, 1, 0);
            isRight("000011", 33, 0, 1);
        });
        Check.sentence("what it is: NONE: no FORM of anything: fewer than two ones, more than four, and none else", () -> {
            for (String bits : new String[] {"000000", "000001", "100000", "111110", "011111", "111111"}) {
                isRight(bits, Check.NONE, 0, 0);
            }
            // all with two, three or four ones are a FORM of something
            isRight("100001", 32, 0, 1);
            isRight("000110", 28, 0, 1);
            isRight("110110", 27, 1, 0);
        });
    }

    private static void meanings() {
        Check.sentence("piece: what it is: DATA 0 .. 30, MARKS 31 .. 33, in FORM A", () -> {
            for (int kind = 0; kind <= 33; kind++) {
                Used x = Used.sent(kind);
                Check.due("FORM A of " + kind + " by u -1", x.piece(0, 0, 0, 1), kind);
                Check.due("FORM A of " + kind + " by u 1", x.piece(0, 1, 0, 1), kind);
            }
        });
        Check.sentence("piece: what it is: DATA 0 .. 30, MARKS 31 .. 33, in FORM B", () -> {
            for (int kind = 0; kind <= 33; kind++) {
                Used x = Used.sent(18, kind);
                Check.due("FORM B of " + kind + " by u -1", x.piece(0, 0, 1, 1), kind);
                Check.due("FORM B of " + kind + " by u 1", x.piece(0, 1, 1, 1), kind);
            }
        });
        Check.sentence("piece: what it is: NONE: all 14 numbers that are no FORM", () -> {
            for (int number : new int[] {0, 1, 2, 4, 8, 16, 32, 31, 47, 55, 59, 61, 62, 63}) {
                Used x = Used.wire(Integer.toBinaryString(64 + number).substring(1));
                Check.due(number + " as a number", x.piece(0, 0, 0, 0), number);
                Check.due("what " + number + " is", x.piece(0, 0, 0, 1), Check.NONE);
                Check.due("BREACHES 1, 2 of " + number, x.piece(0, 1, 0, 3) & 3, 1);
            }
        });
    }

    private static void sumBehind(String bits, int low, int high) {
        Used x = Used.wire(bits);
        Check.due("SUM behind " + bits + " by u -1", x.piece(0, 0, 0, 4), low);
        Check.due("SUM behind " + bits + " by u 1", x.piece(0, 1, 0, 4), high);
    }

    private static void sumBehind() {
        Check.sentence("Behind each PIECE SUM is 1, if it has more than three ones", () -> {
            for (String bits : new String[] {"010111", "111100", "111110", "111111"}) {
                sumBehind(bits, 1, 1);
            }
        });
        Check.sentence("Behind each PIECE SUM is -1, if it has fewer than three", () -> {
            for (String bits : new String[] {"101000", "000011", "000100", "000000"}) {
                sumBehind(bits, 0, 0);
            }
        });
        Check.sentence("Behind each PIECE SUM is as it was, if it has three, RIGHT or not", () -> {
            for (String bits : new String[] {"001011", "110100", "111000", "000111"}) {
                sumBehind(bits, 0, 1);
            }
        });
        Check.sentence("SUM goes on from PIECE to PIECE, by the bits as they are", () -> {
            Used x = Used.wire("010111 001011 101000 101000");
            int[] right = {1, 1, 1, 0};
            int[] sum = {1, 1, 0, 0};
            for (int p = 0; p <= 3; p++) {
                Check.due("whether PIECE " + p + " is RIGHT", x.piece(0, 0, p, 2), right[p]);
                Check.due("SUM behind PIECE " + p, x.piece(0, 0, p, 4), sum[p]);
            }
            // the SUM of what was SENT is another one
            Check.due("count(1)", x.count(1), 0);
        });
    }

    // ---- breaches

    private static void breaches(String bits, int u, int... want) {
        Used x = Used.wire(bits);
        for (int p = 0; p < want.length; p++) {
            Check.due("BREACHES at PIECE " + p + " of " + bits + " by u " + (u == 0 ? -1 : 1), x.piece(0, u, p, 3), want[p]);
        }
    }

    private static void formBreaches() {
        Check.sentence("BREACHES 1: it is no FORM of anything, and then never 2", () -> {
            breaches("000001", 1, 1 + 8);
            breaches("001000", 1, 1);
            breaches("110111", 0, 1);
        });
        Check.sentence("BREACHES 2: it is a FORM of something, but not RIGHT", () -> {
            breaches("101000", 0, 2);
            breaches("010111", 1, 2);
            breaches("010111 010111", 0, 0, 2);
        });
        Check.sentence("BREACHES 0: RIGHT, no long RUN, no far LEVEL", () -> {
            breaches("010111 101000", 0, 0, 0);
            breaches("101000 010111", 1, 0, 0);
        });
        Check.sentence("BREACHES 1 and 2 go by the SUM that the PIECES ahead leave, a wrong one's, too", () -> {
            // five ones leave SUM 1, at which 000101 is due, and one leaves -1, at which 110101 is
            breaches("110111 010011 000101", 0, 1, 0, 0);
            breaches("001000 110101", 1, 1, 0);
        });
    }

    private static void runBreaches() {
        Check.sentence("BREACHES 4: a RUN above 6: 6 is none, zeros", () -> {
            breaches("111000 000111", 1, 2 + 8, 0);
            breaches("111000 000111", 0, 0, 2 + 8);
        });
        Check.sentence("BREACHES 4: a RUN above 6: 7 is one, zeros", () -> {
            breaches("111000 000011", 1, 2 + 8, 4);
            breaches("111000 000011", 0, 0, 2 + 4 + 8);
        });
        Check.sentence("BREACHES 4: a RUN above 6: 6 is none, ones", () -> {
            breaches("000111 111000", 0, 2 + 8, 0);
            breaches("000111 111000", 1, 0, 2 + 8);
        });
        Check.sentence("BREACHES 4: a RUN above 6: 7 is one, ones", () -> {
            breaches("000111 111100", 0, 2 + 8, 4);
            breaches("000111 111100", 1, 0, 2 + 4 + 8);
        });
        Check.sentence("BREACHES 4: at the PIECE of the 7th bit, not at the one where the RUN began", () -> {
            Used x = Used.wire("111000 000111 010101");
            Check.due("a RUN of 6", x.piece(0, 0, 1, 3) & 4, 0);
            x.flips(9);
            Check.due("a RUN of 7, where it began", x.piece(0, 0, 0, 3) & 4, 0);
            Check.due("a RUN of 7, where it ends", x.piece(0, 0, 1, 3) & 4, 4);
            Check.due("behind it", x.piece(0, 0, 2, 3) & 4, 0);
        });
        Check.sentence("BREACHES 4: at each PIECE that has a bit with such a RUN", () -> {
            Used x = Used.wire("000000 000000 011010");
            int[] want = {0, 4, 4};
            for (int p = 0; p <= 2; p++) {
                Check.due("4 at PIECE " + p, x.piece(0, 0, p, 3) & 4, want[p]);
            }
        });
        Check.sentence("RUN: of those READ: bits ahead of f don't count", () -> {
            Used x = Used.wire("111000 000011 010101");
            Check.due("from 0, a RUN of 7", x.piece(0, 1, 1, 3) & 4, 4);
            // from 3 on 000000 011010: 7 at the first bit of the second PIECE
            Check.due("from 3, of 6", x.piece(3, 1, 0, 3) & 4, 0);
            Check.due("from 3, of 7", x.piece(3, 1, 1, 3) & 4, 4);
            // from 4 on 000000 110101: 6 alone
            Check.due("from 4, of 6", x.piece(4, 1, 0, 3) & 4, 0);
            Check.due("from 4, of 1", x.piece(4, 1, 1, 3) & 4, 0);
        });
        Check.sentence("RUN: of those READ: bits behind the last PIECE don't count", () -> {
            // from 1 on 000000 alone, the 7th zero is of no PIECE
            Used x = Used.wire("100000 001010");
            Check.due("from 1, of 6", x.piece(1, 0, 0, 3) & 4, 0);
            Check.due("with a BREACH from 1", x.read(1, 0, 2), 1);
            Check.due("a second PIECE from 1", x.piece(1, 0, 1, 3), Check.NONE);
        });
    }

    private static void levelBreaches() {
        Check.sentence("BREACHES 8: LEVEL above 3: 3 is none, u -1 and u 1", () -> {
            breaches("111100", 0, 0);
            breaches("110100", 1, 0);
        });
        Check.sentence("BREACHES 8: LEVEL above 3: 4 is one, u -1 and u 1", () -> {
            breaches("111110", 0, 1 + 8);
            breaches("111000", 1, 2 + 8);
        });
        Check.sentence("BREACHES 8: LEVEL below -3: -3 is none, u -1 and u 1", () -> {
            breaches("001011", 0, 0);
            breaches("000011", 1, 0);
        });
        Check.sentence("BREACHES 8: LEVEL below -3: -4 is one, u -1 and u 1", () -> {
            breaches("000111", 0, 2 + 8);
            breaches("000001", 1, 1 + 8);
        });
        Check.sentence("BREACHES 8: behind the last bit of a PIECE, at the PIECE whose bit it is", () -> {
            // by u 1 010111 ends at LEVEL 3; 101000 goes to 4 at its first bit, 010011 goes to 2, 3, .. 3
            breaches("010111 101000", 1, 2, 8);
            breaches("010111 001010", 1, 2, 0);
            // by u -1 101000 ends at LEVEL -3
            breaches("101000 010111", 0, 2, 8);
            breaches("101000 110101", 0, 2, 0);
        });
        Check.sentence("BREACHES 8: at each PIECE at which LEVEL is so, though it is RIGHT and began so", () ->
            breaches("111111 010011 010011", 0, 1 + 8, 8, 8));
        Check.sentence("LEVEL: u, then behind each bit READ: bits ahead of f don't count", () -> {
            Used x = Used.wire("111110 101000");
            // from 5 on 010100: 0 1 0 1 0 -1 by u 1
            Check.due("from 5 by u 1", x.piece(5, 1, 0, 3) & 8, 0);
            Check.due("from 0 by u -1", x.piece(0, 0, 0, 3) & 8, 8);
        });
    }

    // ---- read

    private static void readBad() {
        Check.sentence("read: f 0 and 5, u 0 and 1, what 0 and 5 are as told", () -> {
            Used x = Used.wire("010101 010101");
            Check.due("read(0, 0, 0)", x.read(0, 0, 0), 2);
            Check.due("read(5, 1, 0)", x.read(5, 1, 0), 1);
            Check.due("read(0, 0, 5)", x.read(0, 0, 5), Check.NOT);
            Check.due("read(5, 1, 5)", x.read(5, 1, 5), Check.NOT);
        });
        Check.sentence("read: NO: BAD: each number beyond what is told, alone", () -> {
            int[][] bad = {{-1, 0, 0}, {6, 0, 0}, {0, -1, 0}, {0, 2, 0}, {0, 0, -1}, {0, 0, 6}, {6, 2, 6},
                {Check.MIN, 0, 0}, {Check.MAX, 0, 0}, {0, Check.MIN, 0}, {0, Check.MAX, 0}, {0, 0, Check.MIN}, {0, 0, Check.MAX}};
            for (int[] a : bad) {
                String call = "read(" + a[0] + ", " + a[1] + ", " + a[2] + ")";
                Check.idle(call, BoundsOfReadingTest::some, x -> x.read(a[0], a[1], a[2]), Check.NO);
                Check.idle(call + " of none", Used::new, x -> x.read(a[0], a[1], a[2]), Check.NO);
            }
        });
        Check.sentence("read: of no WORDS: 0 PIECES, FIRST NONE, 0 with a BREACH, 0 BLAMED, NONE, NOT", () -> {
            for (int f = 0; f <= 5; f++) {
                reads(new Used(), "no WORDS", f, 0, 0, Check.NONE, 0, 0, Check.NONE, Check.NOT);
                reads(new Used(), "no WORDS", f, 1, 0, Check.NONE, 0, 0, Check.NONE, Check.NOT);
            }
        });
        Check.sentence("read: of bits, but no PIECE: as of no WORDS", () ->
            reads(Used.wire("000000"), "000000", 1, 0, 0, Check.NONE, 0, 0, Check.NONE, Check.NOT));
    }

    private static void reads(Used x, String of, int f, int u, int... want) {
        for (int what = 0; what < want.length; what++) {
            Check.due("read(" + f + ", " + u + ", " + what + ") of " + of, x.read(f, u, what), want[what]);
        }
    }

    private static void first() {
        Check.sentence("FIRST: the first PIECE with a BREACH: PIECE 0", () -> {
            Check.due("of one", Used.wire("101000").read(0, 0, 1), 0);
            Check.due("of two", Used.wire("000000 000000").read(0, 0, 1), 0);
        });
        Check.sentence("FIRST: the last PIECE of all, of 32", () -> {
            Used x = Used.words(32).turn(188, 190);
            Check.due("FIRST", x.read(0, 0, 1), 31);
            Check.due("with a BREACH", x.read(0, 0, 2), 1);
            Check.due("BREACHES of 011111", x.piece(0, 0, 31, 3), 1);
        });
        Check.sentence("FIRST: NONE", () -> {
            reads(Used.words(32), "32 times 010101", 0, 0, 32, Check.NONE, 0);
            reads(Used.words(32), "32 times 010101", 5, 1, 31, Check.NONE, 0);
        });
        Check.sentence("how many PIECES have a BREACH: all 32; one with several is one", () ->
            reads(Used.words(32).turn(1, 3, 5), "000000 and 31 times 010101", 0, 0, 32, 0, 32));
    }

    private static void blamed() {
        Check.sentence("BLAMED: bits of all PIECES: none ahead of f, none behind the last PIECE", () -> {
            Used x = Used.wire("010101 010101");
            // from 1 on 101010: by u -1 right with a one more, by u 1 with a one less
            reads(x, "010101 010101", 1, 0, 1, Check.NONE, 0, 3, 2, Check.NOT);
            reads(x, "010101 010101", 1, 1, 1, Check.NONE, 0, 3, 1, Check.NOT);
            reads(x, "010101 010101", 5, 0, 1, Check.NONE, 0, 3, 6, Check.NOT);
            reads(x, "010101 010101", 5, 1, 1, Check.NONE, 0, 3, 5, Check.NOT);
        });
        Check.sentence("BLAMED: by which there is no BREACH: also where there is none now", () -> {
            // by u -1 a one more, by u 1 a one less; of either WORD
            reads(Used.wire("010101"), "010101", 0, 0, 1, Check.NONE, 0, 3, 0, Check.NOT);
            reads(Used.wire("010101"), "010101", 0, 1, 1, Check.NONE, 0, 3, 1, Check.NOT);
            reads(Used.wire("010101 010101"), "two", 0, 0, 2, Check.NONE, 0, 6, 0, Check.NOT);
        });
        Check.sentence("BLAMED: none: 0, the lowest NONE, LATE NOT, though there is a FIRST", () -> {
            reads(Used.wire("000000"), "000000", 0, 0, 1, 0, 1, 0, Check.NONE, Check.NOT);
            reads(Used.wire("000000 010101"), "000000 010101", 0, 0, 2, 0, 2, 0, Check.NONE, Check.NOT);
            reads(Used.wire("010101 010101 000000"), "000000 behind two", 0, 0, 3, 2, 1, 0, Check.NONE, Check.NOT);
        });
        Check.sentence("BLAMED: it alone being TURNED: the others stay as they are now", () -> {
            // SENT 111000, two bits TURNED: 001000 by u 1 needs one more of the others, 001001 by u -1 two
            reads(Used.wire("001000"), "001000", 0, 1, 1, 0, 1, 5, 0, 0);
            reads(Used.wire("001001"), "001001", 0, 0, 1, 0, 1, 4, 0, 0);
            reads(Used.wire("001000"), "001000", 0, 0, 1, 0, 1, 0, Check.NONE, Check.NOT);
        });
    }

    private static void blamedBits() {
        Check.sentence("BLAMED: the lowest: bit 0", () -> {
            Check.due("lowest of 011000 by u -1", Used.wire("011000").read(0, 0, 4), 0);
            Check.due("lowest of 010101 010100", Used.wire("010101 010100").read(0, 0, 4), 0);
        });
        Check.sentence("BLAMED: the lowest: in the last PIECE alone, of 32", () -> {
            // the last is 100000 at SUM 1: with a one more it is RIGHT, and nothing else helps
            Used x = Used.words(32).turn(186, 187, 189, 191);
            reads(x, "31 times 010101, then 100000", 0, 1, 32, 31, 1, 5, 187, 0);
        });
        Check.sentence("BLAMED: how many: all bits of a PIECE but one, and bits of many PIECES", () -> {
            Check.due("BLAMED of 001000 by u 1", Used.wire("001000").read(0, 1, 3), 5);
            // each PIECE 010101 of 32: three by which it has four ones, if no later one hangs on SUM: none does
            Check.due("BLAMED of 32 times 010101", Used.words(32).read(0, 0, 3), 96);
            Check.due("BLAMED of them from 5 on", Used.words(32).read(5, 1, 3), 93);
        });
    }

    private static void late() {
        Check.sentence("LATE: 0, if the lowest is of FIRST itself", () -> {
            Check.due("of 001000", Used.wire("001000").read(0, 1, 5), 0);
            Check.due("of 010101 000100", Used.wire("010101 000100").read(0, 1, 5), 0);
        });
        Check.sentence("LATE: 31, the most there may be", () -> {
            Used x = new Used().send(18);
            for (int i = 0; i < 30; i++) {
                x.sends(4);
            }
            x.send(18).turn(4);
            // 31 times 010101, then 101000 at SUM -1: 3 of each of those, or 4 of the last
            reads(x, "31 times 010101, then 101000", 0, 0, 32, 31, 1, 97, 0, 31);
        });
        Check.sentence("LATE: by PIECES from f on, not by WORDS", () -> {
            // from 5 on 100100, by u 1 due, then 101000, not due: bit 6 is of WORD 1, but of PIECE 0
            reads(Used.wire("000001 001001 010000"), "100100 101000", 5, 1, 2, 1, 1, 8, 6, 1);
        });
        Check.sentence("LATE: NOT: none: no FIRST, though there are BLAMED", () ->
            reads(Used.wire("010101"), "010101", 0, 0, 1, Check.NONE, 0, 3, 0, Check.NOT));
        Check.sentence("LATE: NOT: none: a FIRST, but none BLAMED", () ->
            reads(Used.wire("000000"), "000000", 0, 1, 1, 0, 1, 0, Check.NONE, Check.NOT));
        Check.sentence("LATE: NOT: none: neither", () ->
            reads(new Used(), "no WORDS", 0, 0, 0, Check.NONE, 0, 0, Check.NONE, Check.NOT));
    }

    // ---- cuts

    private static void cutsBad() {
        Check.sentence("cuts: BAD (k below -1)", () -> {
            for (int k : new int[] {-2, -3, Check.MIN}) {
                Check.idle("cuts(" + k + ")", BoundsOfReadingTest::some, x -> x.cuts(k), Check.BAD);
                Check.idle("cuts(" + k + ") of none", Used::new, x -> x.cuts(k), Check.BAD);
            }
        });
        Check.sentence("cuts: NONE: not so many", () -> {
            Check.due("cuts(0) of no WORDS", new Used().cuts(0), Check.NONE);
            Check.due("cuts(0) of 000000", Used.wire("000000").cuts(0), Check.NONE);
            Used x = Used.wire("010111");
            Check.due("cuts(0) of one", x.cuts(0), 0);
            Check.due("cuts(1) of one", x.cuts(1), Check.NONE);
            Used y = Used.wire("010101 010101");
            Check.due("cuts(11) of 12", y.cuts(11), 11);
            Check.due("cuts(12) of 12", y.cuts(12), Check.NONE);
            Check.due("cuts(MAX) of 12", y.cuts(Check.MAX), Check.NONE);
        });
    }

    private static void cuts(String bits, int... want) {
        Used x = Used.wire(bits);
        Check.due("cuts(-1) of " + bits, x.cuts(-1), want.length);
        for (int k = 0; k < want.length; k++) {
            Check.due("cuts(" + k + ") of " + bits, x.cuts(k), want[k]);
        }
        Check.due("cuts(" + want.length + ") of " + bits, x.cuts(want.length), Check.NONE);
    }

    private static void cuts() {
        Check.sentence("CUTS: by which there is a PIECE at least: none of no WORDS, f 0 alone of one", () -> {
            Check.due("cuts(-1) of no WORDS", new Used().cuts(-1), 0);
            cuts("010101", 0, 1);
        });
        Check.sentence("CUTS: how many (k = -1): 0 and 12", () -> {
            cuts("000000 000000");
            cuts("010101 010101", 0, 1, 2, 3, 4, 5, 6, 7, 8, 9, 10, 11);
        });
        Check.sentence("CUTS: each f with u -1 ahead of u 1", () -> {
            cuts("001011", 0, 1);
            cuts("010111", 0);
            cuts("101000", 1);
        });
        Check.sentence("CUTS: no BREACH at the last PIECE, either", () -> {
            // from 0 on the second isn't due; from 1: 101110, from 2: 011101, from 3: 111010 by -1, from 4: 110101, from 5: 101011
            cuts("010111 010111", 2, 4, 6, 8, 10);
        });
        Check.sentence("CUTS: f 5 with u 1 is the last: 11", () -> cuts("000000 000110", 11));
    }

    private static void nothingChanges() {
        Check.sentence("(Nothing is changed from here on.) form, bit, word, recent", () -> {
            Check.idle("form(33, 1)", BoundsOfReadingTest::some, x -> x.form(33, 1), 3);
            Check.idle("bit(3)", BoundsOfReadingTest::some, x -> x.bit(3), 0);
            Check.idle("word(3)", BoundsOfReadingTest::some, x -> x.word(3), 32);
            Check.idle("recent(1)", BoundsOfReadingTest::some, x -> x.recent(1), 1);
        });
        Check.sentence("(Nothing is changed from here on.) piece, read, cuts", () -> {
            for (int what = 0; what <= 4; what++) {
                int it = what;
                Check.idle("piece(1, 1, 1, " + what + ")", BoundsOfReadingTest::some, x -> x.piece(1, 1, 1, it),
                    some().piece(1, 1, 1, what));
            }
            for (int what = 0; what <= 5; what++) {
                int it = what;
                Check.idle("read(0, 0, " + what + ")", BoundsOfReadingTest::some, x -> x.read(0, 0, it),
                    some().read(0, 0, what));
            }
            Check.idle("cuts(-1)", BoundsOfReadingTest::some, x -> x.cuts(-1), some().cuts(-1));
        });
        Check.sentence("(Nothing is changed from here on.) one reading doesn't lean on the one ahead of it", () -> {
            Used x = Used.wire("010101 010100");
            reads(x, "two", 0, 0, 2, 1, 1, 7, 0, 1);
            reads(x, "two, from 5", 5, 0, 1, Check.NONE, 0, 3, 6, Check.NOT);
            x.clears();
            reads(x, "none", 0, 0, 0, Check.NONE, 0, 0, Check.NONE, Check.NOT);
            x.undo();
            reads(x, "two again", 0, 0, 2, 1, 1, 7, 0, 1);
        });
    }
}
