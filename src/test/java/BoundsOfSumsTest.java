/** The sentences that name a bound: runs and sums, images, promises 17 to 22, and what an object is used for. */
public final class BoundsOfSumsTest {
    public static void main(String[] args) {
        levelBad();
        times();
        nextOnes();
        farLevels();
        evenestRefused();
        evenestMost();
        evenestTies();
        evenestAhead();
        weightBounds();
        weightBits();
        keep();
        backRefused();
        back();
        backAsSent();
        backUndone();
        imagesStay();
        countBad();
        countLeastAndMost();
        countTurned();
        nothingChanges();
        oneBehindAnother();
        manyCalls();
        Check.end();
    }

    private static Used some() {
        Used x = Used.sent(18, 31, 5, 32).turn(3, 9).write("d1;k2");
        x.keep(0);
        return x;
    }

    // ---- level

    private static void levelBad() {
        Check.sentence("level: x -300 and 300, what 0 and 2 are as told", () -> {
            Used x = Used.wire("001011");
            Check.due("level(-300, 0)", x.level(-300, 0), 0);
            Check.due("level(300, 0)", x.level(300, 0), 0);
            Check.due("level(-300, 1)", x.level(-300, 1), -3);
            Check.due("level(300, 2)", x.level(300, 2), -1);
            Check.due("level(-300, 2)", x.level(-300, 2), Check.NOT);
            Check.due("level(300, 1)", x.level(300, 1), Check.NOT);
        });
        Check.sentence("level: NO: BAD (x below -300, above 300)", () -> {
            for (int at : new int[] {-301, 301, Check.MIN, Check.MAX}) {
                for (int what = 0; what <= 2; what++) {
                    int it = what;
                    Check.idle("level(" + at + ", " + what + ")", BoundsOfSumsTest::some, x -> x.level(at, it), Check.NO);
                }
            }
        });
        Check.sentence("level: NO: BAD (what neither 0, 1 nor 2)", () -> {
            for (int what : new int[] {-1, 3, Check.MIN, Check.MAX}) {
                Check.idle("level(0, " + what + ")", BoundsOfSumsTest::some, x -> x.level(0, what), Check.NO);
                Check.idle("level(301, " + what + ")", BoundsOfSumsTest::some, x -> x.level(301, what), Check.NO);
            }
        });
        Check.sentence("level: NO: BAD ahead of NOT: of no WORDS", () -> {
            Check.idle("level(301, 1)", Used::new, x -> x.level(301, 1), Check.NO);
            Check.idle("level(-301, 0)", Used::new, x -> x.level(-301, 0), Check.NO);
            Check.idle("level(0, 3)", Used::new, x -> x.level(0, 3), Check.NO);
        });
    }

    private static void times() {
        Check.sentence("TIMES of a LEVEL: behind how many bits it is x: the lowest, the highest, and beside them", () -> {
            // -2 -3 -2 -3 -2 -1
            Used x = Used.wire("001011");
            int[] want = {0, 2, 3, 1, 0};
            for (int i = 0; i < want.length; i++) {
                Check.due("level(" + (i - 4) + ", 0)", x.level(i - 4, 0), want[i]);
            }
        });
        Check.sentence("TIMES: behind bits: u -1 ahead of all of them is none", () -> {
            Check.due("level(-1, 0) of 111111", Used.wire("111111").level(-1, 0), 0);
            Check.due("level(-1, 0) of 000000", Used.wire("000000").level(-1, 0), 0);
            Check.due("level(-1, 0) of no WORDS", new Used().level(-1, 0), 0);
        });
        Check.sentence("TIMES: from bit 0 to the last bit", () -> {
            Used x = Used.wire("111111 111111");
            Check.due("level(0, 0)", x.level(0, 0), 1);
            Check.due("level(11, 0), behind the last bit", x.level(11, 0), 1);
            Check.due("level(12, 0)", x.level(12, 0), 0);
            Check.due("of 32 WORDS", Used.words(32).level(-1, 0) + Used.words(32).level(-2, 0), 192);
        });
        Check.sentence("TIMES: bits as they are, TURNED", () -> {
            Used x = Used.wire("000000");
            Check.due("level(-7, 0)", x.level(-7, 0), 1);
            x.flips(5);
            Check.due("level(-7, 0) TURNED", x.level(-7, 0), 0);
            Check.due("level(-5, 0) TURNED", x.level(-5, 0), 2);
        });
    }

    private static void nextOnes() {
        Check.sentence("NEXT ABOVE x: the least LEVEL above x, never x itself", () -> {
            Used x = Used.wire("001011");
            int[] want = {-3, -2, -1, Check.NOT, Check.NOT};
            for (int i = 0; i < want.length; i++) {
                Check.due("level(" + (i - 4) + ", 1)", x.level(i - 4, 1), want[i]);
            }
        });
        Check.sentence("NEXT BELOW x: the greatest LEVEL below x, never x itself", () -> {
            Used x = Used.wire("001011");
            int[] want = {Check.NOT, Check.NOT, -3, -2, -1};
            for (int i = 0; i < want.length; i++) {
                Check.due("level(" + (i - 4) + ", 2)", x.level(i - 4, 2), want[i]);
            }
        });
        Check.sentence("NEXT ABOVE, NEXT BELOW: none (NOT): no WORDS", () -> {
            for (int at : new int[] {-300, -1, 0, 300}) {
                Check.due("level(" + at + ", 0)", new Used().level(at, 0), 0);
                Check.due("level(" + at + ", 1)", new Used().level(at, 1), Check.NOT);
                Check.due("level(" + at + ", 2)", new Used().level(at, 2), Check.NOT);
            }
        });
        Check.sentence("NEXT ABOVE, NEXT BELOW: that it has behind some bit: u -1 isn't", () -> {
            // 0 1 2 3 4 5
            Used x = Used.wire("111111");
            Check.due("level(-2, 1)", x.level(-2, 1), 0);
            Check.due("level(0, 2)", x.level(0, 2), Check.NOT);
        });
    }

    private static void farLevels() {
        Check.sentence("LEVEL: 192 zeros: down to -193", () -> {
            Used x = Used.wire("000000".repeat(32));
            Check.due("level(-193, 0)", x.level(-193, 0), 1);
            Check.due("level(-193, 2)", x.level(-193, 2), Check.NOT);
            Check.due("level(-192, 2)", x.level(-192, 2), -193);
            Check.due("level(-194, 1)", x.level(-194, 1), -193);
            Check.due("level(-300, 1)", x.level(-300, 1), -193);
            Check.due("level(300, 2)", x.level(300, 2), -2);
            Check.due("level(-2, 1)", x.level(-2, 1), Check.NOT);
        });
        Check.sentence("LEVEL: 192 ones: up to 191", () -> {
            Used x = Used.wire("111111".repeat(32));
            Check.due("level(191, 0)", x.level(191, 0), 1);
            Check.due("level(191, 1)", x.level(191, 1), Check.NOT);
            Check.due("level(190, 1)", x.level(190, 1), 191);
            Check.due("level(192, 2)", x.level(192, 2), 191);
            Check.due("level(300, 2)", x.level(300, 2), 191);
            Check.due("level(-300, 1)", x.level(-300, 1), 0);
        });
    }

    // ---- evenest

    private static void evenestRefused() {
        Check.sentence("evenest: n 1 and 6, i -1 and n less 1 are as told", () -> {
            Used x = Used.words(6);
            Check.due("evenest(1, -1)", x.evenest(1, -1), 1);
            Check.due("evenest(1, 0)", x.evenest(1, 0), 0);
            Check.due("evenest(6, -1)", x.evenest(6, -1), 1);
            Check.due("evenest(6, 5)", x.evenest(6, 5), 5);
        });
        Check.sentence("evenest: BAD (n below 1 or above 6)", () -> {
            for (int n : new int[] {0, -1, 7, 8, Check.MIN, Check.MAX}) {
                Check.idle("evenest(" + n + ", -1) of 8", () -> Used.words(8), x -> x.evenest(n, -1), Check.BAD);
                Check.idle("evenest(" + n + ", 0) of 8", () -> Used.words(8), x -> x.evenest(n, 0), Check.BAD);
            }
        });
        Check.sentence("evenest: BAD (i below -1)", () -> {
            for (int i : new int[] {-2, -3, Check.MIN}) {
                Check.idle("evenest(2, " + i + ")", BoundsOfSumsTest::some, x -> x.evenest(2, i), Check.BAD);
            }
        });
        Check.sentence("evenest: STATE: THE WIRE has fewer than n, by one and by all", () -> {
            for (int n = 1; n <= 6; n++) {
                int it = n;
                Check.idle("evenest(" + n + ", -1) of one fewer", () -> Used.words(it - 1), x -> x.evenest(it, -1), Check.STATE);
                Check.idle("evenest(" + n + ", 0) of none", Used::new, x -> x.evenest(it, 0), Check.STATE);
                Check.due("evenest(" + n + ", -1) of as many", Used.words(n).evenest(n, -1), 1);
                Check.due("evenest(" + n + ", 0) of as many", Used.words(n).evenest(n, 0), 0);
            }
        });
        Check.sentence("evenest: BAD ahead of STATE", () -> {
            for (int[] a : new int[][] {{0, -1}, {7, -1}, {-1, 0}, {1, -2}, {6, -2}, {7, -2}, {6, Check.MIN}}) {
                String call = "evenest(" + a[0] + ", " + a[1] + ") of ";
                Check.idle(call + "none", Used::new, x -> x.evenest(a[0], a[1]), Check.BAD);
                Check.idle(call + "3", () -> Used.words(3), x -> x.evenest(a[0], a[1]), Check.BAD);
            }
        });
        Check.sentence("evenest: NONE: not so many", () -> {
            for (int n = 1; n <= 6; n++) {
                Used x = Used.words(8);
                Check.due("evenest(" + n + ", " + (n - 1) + ")", x.evenest(n, n - 1), n - 1);
                Check.due("evenest(" + n + ", " + n + ")", x.evenest(n, n), Check.NONE);
                Check.due("evenest(" + n + ", MAX)", x.evenest(n, Check.MAX), Check.NONE);
            }
        });
        Check.sentence("evenest: STATE, and BAD, ahead of NONE", () -> {
            Check.idle("evenest(3, 3) of 2", () -> Used.words(2), x -> x.evenest(3, 3), Check.STATE);
            Check.idle("evenest(1, 9) of none", Used::new, x -> x.evenest(1, 9), Check.STATE);
            Check.idle("evenest(7, 9) of none", Used::new, x -> x.evenest(7, 9), Check.BAD);
            Check.idle("evenest(0, 9) of 2", () -> Used.words(2), x -> x.evenest(0, 9), Check.BAD);
        });
    }

    private static void order(Used x, String of, int longest, int... order) {
        int n = order.length;
        Check.due("evenest(" + n + ", -1) of " + of, x.evenest(n, -1), longest);
        for (int i = 0; i < n; i++) {
            Check.due("evenest(" + n + ", " + i + ") of " + of, x.evenest(n, i), order[i]);
        }
    }

    private static void evenestMost() {
        Check.sentence("EVENEST of the last 1: LONGEST as it was SENT", () -> {
            order(Used.sent(30), "111000", 3, 0);
            order(Used.sent(9, 30), "100011 111000", 5, 0);
            order(Used.sent(31), "001111", 4, 0);
        });
        Check.sentence("EVENEST of the last 6: six that are alike stay, one that must be the first comes there", () -> {
            order(Used.words(6), "six of 010101", 1, 0, 1, 2, 3, 4, 5);
            order(Used.words(32), "32 of 010101", 1, 0, 1, 2, 3, 4, 5);
            // 100011 five times and 111000: 11 ahead of 111 has 5, so 111000 must be the first
            order(Used.sent(9, 9, 9, 9, 9, 30), "five of 100011, 111000", 3, 5, 0, 1, 2, 3, 4);
        });
        Check.sentence("EVENEST of the last n: the words ahead of them stay", () -> {
            Used x = Used.sent(9, 9, 9, 30);
            order(x, "three of 100011, 111000", 5, 0);
            order(x, "three of 100011, 111000", 5, 0, 1);
            order(x, "three of 100011, 111000", 5, 0, 1, 2);
            order(x, "three of 100011, 111000", 3, 3, 0, 1, 2);
        });
    }

    private static void evenestTies() {
        Check.sentence("EVENEST: the least LONGEST: the only one of two", () -> {
            order(Used.sent(9, 30), "100011 111000", 3, 1, 0);
            order(Used.sent(30, 9), "111000 100011", 3, 0, 1);
        });
        Check.sentence("EVENEST: of several with the least LONGEST the one with the word SENT earlier", () -> {
            // 111000 twice ahead of 100011 has 3, whichever of the two is first
            order(Used.sent(9, 30, 30), "100011 111000 111000", 3, 1, 2, 0);
            order(Used.sent(30, 9, 30), "111000 100011 111000", 3, 0, 2, 1);
            order(Used.sent(30, 30, 9), "111000 111000 100011", 3, 0, 1, 2);
            // 5 either way
            order(Used.sent(30, 0), "111000 001011", 5, 0, 1);
            order(Used.sent(0, 30), "001011 111000", 5, 0, 1);
        });
        Check.sentence("EVENEST: FORMS go by the order: SUM is as if SENT so", () -> {
            // 010111 100100 has 4, 011011 101000 has 3
            order(Used.sent(18, 19), "DATA 18 19", 3, 1, 0);
            order(Used.sent(19, 18), "DATA 19 18", 3, 0, 1);
        });
    }

    private static void evenestAhead() {
        Check.sentence("EVENEST: LONGEST of all bits of THE WIRE: a longer RUN ahead makes all orders alike", () ->
            order(Used.sent(9, 30, 9, 30), "100011 111000 100011 111000", 5, 0, 1));
        Check.sentence("EVENEST: behind what is ahead of them: its last RUN goes on", () ->
            // behind 100011, 111000 has 5 at once; 101001 and 111000 behind it have 4 where these two meet
            order(Used.sent(9, 30, 12), "100011, then 111000 101001", 4, 1, 0));
        Check.sentence("EVENEST: behind what is ahead of them: at the SUM that it leaves", () ->
            order(Used.sent(19, 18, 19), "011011, then DATA 18 19", 3, 1, 0));
        Check.sentence("EVENEST: TURNED bits not looked at, neither ahead nor in the last n", () -> {
            order(Used.sent(9, 30, 12).turn(0, 1, 2, 4, 5), "100011 TURNED, then 111000 101001", 4, 1, 0);
            order(Used.sent(9, 30).turn(4, 5, 6, 7, 8), "100011 111000 TURNED", 3, 1, 0);
            Used all = Used.wire("111111 111111");
            order(all, "111000 111000, all ones now", 3, 0, 1);
            Check.due("LONGEST as it is", all.count(4), 12);
        });
        Check.sentence("EVENEST: behind clears() what was ahead is none", () -> {
            Used x = Used.sent(9, 30, 18);
            x.clears();
            x.send(18, 19);
            order(x, "DATA 18 19", 3, 1, 0);
            Check.due("evenest(3, -1)", x.evenest(3, -1), Check.STATE);
        });
    }

    // ---- weight

    private static void weightBounds() {
        // 011011: -2 -1 0 -1 0 1, times 1 to 6: -2 in all; all weights are even, so 999999 itself is none
        Check.sentence("weight: as far as 999999", () -> {
            Check.due("weight(-499999)", Used.sent(19).weight(-499999), 999998);
            Check.due("weight(499999)", Used.sent(19).weight(499999), -999998);
        });
        Check.sentence("weight: NO: it is above 999999", () -> {
            Check.idle("weight(-500000)", () -> Used.sent(19), x -> x.weight(-500000), Check.NO);
            Check.idle("weight(-500001)", () -> Used.sent(19), x -> x.weight(-500001), Check.NO);
        });
        Check.sentence("weight: NO: it is below -999999", () -> {
            Check.idle("weight(500000)", () -> Used.sent(19), x -> x.weight(500000), Check.NO);
            Check.idle("weight(500001)", () -> Used.sent(19), x -> x.weight(500001), Check.NO);
        });
        Check.sentence("weight: NO: far beyond, where 32 bits wrap around", () -> {
            // times -2 these are 2, 0 and -2 in 32 bits
            for (int a : new int[] {Check.MAX, Check.MIN, Check.MIN + 1}) {
                Check.idle("weight(" + a + ") of -2", () -> Used.sent(19), x -> x.weight(a), Check.NO);
            }
            // times -42 and -112
            Check.due("weight(MIN) of -42", Used.wire("001011").weight(Check.MIN), Check.NO);
            Check.due("weight(MIN) of -112", Used.wire("000000").weight(Check.MIN), Check.NO);
            Check.due("weight(0x20000000) of -112", Used.wire("000000").weight(0x20000000), Check.NO);
        });
        Check.sentence("weight: of no WORDS 0, whatever a is", () -> {
            for (int a : new int[] {0, 1, -1, 999999, 1000000, Check.MAX, Check.MIN}) {
                Check.due("weight(" + a + ")", new Used().weight(a), 0);
            }
        });
        Check.sentence("weight: of 0 it is 0, whatever THE WIRE is", () -> {
            Check.due("of 192 ones", Used.wire("111111".repeat(32)).weight(0), 0);
            Check.due("of 192 zeros", Used.wire("000000".repeat(32)).weight(0), 0);
        });
        Check.sentence("weight: of the longest WIRES: NO", () -> {
            // 2359232 and -2396288
            Check.due("weight(1) of 192 ones", Used.wire("111111".repeat(32)).weight(1), Check.NO);
            Check.due("weight(-1) of 192 zeros", Used.wire("000000".repeat(32)).weight(-1), Check.NO);
        });
    }

    private static void weightBits() {
        Check.sentence("WEIGHT: each LEVEL times its bit's number and 1: the first bit, the last bit", () -> {
            // -2 -3 -4 -5 -6 -7 times 1 to 6, then 0 for -2 and so on 2 more each
            Check.due("of 000000", Used.wire("000000").weight(1), -112);
            Check.due("of 100000", Used.wire("100000").weight(1), -112 + 2 * (1 + 2 + 3 + 4 + 5 + 6));
            Check.due("of 000001", Used.wire("000001").weight(1), -112 + 2 * 6);
            Check.due("of 000010", Used.wire("000010").weight(1), -112 + 2 * (5 + 6));
        });
        Check.sentence("WEIGHT: behind all bits of THE WIRE, TURNED as they are, of all WORDS", () -> {
            // -2 -1 by turns, times 1 to 192: -1 of each, and -1 more of each odd one
            int all = 192 * 193 / 2;
            int odd = 96 * 96;
            Check.due("of 32 times 010101", Used.words(32).weight(1), -all - odd);
            Check.due("with the last bit TURNED", Used.words(32).turn(191).weight(1), -all - odd - 2 * 192);
        });
        Check.sentence("weight: a below 0 and above", () -> {
            Check.due("weight(3)", Used.sent(0).weight(3), -126);
            Check.due("weight(-3)", Used.sent(0).weight(-3), 126);
        });
    }

    // ---- images

    private static void keep() {
        Check.sentence("keep: IMAGES 0 and 1: WORDS: none, 1, 32", () -> {
            Check.due("keep(0) of none", new Used().keep(0), 0);
            Check.due("keep(1) of none", new Used().keep(1), 0);
            Check.due("keep(0) of 1", Used.sent(18).keep(0), 1);
            Check.due("keep(1) of 32", Used.words(32).keep(1), 32);
        });
        Check.sentence("keep: BAD (neither 0 nor 1)", () -> {
            for (int image : new int[] {-1, 2, 3, Check.MIN, Check.MAX}) {
                Check.idle("keep(" + image + ") at first", Used::new, x -> x.keep(image), Check.BAD);
                Check.idle("keep(" + image + ")", BoundsOfSumsTest::some, x -> x.keep(image), Check.BAD);
            }
        });
        Check.sentence("keep: nothing but that IMAGE changes", () -> {
            Used x = some();
            x.keep(0);
            Check.due("all behind keep(0) of the same", x.everything(), some().everything());
            Used y = some();
            y.keep(1);
            Check.due("counts behind keep(1)", y.counts(), some().counts());
            y.undo();
            Check.due("back(0)", y.back(0), 4);
            Check.due("bits", y.bits(), some().bits());
        });
    }

    private static void backRefused() {
        Check.sentence("back: STATE: none was kept, of either", () -> {
            for (int image = 0; image <= 1; image++) {
                int it = image;
                Check.idle("back(" + image + ") at first", Used::new, x -> x.back(it), Check.STATE);
                Check.idle("back(" + image + ")", () -> Used.sent(18, 31).turn(2).write("d1;"), x -> x.back(it), Check.STATE);
            }
        });
        Check.sentence("back: STATE: none was kept, though the other one was", () -> {
            Check.idle("back(1)", BoundsOfSumsTest::some, x -> x.back(1), Check.STATE);
            Check.idle("back(0)", () -> {
                Used x = Used.sent(18, 31);
                x.keep(1);
                return x;
            }, x -> x.back(0), Check.STATE);
        });
        Check.sentence("back: STATE: a keep() that was BAD kept none", () -> {
            Used x = Used.sent(18);
            x.keep(2);
            x.keep(-1);
            Check.due("back(0)", x.back(0), Check.STATE);
            Check.due("back(1)", x.back(1), Check.STATE);
        });
        Check.sentence("back: BAD (neither 0 nor 1), ahead of STATE", () -> {
            for (int image : new int[] {-1, 2, 3, Check.MIN, Check.MAX}) {
                Check.idle("back(" + image + ") at first", Used::new, x -> x.back(image), Check.BAD);
                Check.idle("back(" + image + ")", BoundsOfSumsTest::some, x -> x.back(image), Check.BAD);
            }
        });
    }

    private static void back() {
        Check.sentence("back: all of that becomes as an IMAGE has it: WORDS", () -> {
            Used x = Used.sent(31, 18, 33).turn(7, 9);
            x.keep(1);
            x.send(32, 5).turn(0, 7);
            Check.due("back(1)", x.back(1), 3);
            Check.due("bits", x.bits(), "001111" + "111100" + "111100");
            Check.due("kinds", x.kinds(), "31 18 33");
            Check.due("recents", x.recents(), "0 2");
            Check.due("counts", x.counts(), "3 1 12 2 8 2 0 0");
            Check.due("marks(0) at SUM 1", x.marks(0), 48);
        });
        Check.sentence("back: to no WORDS: 0, and that is no STATE", () -> {
            Used x = new Used();
            x.keep(0);
            x.send(18, 31);
            Check.due("back(0)", x.back(0), 0);
            Check.due("counts", x.counts(), "0 0 0 0 0 0 0 0");
            Check.due("recents", x.recents(), "-9 -9");
            Check.due("sends(18)", x.sends(18), 23);
        });
        Check.sentence("back: to 32 WORDS from none", () -> {
            Used x = Used.words(31).send(33).turn(191);
            x.keep(0);
            x.clears();
            Check.due("back(0)", x.back(0), 32);
            Check.due("counts", x.counts(), "32 1 98 1 5 1 0 0");
            Check.due("sends(0)", x.sends(0), Check.FULL);
        });
        Check.sentence("back: all but THE TEXT", () -> {
            Used x = Used.sent(18).write("d1;");
            x.keep(0);
            x.write("k2;");
            Check.due("back(0)", x.back(0), 1);
            Check.due("letters", x.count(6), 6);
            Check.due("tells()", x.tells(), 2);
            Check.due("kinds", x.kinds(), "18 1 33");
        });
    }

    private static void backAsSent() {
        Check.sentence("back: what was SENT, too: what is TURNED of it, and EVENEST", () -> {
            Used x = Used.sent(9, 30).turn(1);
            x.keep(0);
            x.clears();
            x.send(30, 9);
            Check.due("back(0)", x.back(0), 2);
            Check.due("TURNED", x.count(3), 1);
            order(x, "100011 111000", 3, 1, 0);
            order(x, "111000 behind 100011", 5, 0);
            x.turn(1);
            Check.due("TURNED back", x.count(3), 0);
        });
        Check.sentence("UNDONE: what was SENT, too: what is TURNED of it, and EVENEST", () -> {
            Used x = Used.sent(9, 30).turn(1);
            x.clears();
            x.send(30, 9);
            x.undo();
            x.undo();
            Check.due("undo() of clears()", x.undo(), 3);
            Check.due("TURNED", x.count(3), 1);
            order(x, "100011 111000", 3, 1, 0);
            order(x, "111000 behind 100011", 5, 0);
        });
    }

    private static void backUndone() {
        Check.sentence("back: nothing can be UNDONE behind it", () -> {
            Used x = Used.sent(0, 1, 2, 3, 4, 5, 6);
            x.keep(0);
            Check.due("count(7) ahead", x.count(7), 6);
            x.back(0);
            Check.due("count(7)", x.count(7), 0);
            Check.due("undo()", x.undo(), Check.STATE);
            Check.due("kinds", x.kinds(), "0 1 2 3 4 5 6");
        });
        Check.sentence("back: what is DONE since can be UNDONE, and no more than that", () -> {
            Used x = Used.sent(0, 1);
            x.keep(0);
            x.back(0);
            x.send(7).turn(0);
            Check.due("undo()", x.undo(), 1);
            Check.due("undo()", x.undo(), 0);
            Check.due("kinds", x.kinds(), "0 1");
            Check.due("undo() again", x.undo(), Check.STATE);
        });
        Check.sentence("back: one that is refused leaves what may be UNDONE", () -> {
            Used x = Used.sent(0, 1);
            x.back(0);
            x.back(2);
            Check.due("count(7)", x.count(7), 2);
            Check.due("undo()", x.undo(), 1);
        });
    }

    private static void imagesStay() {
        Check.sentence("IMAGES: one can be had again and again", () -> {
            Used x = Used.sent(18, 31);
            x.keep(0);
            x.clears();
            Check.due("back(0)", x.back(0), 2);
            x.send(5).turn(0, 7);
            Check.due("back(0) again", x.back(0), 2);
            Check.due("bits", x.bits(), "010111" + "110000");
        });
        Check.sentence("IMAGES: kept again, it is the later one", () -> {
            Used x = Used.sent(18, 31, 32, 33);
            x.keep(0);
            x.clears();
            x.sends(7);
            Check.due("keep(0)", x.keep(0), 1);
            x.send(1, 2);
            Check.due("back(0)", x.back(0), 1);
            Check.due("kinds", x.kinds(), "7");
            Check.due("recents", x.recents(), "-9 -9");
        });
        Check.sentence("IMAGES: two: neither changes the other", () -> {
            Used x = Used.sent(18);
            x.keep(0);
            x.marks(0);
            x.keep(1);
            x.back(0);
            Check.due("kinds of 0", x.kinds(), "18");
            Check.due("back(1)", x.back(1), 2);
            Check.due("kinds of 1", x.kinds(), "18 31");
            Check.due("back(0)", x.back(0), 1);
        });
        Check.sentence("IMAGES: THE WIRE and its undo() leave them as they are", () -> {
            Used x = Used.sent(18, 31).turn(3);
            x.keep(1);
            x.turn(3, 4);
            x.undo();
            x.undo();
            x.undo();
            x.undo();
            Check.due("back(1)", x.back(1), 2);
            Check.due("bits", x.bits(), "010011" + "110000");
        });
    }

    // ---- count

    private static void countBad() {
        Check.sentence("count: BAD (what below 0 or above 7)", () -> {
            for (int what : new int[] {-1, 8, 9, Check.MIN, Check.MAX}) {
                Check.idle("count(" + what + ") at first", Used::new, x -> x.count(what), Check.BAD);
                Check.idle("count(" + what + ")", BoundsOfSumsTest::some, x -> x.count(what), Check.BAD);
            }
        });
        Check.sentence("count: what 0 and 7 are as told", () -> {
            Check.due("count(0)", some().count(0), 4);
            Check.due("count(7)", some().count(7), 6);
        });
    }

    private static void countLeastAndMost() {
        Check.sentence("count 0: WORDS: 0 and 32", () -> {
            Check.due("of none", new Used().count(0), 0);
            Check.due("of 32", Used.words(32).count(0), 32);
        });
        Check.sentence("count 1: SUM (0: -1, 1: 1)", () -> {
            Check.due("of none", new Used().count(1), 0);
            Check.due("of DATA 18", Used.sent(18).count(1), 1);
            Check.due("of MARKS 0 and 2", Used.sent(31, 33).count(1), 0);
            Check.due("of 32 times DATA 4", Used.words(32).count(1), 0);
        });
        Check.sentence("count 2: ones of THE WIRE: 0 and 192", () -> {
            Check.due("of none", new Used().count(2), 0);
            Check.due("of 000000", Used.wire("000000").count(2), 0);
            Check.due("of 100000", Used.wire("100000").count(2), 1);
            Check.due("of 000001", Used.wire("000001").count(2), 1);
            Check.due("of 192", Used.wire("111111".repeat(32)).count(2), 192);
        });
        Check.sentence("count 4: LONGEST (0: no bits): 1 and 192", () -> {
            Check.due("of none", new Used().count(4), 0);
            Check.due("of 010101", Used.wire("010101").count(4), 1);
            Check.due("of 192 ones", Used.wire("111111".repeat(32)).count(4), 192);
            Check.due("of 192 zeros", Used.wire("000000".repeat(32)).count(4), 192);
        });
        Check.sentence("count 4: LONGEST: at the first bits, at the last bits, over where WORDS meet", () -> {
            Check.due("at the first", Used.wire("111101 010101").count(4), 4);
            Check.due("at the last", Used.wire("010101 010000").count(4), 4);
            Check.due("where they meet", Used.wire("010111 110101").count(4), 5);
        });
        Check.sentence("count 5: MARKS that were SENT of all WORDS: DATA 30 is none, MARK 0 is one", () -> {
            Check.due("of none", new Used().count(5), 0);
            Check.due("of DATA 30", Used.sent(30).count(5), 0);
            Check.due("of MARK 0", Used.sent(31).count(5), 1);
            Check.due("of one SENT again", Used.sent(31, 31, 4, 31).count(5), 3);
            Used x = new Used();
            for (int i = 0; i < 32; i++) {
                x.marks(i % 3);
            }
            Check.due("of 32", x.count(5), 32);
        });
        Check.sentence("count 5: as they were SENT: TURNED bits make no MARKS", () -> {
            Check.due("of 111100, SENT as DATA 30", Used.wire("111100").count(5), 0);
            Check.due("of 011100, SENT as MARK 2", Used.sent(33).turn(0).count(5), 1);
        });
        Check.sentence("count 6: letters of THE TEXT: 0 and 120", () -> {
            Check.due("of none", new Used().count(6), 0);
            Check.due("of 119", Used.text("x".repeat(119)).count(6), 119);
            Check.due("of 120", Used.text("x".repeat(120)).count(6), 120);
            Check.due("of 121", Used.text("x".repeat(121)).count(6), 120);
        });
        Check.sentence("count 7: how many may be UNDONE: 0 and 6", () -> {
            Check.due("of none", new Used().count(7), 0);
            Check.due("of 5", Used.words(5).count(7), 5);
            Check.due("of 6", Used.words(6).count(7), 6);
            Check.due("of 7", Used.words(7).count(7), 6);
        });
    }

    private static void countTurned() {
        Check.sentence("count 3: bits that are TURNED: 0 and 192", () -> {
            Check.due("of none", new Used().count(3), 0);
            Used x = Used.words(32);
            Check.due("of 32 WORDS", x.count(3), 0);
            for (int b = 0; b < 192; b++) {
                x.flips(b);
            }
            Check.due("of all TURNED", x.count(3), 192);
            Check.due("ones then", x.count(2), 96);
        });
        Check.sentence("count 3: so often that they are otherwise than SENT: twice is none, three times one", () -> {
            Check.due("twice", Used.sent(18).turn(2, 2).count(3), 0);
            Check.due("three times", Used.sent(18).turn(2, 2, 2).count(3), 1);
        });
        Check.sentence("count 3: as SENT in FORM B, too", () -> {
            Used x = Used.sent(18, 18);
            Check.due("none TURNED", x.count(3), 0);
            x.turn(6, 11);
            Check.due("two TURNED", x.count(3), 2);
        });
    }

    private static void nothingChanges() {
        Check.sentence("(Nothing is changed from here on.) level, evenest, weight, count", () -> {
            for (int what = 0; what <= 2; what++) {
                int it = what;
                Check.idle("level(0, " + what + ")", BoundsOfSumsTest::some, x -> x.level(0, it), some().level(0, what));
            }
            Check.idle("evenest(4, -1)", BoundsOfSumsTest::some, x -> x.evenest(4, -1), some().evenest(4, -1));
            Check.idle("evenest(4, 3)", BoundsOfSumsTest::some, x -> x.evenest(4, 3), some().evenest(4, 3));
            Check.idle("weight(7)", BoundsOfSumsTest::some, x -> x.weight(7), some().weight(7));
            for (int what = 0; what <= 7; what++) {
                int it = what;
                Check.idle("count(" + what + ")", BoundsOfSumsTest::some, x -> x.count(it), some().count(what));
            }
        });
    }

    private static void oneBehindAnother() {
        Check.sentence("(Nothing is changed from here on.) level, weight, LONGEST, EVENEST don't lean on one another", () -> {
            Used x = Used.sent(9, 30);
            for (int round = 0; round < 2; round++) {
                Check.due("weight(1)", x.weight(1), -12);
                Check.due("count(4)", x.count(4), 5);
                Check.due("level(2, 0)", x.level(2, 0), 1);
                Check.due("read(5, 1, 0)", x.read(5, 1, 0), 1);
                Check.due("evenest(2, -1)", x.evenest(2, -1), 3);
                Check.due("evenest(1, -1)", x.evenest(1, -1), 5);
            }
            // 010111 ends at LEVEL 1: the next call begins at u -1 nevertheless
            Used y = Used.sent(18);
            for (int round = 0; round < 2; round++) {
                Check.due("weight(1) of 010111", y.weight(1), -8);
                Check.due("level(1, 0) of 010111", y.level(1, 0), 1);
                Check.due("count(4) of 010111", y.count(4), 3);
                Check.due("evenest(1, -1) of 010111", y.evenest(1, -1), 3);
            }
        });
        Check.sentence("LONGEST (0: no bits): it goes down again with THE WIRE", () -> {
            Used x = Used.sent(4).turn(0, 2);
            Check.due("count(4)", x.count(4), 4);
            x.turn(2);
            Check.due("count(4) with a bit TURNED back", x.count(4), 2);
            x.clears();
            Check.due("count(4) of no WORDS", x.count(4), 0);
            Check.due("weight(1) of no WORDS", x.weight(1), 0);
            Check.due("level(0, 1) of no WORDS", x.level(0, 1), Check.NOT);
            x.sends(4);
            Check.due("count(4) of 010101", x.count(4), 1);
            Check.due("evenest(1, -1) of 010101", x.evenest(1, -1), 1);
        });
    }

    // ---- 512 calls

    private static void manyCalls() {
        Check.sentence("an object is used for at most 512 calls: letters, 512 of them", () -> {
            Used x = new Used();
            for (int round = 0; round < 4; round++) {
                for (int letter = 1; letter <= 120; letter++) {
                    Check.due("type('d')", x.type('d'), letter);
                }
                Check.due("type('d') at 120", x.type('d'), Check.FULL);
                Check.due("tells()", x.tells(), -11);
                Check.due("clear()", x.clear(), 120);
            }
            for (int letter = 1; letter <= 20; letter++) {
                Check.due("type('d')", x.type('d'), letter);
            }
            Check.due("calls", x.calls(), Used.MOST_CALLS);
        });
        Check.sentence("an object is used for at most 512 calls: SENT and UNDONE at 32 WORDS", () -> {
            Used x = Used.words(31);
            for (int i = 0; i < 240; i++) {
                Check.due("sends(18)", x.sends(18), 23);
                Check.due("undo()", x.undo(), 5);
            }
            Check.due("calls", x.calls(), 511);
            Check.due("the 512th, sends(18)", x.sends(18), 23);
        });
        Check.sentence("an object is used for at most 512 calls: the dearest ones at 32 WORDS", () -> {
            Used x = Used.words(32);
            for (int i = 0; i < 120; i++) {
                Check.due("evenest(6, 5)", x.evenest(6, 5), 5);
                Check.due("read(0, 0, 3)", x.read(0, 0, 3), 96);
                Check.due("cuts(-1)", x.cuts(-1), 12);
                Check.due("piece(5, 1, 30, 3)", x.piece(5, 1, 30, 3), 0);
            }
            Check.due("calls", x.calls(), Used.MOST_CALLS);
        });
        Check.sentence("an object is used for at most 512 calls: kept and had back", () -> {
            Used x = Used.words(2);
            for (int i = 0; i < 170; i++) {
                Check.due("keep", x.keep(i % 2), 2);
                x.clears();
                Check.due("back", x.back(i % 2), 2);
            }
            Check.due("calls", x.calls(), Used.MOST_CALLS);
        });
    }
}
