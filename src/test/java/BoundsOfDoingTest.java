/** The sentences that name a bound: THE WIRE, what is DONE and UNDONE, and promises 5 to 9. */
public final class BoundsOfDoingTest {
    public static void main(String[] args) {
        sendsBad();
        sendsFull();
        forms();
        sums();
        marks();
        marksFull();
        recents();
        flipsBad();
        flips();
        clears();
        undoNone();
        undoSix();
        undoOfEach();
        undoStays();
        Check.end();
    }

    private static void sendsBad() {
        Check.sentence("sends: DATA 0 and DATA 30 can be SENT", () -> {
            Check.due("sends(0)", new Used().sends(0), 11);
            Check.due("sends(30)", new Used().sends(30), 56);
        });
        Check.sentence("sends: BAD (below DATA 0, above DATA 30)", () -> {
            for (int data : new int[] {-1, 31, 32, 33, 34, Check.MIN, Check.MAX, 256, 65536}) {
                Check.idle("sends(" + data + ") at first", Used::new, x -> x.sends(data), Check.BAD);
                Check.idle("sends(" + data + ")", () -> Used.sent(18, 31, 5).write("d1;"), x -> x.sends(data), Check.BAD);
            }
        });
    }

    private static void sendsFull() {
        Check.sentence("32 WORDS at most: sends: the 32nd comes", () -> {
            Used x = Used.words(31);
            Check.due("sends(18)", x.sends(18), 23);
            Check.due("WORDS", x.count(0), 32);
            Check.due("word(31)", x.word(31), 18);
            Check.due("bit(191)", x.bit(191), 1);
            Check.due("SUM", x.count(1), 1);
        });
        Check.sentence("sends: FULL: 32 WORDS", () -> {
            for (int data : new int[] {0, 17, 18, 30}) {
                Check.idle("sends(" + data + ") at 32", () -> Used.words(32).write("d1;"), x -> x.sends(data), Check.FULL);
            }
        });
        Check.sentence("sends: BAD ahead of FULL", () -> {
            for (int data : new int[] {-1, 31, Check.MIN, Check.MAX}) {
                Check.idle("sends(" + data + ") at 32", () -> Used.words(32), x -> x.sends(data), Check.BAD);
            }
        });
        Check.sentence("sends: behind FULL and undo() or clears() there is room", () -> {
            Used x = Used.words(32);
            x.sends(0);
            x.undo();
            Check.due("sends(0) behind undo()", x.sends(0), 11);
            Check.due("sends(0) at 32", x.sends(0), Check.FULL);
            x.clears();
            Check.due("sends(0) behind clears()", x.sends(0), 11);
        });
    }

    private static void forms() {
        Check.sentence("DATA 0 to 17: three ones, rising, but 7 and 56", () -> {
            int[] want = {11, 13, 14, 19, 21, 22, 25, 26, 28, 35, 37, 38, 41, 42, 44, 49, 50, 52};
            for (int data = 0; data <= 17; data++) {
                Check.due("sends(" + data + ") at SUM -1", new Used().sends(data), want[data]);
                Check.due("sends(" + data + ") at SUM 1", Used.sent(18).sends(data), want[data]);
            }
        });
        Check.sentence("DATA 18 to 29: four ones, rising, but 15, 30, 60; FORM B is 63 less it", () -> {
            int[] want = {23, 27, 29, 39, 43, 45, 46, 51, 53, 54, 57, 58};
            for (int data = 18; data <= 29; data++) {
                Check.due("sends(" + data + ") at SUM -1", new Used().sends(data), want[data - 18]);
                Check.due("sends(" + data + ") at SUM 1", Used.sent(18).sends(data), 63 - want[data - 18]);
            }
        });
        Check.sentence("DATA 30 is 56; FORM B is 7", () -> {
            Check.due("sends(30) at SUM -1", new Used().sends(30), 56);
            Check.due("sends(30) at SUM 1", Used.sent(18).sends(30), 7);
        });
        Check.sentence("FORM B is the same number for DATA 17, 63 less it from DATA 18 on", () -> {
            Check.due("sends(17) at SUM 1", Used.sent(18).sends(17), 52);
            Check.due("sends(18) at SUM 1", Used.sent(18).sends(18), 40);
        });
        Check.sentence("a WORD is sent from the highest bit on, bits numbered from 0 on", () -> {
            Used x = Used.sent(17, 0);
            Check.due("bits", x.bits(), "110100" + "001011");
        });
    }

    private static void sums() {
        Check.sentence("SUM: three ones: it stays, at -1 and at 1", () -> {
            for (int data : new int[] {0, 17, 30}) {
                Check.due("SUM behind DATA " + data + " at -1", Used.sent(data).count(1), 0);
                Check.due("SUM behind DATA " + data + " at 1", Used.sent(18, data).count(1), 1);
            }
        });
        Check.sentence("SUM: not three ones: it is the other one then", () -> {
            for (int kind : new int[] {18, 29, 31, 32, 33}) {
                Check.due("SUM behind " + kind, Used.sent(kind).count(1), 1);
                Check.due("SUM behind two " + kind, Used.sent(kind, kind).count(1), 0);
                Check.due("SUM behind three " + kind, Used.sent(kind, kind, kind).count(1), 1);
            }
        });
        Check.sentence("SUM: of what was SENT: a TURNED bit changes neither it nor the FORM of the next", () -> {
            Used x = Used.sent(18).turn(1, 3);
            Check.due("SUM", x.count(1), 1);
            Check.due("sends(18)", x.sends(18), 40);
            Used y = Used.sent(0).turn(0, 1);
            Check.due("SUM", y.count(1), 0);
            Check.due("marks(2)", y.marks(2), 60);
        });
    }

    private static void marks() {
        Check.sentence("marks: MARKS 0, 1, 2 can be SENT, in FORM A and B", () -> {
            int[] want = {15, 30, 60};
            for (int mark = 0; mark <= 2; mark++) {
                Check.due("marks(" + mark + ") at SUM -1", new Used().marks(mark), want[mark]);
                Check.due("marks(" + mark + ") at SUM 1", Used.sent(18).marks(mark), 63 - want[mark]);
            }
        });
        Check.sentence("marks: BAD (below MARK 0, above MARK 2)", () -> {
            for (int mark : new int[] {-1, 3, 31, 33, Check.MIN, Check.MAX, -31}) {
                Check.idle("marks(" + mark + ") at first", Used::new, x -> x.marks(mark), Check.BAD);
                Check.idle("marks(" + mark + ")", () -> Used.sent(18, 31, 5).write("d1;"), x -> x.marks(mark), Check.BAD);
            }
        });
    }

    private static void marksFull() {
        Check.sentence("32 WORDS at most: marks: the 32nd comes", () -> {
            Used x = Used.words(31);
            Check.due("marks(2)", x.marks(2), 60);
            Check.due("WORDS", x.count(0), 32);
            Check.due("word(31)", x.word(31), 33);
            Check.due("recents", x.recents(), "2 -9");
        });
        Check.sentence("marks: FULL: 32 WORDS; no RECENT comes", () -> {
            for (int mark = 0; mark <= 2; mark++) {
                int which = mark;
                Check.idle("marks(" + mark + ") at 32", () -> Used.words(32).write("d1;"), x -> x.marks(which), Check.FULL);
            }
        });
        Check.sentence("marks: BAD ahead of FULL", () -> {
            for (int mark : new int[] {-1, 3, Check.MIN, Check.MAX}) {
                Check.idle("marks(" + mark + ") at 32", () -> Used.words(32), x -> x.marks(mark), Check.BAD);
            }
        });
    }

    private static void recents() {
        Check.sentence("RECENT: none, one, two unlike MARKS", () -> {
            Check.due("of DATA", Used.sent(18, 30, 0).recents(), "-9 -9");
            Check.due("of 1", Used.sent(32).recents(), "1 -9");
            Check.due("of 1 0", Used.sent(32, 31).recents(), "1 0");
        });
        Check.sentence("RECENT: the last 2: a third unlike one puts the older out", () -> {
            Check.due("of 0 1 2", Used.sent(31, 32, 33).recents(), "1 2");
            Check.due("of 2 1 0", Used.sent(33, 32, 31).recents(), "1 0");
            Check.due("of 0 1 2 0", Used.sent(31, 32, 33, 31).recents(), "2 0");
        });
        Check.sentence("RECENT: unlike: the one at the end SENT again changes nothing", () -> {
            Check.due("of 1 1", Used.sent(32, 32).recents(), "1 -9");
            Check.due("of 0 1 1", Used.sent(31, 32, 32).recents(), "0 1");
            Check.due("of 0 1 1 1 2", Used.sent(31, 32, 32, 32, 33).recents(), "1 2");
        });
        Check.sentence("RECENT: one SENT again comes to the end", () -> {
            Check.due("of 0 1 0", Used.sent(31, 32, 31).recents(), "1 0");
            Check.due("of 0 1 0 2", Used.sent(31, 32, 31, 33).recents(), "0 2");
        });
        Check.sentence("RECENT: DATA between don't count, nor how far back it is", () -> {
            Used x = Used.sent(31, 32);
            x.write("d0;".repeat(30));
            x.tells();
            Check.due("behind 30 DATA", x.recents(), "0 1");
        });
    }

    private static void flipsBad() {
        Check.sentence("flips: BAD: no bits at all", () -> {
            for (int bit : new int[] {0, -1, 1, 191, Check.MIN, Check.MAX}) {
                Check.idle("flips(" + bit + ") at first", Used::new, x -> x.flips(bit), Check.BAD);
            }
        });
        Check.sentence("flips: BAD: no WORDS again behind clears()", () -> {
            Used x = Used.sent(18);
            x.clears();
            Check.due("flips(0)", x.flips(0), Check.BAD);
        });
        Check.sentence("flips: BAD: below bit 0, behind the last bit", () -> {
            for (int bit : new int[] {-1, 12, 13, 192, Check.MIN, Check.MAX}) {
                Check.idle("flips(" + bit + ") of 12", () -> Used.sent(18, 31).turn(5), x -> x.flips(bit), Check.BAD);
            }
        });
        Check.sentence("flips: BAD: behind the last bit of a full WIRE", () -> {
            for (int bit : new int[] {-1, 192, 193}) {
                Check.idle("flips(" + bit + ") of 192", () -> Used.words(32), x -> x.flips(bit), Check.BAD);
            }
        });
    }

    private static void flips() {
        Check.sentence("flips: the first and the last bit of THE WIRE can be TURNED", () -> {
            Used x = Used.sent(18, 31);
            Check.due("flips(0)", x.flips(0), 1);
            Check.due("flips(11)", x.flips(11), 1);
            Check.due("bits", x.bits(), "110111" + "110001");
            Used y = Used.words(32);
            Check.due("flips(0) of 192", y.flips(0), 1);
            Check.due("flips(191)", y.flips(191), 0);
            Check.due("bit(191)", y.bit(191), 0);
            Check.due("TURNED", y.count(3), 2);
        });
        Check.sentence("flips: the bits on either side of where two WORDS meet", () -> {
            Check.due("bits by 5", Used.sent(4, 4).turn(5).bits(), "010100" + "010101");
            Check.due("bits by 6", Used.sent(4, 4).turn(6).bits(), "010101" + "110101");
        });
        Check.sentence("flips: what it is then, once and again", () -> {
            Used x = Used.sent(18);
            Check.due("flips(0)", x.flips(0), 1);
            Check.due("flips(0)", x.flips(0), 0);
            Check.due("flips(1)", x.flips(1), 0);
            Check.due("flips(1)", x.flips(1), 1);
            Check.due("TURNED", x.count(3), 0);
            Check.due("may be UNDONE", x.count(7), 5);
        });
    }

    private static void clears() {
        Check.sentence("clears: STATE: none", () -> {
            Check.idle("clears() at first", Used::new, Used::clears, Check.STATE);
            Check.idle("clears() with a text", () -> Used.text("d1;"), Used::clears, Check.STATE);
            Check.idle("clears() behind clears()", () -> {
                Used x = Used.sent(18, 31);
                x.clears();
                return x;
            }, Used::clears, Check.STATE);
            Check.idle("clears() behind undo()", () -> {
                Used x = Used.sent(18);
                x.undo();
                return x;
            }, Used::clears, Check.STATE);
        });
        Check.sentence("clears: how many WORDS there were: 1, 32", () -> {
            Check.due("clears() of 1", Used.sent(18).clears(), 1);
            Check.due("clears() of 31", Used.words(31).clears(), 31);
            Check.due("clears() of 32", Used.words(32).clears(), 32);
        });
        Check.sentence("CLEARED: no WORDS", () -> {
            Used x = Used.sent(18, 31).turn(3);
            x.clears();
            Check.due("counts", x.counts(), "0 0 0 0 0 0 0 4");
            Check.due("bit(0)", x.bit(0), Check.BAD);
            Check.due("word(0)", x.word(0), Check.BAD);
        });
        Check.sentence("CLEARED: SUM -1", () -> {
            Used x = Used.sent(18);
            x.clears();
            Check.due("SUM", x.count(1), 0);
            Check.due("sends(18)", x.sends(18), 23);
        });
        Check.sentence("CLEARED: no RECENT", () -> {
            Used x = Used.sent(31, 32);
            x.clears();
            Check.due("recents", x.recents(), "-9 -9");
            x.marks(1);
            Check.due("recents behind marks(1)", x.recents(), "1 -9");
        });
        Check.sentence("CLEARED: no TURNED bits come again with new WORDS", () -> {
            Used x = Used.sent(18).turn(0, 1);
            x.clears();
            x.sends(18);
            Check.due("bits", x.bits(), "010111");
            Check.due("TURNED", x.count(3), 0);
        });
        Check.sentence("CLEARED: THE TEXT and the IMAGES stay", () -> {
            Used x = Used.sent(18).write("d1;");
            x.keep(1);
            x.clears();
            Check.due("letters", x.count(6), 3);
            Check.due("tells()", x.tells(), 1);
            Check.due("back(1)", x.back(1), 1);
            Check.due("kinds", x.kinds(), "18");
        });
    }

    private static void undoNone() {
        Check.sentence("undo: STATE: none", () -> {
            Check.idle("undo() at first", Used::new, Used::undo, Check.STATE);
            Check.idle("undo() with a text", () -> Used.text("d1;"), Used::undo, Check.STATE);
            Check.idle("undo() behind the last undo()", () -> {
                Used x = Used.sent(18);
                x.undo();
                return x;
            }, Used::undo, Check.STATE);
        });
        Check.sentence("undo: how many more may be: 0 behind the only one", () -> {
            Used x = Used.sent(18);
            Check.due("undo()", x.undo(), 0);
            Check.due("count(7)", x.count(7), 0);
            Check.due("WORDS", x.count(0), 0);
        });
    }

    private static void undoSix() {
        Check.sentence("UNDONE: 6 are known: five and six of so many", () -> {
            Check.due("count(7) of 5", Used.words(5).count(7), 5);
            Used x = Used.words(6);
            Check.due("count(7) of 6", x.count(7), 6);
            for (int left = 5; left >= 0; left--) {
                Check.due("undo()", x.undo(), left);
                Check.due("WORDS", x.count(0), left);
            }
            Check.due("undo() again", x.undo(), Check.STATE);
        });
        Check.sentence("UNDONE: older ones are lost: the 7th, and many", () -> {
            for (int many : new int[] {7, 8, 12, 13, 32}) {
                Used x = Used.words(many);
                Check.due("count(7) of " + many, x.count(7), 6);
                for (int left = 5; left >= 0; left--) {
                    Check.due("undo() of " + many, x.undo(), left);
                }
                Check.due("undo() of a lost one", x.undo(), Check.STATE);
                Check.due("WORDS then", x.count(0), many - 6);
            }
        });
        Check.sentence("UNDONE: behind some undo() as many again may come, none lost ahead of the 7th", () -> {
            Used x = Used.sent(0, 1, 2, 3, 4, 5, 6, 7);
            x.undo();
            x.undo();
            Check.due("count(7)", x.count(7), 4);
            x.send(8, 9);
            Check.due("count(7)", x.count(7), 6);
            x.send(10);
            Check.due("count(7)", x.count(7), 6);
            String[] want = {"0 1 2 3 4 5 8 9", "0 1 2 3 4 5 8", "0 1 2 3 4 5", "0 1 2 3 4", "0 1 2 3", "0 1 2"};
            for (String kinds : want) {
                x.undo();
                Check.due("kinds", x.kinds(), kinds);
            }
            Check.due("undo() of a lost one", x.undo(), Check.STATE);
        });
        Check.sentence("UNDONE: what was refused is none of the 6", () -> {
            Used x = Used.sent(0, 1, 2, 3, 4, 5);
            x.sends(31);
            x.marks(3);
            x.flips(36);
            x.tells();
            x.write("d1;x").tells();
            x.back(1);
            Check.due("count(7)", x.count(7), 6);
            Check.due("undo()", x.undo(), 5);
            Check.due("kinds", x.kinds(), "0 1 2 3 4");
        });
        Check.sentence("UNDONE: what only looks, tells letters or keeps is none of the 6", () -> {
            Used x = Used.sent(0, 1);
            x.type('d');
            x.clear();
            x.keep(0);
            x.read(0, 0, 3);
            x.cuts(-1);
            x.evenest(2, 0);
            Check.due("count(7)", x.count(7), 2);
            Check.due("undo()", x.undo(), 1);
            Check.due("kinds", x.kinds(), "0");
        });
    }

    private static void undoOfEach() {
        Check.sentence("UNDONE: sends() and marks(): WORDS, SUM and RECENT as ahead of it", () -> {
            Used x = Used.sent(31, 32, 33);
            x.undo();
            Check.due("recents", x.recents(), "0 1");
            Check.due("counts", x.counts(), "2 0 6 0 5 2 0 2");
            x.undo();
            Check.due("recents", x.recents(), "0 -9");
            Check.due("SUM", x.count(1), 1);
            x.undo();
            Check.due("recents", x.recents(), "-9 -9");
            Check.due("SUM", x.count(1), 0);
        });
        Check.sentence("UNDONE: a MARK SENT again: RECENT in the order ahead of it", () -> {
            Used x = Used.sent(31, 32, 31);
            x.undo();
            Check.due("recents", x.recents(), "0 1");
        });
        Check.sentence("UNDONE: flips(): the bit as ahead of it", () -> {
            Used x = Used.sent(4).turn(0, 5, 0);
            x.undo();
            Check.due("bits", x.bits(), "110100");
            x.undo();
            Check.due("bits", x.bits(), "110101");
            Check.due("TURNED", x.count(3), 1);
            x.undo();
            Check.due("bits", x.bits(), "010101");
        });
        Check.sentence("UNDONE: clears(): all of it, TURNED bits too, is there again", () -> {
            Used x = Used.sent(31, 18, 33).turn(7, 9);
            x.clears();
            Check.due("undo()", x.undo(), 5);
            Check.due("bits", x.bits(), "001111" + "111100" + "111100");
            Check.due("kinds", x.kinds(), "31 18 33");
            Check.due("counts", x.counts(), "3 1 12 2 8 2 0 5");
            Check.due("recents", x.recents(), "0 2");
        });
        Check.sentence("UNDONE: clears() of 32 WORDS", () -> {
            Used x = Used.words(31).send(33).turn(191);
            x.clears();
            x.undo();
            Check.due("counts", x.counts(), "32 1 98 1 5 1 0 5");
            Check.due("sends(0)", x.sends(0), Check.FULL);
        });
        Check.sentence("UNDONE: tells(): all its ITEMS, but THE TEXT stays empty", () -> {
            Used x = Used.sent(18).write("k0;k1;d18;");
            x.tells();
            x.undo();
            Check.due("kinds", x.kinds(), "18");
            Check.due("recents", x.recents(), "-9 -9");
            Check.due("SUM", x.count(1), 1);
            Check.due("letters", x.count(6), 0);
        });
    }

    private static void undoStays() {
        Check.sentence("UNDONE: all but THE TEXT: letters told since stay", () -> {
            Used x = Used.sent(18).write("d7;");
            x.undo();
            Check.due("letters", x.count(6), 3);
            Check.due("tells()", x.tells(), 1);
            Check.due("kinds", x.kinds(), "7");
        });
        Check.sentence("UNDONE: not the IMAGES", () -> {
            Used x = Used.sent(18, 31);
            x.keep(0);
            x.undo();
            x.undo();
            Check.due("back(0)", x.back(0), 2);
            Check.due("kinds", x.kinds(), "18 31");
        });
        Check.sentence("UNDONE: an undo() itself can't be", () -> {
            Used x = Used.sent(0, 1);
            x.undo();
            Check.due("undo()", x.undo(), 0);
            Check.due("WORDS", x.count(0), 0);
        });
        Check.sentence("UNDONE: what was UNDONE isn't there any more", () -> {
            Used x = Used.sent(0, 31);
            x.undo();
            x.sends(5);
            Check.due("kinds", x.kinds(), "0 5");
            x.undo();
            Check.due("kinds", x.kinds(), "0");
        });
    }
}
