/** The sentences that name a bound: a new object, THE TEXT, and promises 1 to 4. */
public final class BoundsOfTextTest {
    public static void main(String[] args) {
        newObject();
        letters();
        fullText();
        clear();
        blanks();
        items();
        numbers();
        otherLetters();
        tooEarly();
        firstFault();
        faultPlaces();
        howManyItems();
        fullWire();
        idleTells();
        Check.end();
    }

    /** What tells() answers to a text on a new object; none of it is SENT and it stays, if there is a FAULT. */
    private static void told(String text, int want) {
        Used x = Used.text(text);
        Check.due("tells() of '" + text + "'", x.tells(), want);
        Check.due("letters behind tells() of '" + text + "'", x.count(6), want < 0 ? text.length() : 0);
        Check.due("WORDS behind tells() of '" + text + "'", x.count(0), Math.max(want, 0));
        Check.due("how many may be UNDONE behind tells() of '" + text + "'", x.count(7), want < 0 ? 0 : 1);
    }

    /** Which kinds are SENT by a text without a FAULT, on a new object. */
    private static void means(String text, String kinds) {
        Used x = Used.text(text);
        x.tells();
        Check.due("kinds by '" + text + "'", x.kinds(), kinds);
    }

    private static void newObject() {
        Check.sentence("EvenWords(): No WORDS", () -> {
            Check.due("count(0)", new Used().count(0), 0);
            Check.due("word(0)", new Used().word(0), Check.BAD);
            Check.due("bit(0)", new Used().bit(0), Check.BAD);
            Check.due("the counts", new Used().counts(), "0 0 0 0 0 0 0 0");
        });
        Check.sentence("SUM is -1 (at first)", () -> {
            Check.due("count(1)", new Used().count(1), 0);
            Check.due("sends(18)", new Used().sends(18), 23);
            Check.due("sends(30)", new Used().sends(30), 56);
            Check.due("marks(0)", new Used().marks(0), 15);
        });
        Check.sentence("a new object: no RECENT, no text, nothing to be UNDONE, no IMAGE", () -> {
            Check.due("recents", new Used().recents(), "-9 -9");
            Check.due("clear()", new Used().clear(), 0);
            Check.due("undo()", new Used().undo(), Check.STATE);
            Check.due("back(0)", new Used().back(0), Check.STATE);
            Check.due("back(1)", new Used().back(1), Check.STATE);
        });
        Check.sentence("two objects have nothing in common", () -> {
            Used x = Used.sent(18, 31).write("d1;");
            x.keep(0);
            Check.due("its counts", new Used().counts(), "0 0 0 0 0 0 0 0");
            Check.due("its back(0)", new Used().back(0), Check.STATE);
        });
    }

    private static void letters() {
        Check.sentence("type: a letter (0 .. 255) comes to THE TEXT: how many it has", () -> {
            Used x = new Used();
            Check.due("type(0)", x.type(0), 1);
            Check.due("type(255)", x.type(255), 2);
            Check.due("type(128)", x.type(128), 3);
            Check.due("type(127)", x.type(127), 4);
            Check.due("count(6)", x.count(6), 4);
        });
        Check.sentence("type: BAD (below 0, above 255)", () -> {
            for (int letter : new int[] {-1, 256, Check.MIN, Check.MAX, -156, 356, 256 + 'd', 65536 + 'd'}) {
                Check.idle("type(" + letter + ")", () -> Used.sent(18, 31).write("d1;k2;"), x -> x.type(letter), Check.BAD);
            }
        });
        Check.sentence("type: only the letter that was told comes to THE TEXT", () -> {
            means("d1;", "1");
            // cut to 7 bits 228 would be d
            told((char) 228 + "1;", -10);
            told("d" + (char) (128 + '1') + ";", -11);
            told("d1" + (char) (128 + ';'), -12);
            told("d1;" + (char) (128 + ' '), -13);
        });
    }

    private static void fullText() {
        Check.sentence("THE TEXT: 120 letters at most: the 120th comes", () -> {
            Used x = Used.text(" ".repeat(119));
            Check.due("count(6) ahead", x.count(6), 119);
            Check.due("type(32)", x.type(32), 120);
            Check.due("count(6)", x.count(6), 120);
        });
        Check.sentence("type: FULL: 120", () -> {
            String text = "d17;k2;" + " ".repeat(112) + "y";
            for (int letter : new int[] {0, 32, 'd', 255}) {
                Check.idle("type(" + letter + ") at 120", () -> Used.text(text), x -> x.type(letter), Check.FULL);
            }
            Used x = Used.text("d0;".repeat(32) + " ".repeat(24));
            x.type(';');
            Check.due("tells() of 120 letters behind a 121st", x.tells(), 32);
        });
        Check.sentence("type: BAD ahead of FULL", () -> {
            for (int letter : new int[] {-1, 256, Check.MIN, Check.MAX}) {
                Check.idle("type(" + letter + ") at 120", () -> Used.text(" ".repeat(120)), x -> x.type(letter), Check.BAD);
            }
        });
        Check.sentence("type: behind FULL and clear() letters come again, from 1 on", () -> {
            Used x = Used.text("x".repeat(121));
            Check.due("clear()", x.clear(), 120);
            Check.due("type('k')", x.type('k'), 1);
            x.write("0;");
            Check.due("tells()", x.tells(), 1);
        });
        Check.sentence("type: behind tells() letters come again, from 1 on", () -> {
            Used x = Used.text("d0;" + " ".repeat(117));
            Check.due("tells() of 120 letters", x.tells(), 1);
            Check.due("type('k')", x.type('k'), 1);
            x.write("0;");
            Check.due("tells()", x.tells(), 1);
        });
    }

    private static void clear() {
        Check.sentence("clear: how many letters it had: none", () ->
            Check.idle("clear()", () -> Used.sent(18, 31), Used::clear, 0));
        Check.sentence("clear: how many letters it had: one, 120", () -> {
            Check.due("clear() of 1", Used.text("d").clear(), 1);
            Check.due("clear() of 119", Used.text("d".repeat(119)).clear(), 119);
            Check.due("clear() of 120", Used.text("d".repeat(120)).clear(), 120);
        });
        Check.sentence("clear: THE TEXT is empty", () -> {
            Used x = Used.text("d1;d2;");
            x.clear();
            Check.due("count(6)", x.count(6), 0);
            Check.due("tells()", x.tells(), -10);
            Check.due("clear() again", x.clear(), 0);
            x.write("k1;");
            x.tells();
            Check.due("kinds of what came then", x.kinds(), "32");
        });
        Check.sentence("THE TEXT is empty behind clear() and tells(): no letter of it comes into the next one", () -> {
            Used x = Used.text("d35;");
            x.clear();
            x.write("d3");
            Check.due("tells() of d3", x.tells(), -12);
            x.write(";");
            Check.due("tells() of d3;", x.tells(), 1);
            x.write("k1");
            Check.due("tells() of k1", x.tells(), -12);
            Used y = Used.text("d1;d29;").write("k2;");
            y.tells();
            y.write("k1;d4");
            Check.due("tells() of k1;d4", y.tells(), -15);
            y.write(";");
            Check.due("tells() of k1;d4;", y.tells(), 2);
            Check.due("kinds", y.kinds(), "1 29 33 32 4");
        });
        Check.sentence("clear: nothing but THE TEXT changes, nothing more may be UNDONE", () -> {
            Used x = Used.sent(18, 31).turn(3);
            x.keep(1);
            x.write("xyz");
            x.clear();
            Used twin = Used.sent(18, 31).turn(3);
            twin.keep(1);
            Check.due("all", x.everything(), twin.everything());
        });
    }

    private static void blanks() {
        Check.sentence("blanks, any number: none", () -> {
            told("d1;k2;", 2);
            told("d12;k0;d3;", 3);
        });
        Check.sentence("blanks, any number, ahead of TOKENS", () -> {
            told(" d1;", 1);
            told(" ".repeat(117) + "d1;", 1);
        });
        Check.sentence("blanks, any number, between TOKENS", () -> {
            told("d 1;", 1);
            told("d1 ;", 1);
            told("d1; k2;", 2);
            told("d" + " ".repeat(117) + "1;", 1);
            told("d1" + " ".repeat(117) + ";", 1);
            told("d  12   ;    k     2      ;", 2);
        });
        Check.sentence("blanks, any number, behind TOKENS", () -> {
            told("d1; ", 1);
            told("d1;" + " ".repeat(117), 1);
        });
        Check.sentence("blanks (32): no other letter is one", () -> {
            for (int letter : new int[] {0, 9, 10, 13, 31, 33, 95, 160, 255}) {
                told((char) letter + "d1;", -10);
                told("d" + (char) letter + "1;", -11);
                told("d1" + (char) letter + ";", -12);
                told("d1;" + (char) letter, -13);
            }
        });
        Check.sentence("blanks are needed between two NUMBERS alone: figures side by side are one NUMBER", () -> {
            means("d12;", "12");
            told("d1 2;", -13);
            told("d 1 2 ;", -14);
            told("d1  2;", -14);
            told("d0 0;", -13);
        });
        Check.sentence("NUMBERS never stand side by side", () -> {
            told("k1 1;", -13);
            told("d1;2 3;", -13);
            told("1 2", -10);
        });
    }

    private static void items() {
        Check.sentence("ITEMS (one at least)", () -> {
            told("", -10);
            told(" ", -11);
            told("   ", -13);
            told("d0;", 1);
            told("k0;", 1);
        });
        Check.sentence("each ended by ; : the first", () -> {
            told("d1d2;", -12);
            told("d1 k2;", -13);
            told("k1d2;", -12);
        });
        Check.sentence("each ended by ; : the last", () -> {
            told("d1;d2", -15);
            told("d1;k2 ", -16);
            told("d1;k2;", 2);
        });
        Check.sentence("each ended by ; : by one alone", () -> {
            told(";", -10);
            told("d1;;", -13);
            told("d1; ;", -14);
            told("d;", -11);
            told("k;", -11);
        });
        Check.sentence("d N (DATA N, 0 to 30): inside", () -> {
            means("d0;", "0");
            means("d1;d9;d10;d11;d19;d20;d29;", "1 9 10 11 19 20 29");
            means("d30;", "30");
        });
        Check.sentence("d N (DATA N, 0 to 30): outside", () -> {
            told("d31;", -11);
            told("d32;", -11);
            told("d40;", -11);
            told("d99;", -11);
            told("d0;d31;", -14);
        });
        Check.sentence("k N (MARK N, 0 to 2): inside", () -> {
            means("k0;k1;k2;", "31 32 33");
            Used x = Used.text("k0;k1;k2;");
            x.tells();
            Check.due("bits", x.bits(), "001111" + "100001" + "111100");
        });
        Check.sentence("k N (MARK N, 0 to 2): outside", () -> {
            told("k3;", -11);
            told("k9;", -11);
            told("k10;", -11);
            told("k20;", -11);
            told("k30;", -11);
            told("k31;", -11);
            told("k99;", -11);
        });
        Check.sentence("TOKENS d and k need a NUMBER behind them", () -> {
            told("dd1;", -11);
            told("dk1;", -11);
            told("kd1;", -11);
            told("kk1;", -11);
        });
    }

    private static void numbers() {
        Check.sentence("FAULT of a NUMBER beyond what it may be: its first letter, at whatever place", () -> {
            told("  d  31  ;", -15);
            told("d1;k 3;", -15);
            told("d1;d 45", -15);
        });
        Check.sentence("FAULT of a NUMBER above 99: its first letter", () -> {
            told("d100;", -11);
            told("k100;", -11);
            told("d999;", -11);
            told("d300;", -11);
            told("d1;100;", -13);
            told("100", -10);
            told("d1 100;", -13);
            told("  100d1;", -12);
        });
        Check.sentence("a NUMBER above 99, however long, is never some small one", () -> {
            // 2 to the 8th, 16th, 32nd and 64th, and 5 or 2 more
            told("d261;", -11);
            told("d65541;", -11);
            told("d4294967301;", -11);
            told("k4294967298;", -11);
            told("d18446744073709551621;", -11);
            told("k18446744073709551618;", -11);
            told("d" + "1".repeat(119), -11);
            told("1".repeat(120), -10);
            told("d1" + " ".repeat(10) + "1".repeat(108), -22);
        });
        Check.sentence("FAULT of a NUMBER with a 0 ahead of others: its first letter", () -> {
            told("d00;", -11);
            told("d01;", -11);
            told("d09;", -11);
            told("d010;", -11);
            told("d030;", -11);
            told("k00;", -11);
            told("k02;", -11);
            told("d" + "0".repeat(119), -11);
            told("d1 00;", -13);
            told("00", -10);
        });
        Check.sentence("a 0 alone, and one behind others, can stand", () -> {
            means("d0;", "0");
            means("d 0 ;k 0 ;", "0 31");
            means("d10;d20;d30;", "10 20 30");
        });
    }

    private static void otherLetters() {
        Check.sentence("TOKENS are the letters d, k, NUMBERS and ; : those beside them are none", () -> {
            for (char letter : new char[] {'c', 'e', 'j', 'l', 'D', 'K', '/', ':', '<', '-', '+', ',', '.', 0, 255}) {
                told(letter + "1;", -10);
                told("d1;" + letter, -13);
            }
            told("d/;", -11);
            told("d:;", -11);
            told("d1:", -12);
            told("d1<", -12);
            told("d-1;", -11);
            told("d+1;", -11);
        });
        Check.sentence("FAULT of any other letter (each is a TOKEN by itself): its place", () -> {
            told("x", -10);
            told("xy", -10);
            told("dxy1;", -11);
            told("d1xy;", -12);
            told("d1x2;", -12);
            told("d x1;", -12);
            told("d1;xy", -13);
            told("d1; xy", -14);
            told("d 1 xy", -14);
        });
        Check.sentence("signs above 127 are neither figures nor blanks", () -> {
            for (int letter : new int[] {160, 178, 179, 185, 188}) {
                told("d" + (char) letter + ";", -11);
                told("d1" + (char) letter + ";", -12);
            }
        });
    }

    private static void tooEarly() {
        Check.sentence("FAULT: the text's length, if it ends too early", () -> {
            told("d", -11);
            told("k", -11);
            told("d1", -12);
            told("k2", -12);
            told("d1;d", -14);
            told("d1;k", -14);
            told("d1;k2", -15);
        });
        Check.sentence("FAULT: the text's length: blanks behind count", () -> {
            told("d ", -12);
            told("d1 ", -13);
            told("d1;d  ", -16);
            told("   ", -13);
        });
        Check.sentence("FAULT: the text's length (one that is empty, too)", () -> {
            Check.due("tells() of a new object", new Used().tells(), -10);
            Used x = Used.text("d1;");
            x.tells();
            Check.due("tells() behind tells()", x.tells(), -10);
            x.write("d1;");
            x.clear();
            Check.due("tells() behind clear()", x.tells(), -10);
        });
        Check.sentence("FAULT: the text's length: of 120", () -> {
            told(" ".repeat(120), -130);
            told("d" + " ".repeat(119), -130);
            told("d" + " ".repeat(118) + "1", -130);
            told("d0;".repeat(39) + "d0 ", -130);
        });
    }

    private static void firstFault() {
        Check.sentence("FAULT: the first TOKEN that can't stand there, of several", () -> {
            told("x;d31;", -10);
            told("d31;x", -11);
            told("d31 31", -11);
            told("dd31;", -11);
            told("d1 x 99;", -13);
            told("d1;k3;d00;y", -14);
            told("d1;d2 100 00", -16);
        });
        Check.sentence("FAULT: a TOKEN that can't stand there comes ahead of an end that is too early", () -> {
            told("d1;x", -13);
            told("d31", -11);
            told("d01", -11);
            told("d1 d", -13);
            told("k3", -11);
        });
    }

    private static void faultPlaces() {
        Check.sentence("tells: -10 less FAULT: FAULT 0", () -> {
            told("y", -10);
            told("9", -10);
            told(";d1;", -10);
        });
        Check.sentence("tells: -10 less FAULT: FAULT 119, the last letter", () -> {
            told(" ".repeat(119) + "y", -129);
            told("d0;" + " ".repeat(116) + "9", -129);
            told("d" + " ".repeat(118) + ";", -129);
            told("d0;".repeat(10) + " ".repeat(88) + "k3", -129);
        });
        Check.sentence("tells: -10 less FAULT: 120, the length of a full text", () -> told("d1" + " ".repeat(118), -130));
    }

    private static void howManyItems() {
        Check.sentence("tells: how many ITEMS: 1, 2, 32", () -> {
            told("d0;", 1);
            told("d0;k2;", 2);
            told("d0;".repeat(31), 31);
            told("d0;".repeat(32), 32);
        });
        Check.sentence("tells: what THE TEXT tells is SENT, in its order, behind THE WIRE", () -> {
            Used x = Used.sent(18, 33).write("d18;d18;k1;d30;");
            Check.due("tells()", x.tells(), 4);
            Check.due("kinds", x.kinds(), "18 33 18 18 32 30");
            Check.due("bits", x.bits(), "010111 000011 010111 101000 011110 000111".replace(" ", ""));
            Check.due("recents", x.recents(), "2 1");
            Check.due("SUM", x.count(1), 1);
        });
        Check.sentence("tells: it is empty then", () -> {
            Used x = Used.text("d0;k2;");
            x.tells();
            Check.due("count(6)", x.count(6), 0);
            Check.due("clear()", x.clear(), 0);
            Check.due("tells()", x.tells(), -10);
            Check.due("WORDS", x.count(0), 2);
        });
        Check.sentence("tells: one of many ITEMS is UNDONE as one", () -> {
            Used x = Used.sent(18).write("d0;k2;d5;");
            x.tells();
            Check.due("count(7)", x.count(7), 2);
            Check.due("undo()", x.undo(), 1);
            Check.due("kinds", x.kinds(), "18");
        });
    }

    private static void fullWire() {
        Check.sentence("tells: FULL: more than 32 WORDS: none ahead", () -> {
            told("d0;".repeat(32), 32);
            for (int items : new int[] {33, 34, 40}) {
                Check.idle("tells() of " + items, () -> Used.text("d0;".repeat(items)), Used::tells, Check.FULL);
            }
        });
        Check.sentence("tells: FULL: more than 32 WORDS: 31 ahead", () -> {
            Used x = Used.words(31).write("k1;");
            Check.due("tells() of 1", x.tells(), 1);
            Check.due("WORDS", x.count(0), 32);
            Check.due("word(31)", x.word(31), 32);
            Check.idle("tells() of 2", () -> Used.words(31).write("k1;k2;"), Used::tells, Check.FULL);
        });
        Check.sentence("tells: FULL: more than 32 WORDS: 32 ahead", () ->
            Check.idle("tells() of 1", () -> Used.words(32).write("k1;"), Used::tells, Check.FULL));
        Check.sentence("tells: FULL: THE TEXT stays, too, and is told when there is room", () -> {
            Used x = Used.words(32).write("k1;d9;");
            Check.due("tells()", x.tells(), Check.FULL);
            Check.due("count(6)", x.count(6), 6);
            x.clears();
            Check.due("tells() behind clears()", x.tells(), 2);
            Check.due("kinds", x.kinds(), "32 9");
        });
        Check.sentence("tells: FULL: not one of its ITEMS is SENT, no RECENT comes", () -> {
            Used x = Used.words(30).write("k0;k1;k2;");
            Check.due("tells()", x.tells(), Check.FULL);
            Check.due("WORDS", x.count(0), 30);
            Check.due("recents", x.recents(), "-9 -9");
        });
        Check.sentence("tells: -10 less FAULT ahead of FULL", () -> {
            Check.idle("tells() of 33 and y", () -> Used.text("d0;".repeat(33) + "y"), Used::tells, -10 - 99);
            Check.idle("tells() of y at 32", () -> Used.words(32).write("d0;y"), Used::tells, -13);
            Check.idle("tells() of nothing at 32", () -> Used.words(32), Used::tells, -10);
            Check.idle("tells() of 39 and d1", () -> Used.text("d0;".repeat(39) + "d1"), Used::tells, -10 - 119);
        });
    }

    private static void idleTells() {
        Check.sentence("tells: with a FAULT nothing is SENT, and THE TEXT stays", () -> {
            for (String text : new String[] {"", "  ", "d1;k2;x", "d1;d31;", "k0;k1", "d1;k3;", ";"}) {
                int want = Used.text(text).tells();
                Check.due("tells() of '" + text + "' is a FAULT", want <= -10, true);
                Check.idle("tells() of '" + text + "'", () -> Used.sent(18, 31).turn(4).write(text), Used::tells, want);
            }
        });
        Check.sentence("tells: a text with a FAULT can be gone on with", () -> {
            Used x = Used.text("d1;k2");
            Check.due("tells()", x.tells(), -15);
            x.write(";");
            Check.due("tells() with its end", x.tells(), 2);
            Check.due("kinds", x.kinds(), "1 33");
        });
    }
}
