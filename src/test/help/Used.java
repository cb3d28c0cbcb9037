/** An EvenWords whose calls are counted: behind the 512th what it answers is free, so a test that goes there fails. */
final class Used {
    static final int MOST_CALLS = 512;

    private final EvenWords it = new EvenWords();
    private int calls = 0;

    private EvenWords once() {
        calls++;
        if (calls > MOST_CALLS) {
            throw new IllegalStateException("a test asks an object for more than 512 calls");
        }
        return it;
    }

    int calls() {
        return calls;
    }

    // ---- the face

    int type(int letter) {
        return once().type(letter);
    }

    int clear() {
        return once().clear();
    }

    int tells() {
        return once().tells();
    }

    int sends(int data) {
        return once().sends(data);
    }

    int marks(int mark) {
        return once().marks(mark);
    }

    int flips(int bit) {
        return once().flips(bit);
    }

    int clears() {
        return once().clears();
    }

    int undo() {
        return once().undo();
    }

    int form(int k, int form) {
        return once().form(k, form);
    }

    int bit(int b) {
        return once().bit(b);
    }

    int word(int w) {
        return once().word(w);
    }

    int recent(int i) {
        return once().recent(i);
    }

    int piece(int f, int u, int p, int what) {
        return once().piece(f, u, p, what);
    }

    int read(int f, int u, int what) {
        return once().read(f, u, what);
    }

    int cuts(int k) {
        return once().cuts(k);
    }

    int level(int x, int what) {
        return once().level(x, what);
    }

    int evenest(int n, int i) {
        return once().evenest(n, i);
    }

    int weight(int a) {
        return once().weight(a);
    }

    int keep(int image) {
        return once().keep(image);
    }

    int back(int image) {
        return once().back(image);
    }

    int count(int what) {
        return once().count(what);
    }

    // ---- ways to make one

    /** A new object that got these kinds: DATA 0 to 30, 31 and on for the MARKS. */
    static Used sent(int... kinds) {
        return new Used().send(kinds);
    }

    /** A new object with so many WORDS, all DATA 4 (010101). */
    static Used words(int many) {
        Used x = new Used();
        for (int i = 0; i < many; i++) {
            x.sends(4);
        }
        return x;
    }

    /** A new object whose WIRE is these bits (blanks don't count): DATA 30 (111000), TURNED where it must be. */
    static Used wire(String text) {
        String bits = text.replace(" ", "");
        Used x = new Used();
        for (int w = 0; w < bits.length() / 6; w++) {
            x.sends(30);
        }
        for (int b = 0; b < bits.length(); b++) {
            if (bits.charAt(b) != "111000".charAt(b % 6)) {
                x.flips(b);
            }
        }
        return x;
    }

    static Used text(String text) {
        return new Used().write(text);
    }

    Used send(int... kinds) {
        for (int kind : kinds) {
            if (kind < 31) {
                sends(kind);
            } else {
                marks(kind - 31);
            }
        }
        return this;
    }

    Used turn(int... bits) {
        for (int bit : bits) {
            flips(bit);
        }
        return this;
    }

    Used write(String text) {
        for (int i = 0; i < text.length(); i++) {
            type(text.charAt(i));
        }
        return this;
    }

    // ---- what can be seen of it

    String bits() {
        StringBuilder seen = new StringBuilder();
        int many = 6 * count(0);
        for (int b = 0; b < many; b++) {
            seen.append(bit(b));
        }
        return seen.toString();
    }

    String kinds() {
        StringBuilder seen = new StringBuilder();
        int many = count(0);
        for (int w = 0; w < many; w++) {
            seen.append(w == 0 ? "" : " ").append(word(w));
        }
        return seen.toString();
    }

    String recents() {
        return recent(0) + " " + recent(1);
    }

    String counts() {
        StringBuilder seen = new StringBuilder();
        for (int what = 0; what <= 7; what++) {
            seen.append(what == 0 ? "" : " ").append(count(what));
        }
        return seen.toString();
    }

    /** All that is told of THE WIRE, of a long one its ends (weight sees all bits). */
    private String asItIs() {
        StringBuilder seen = new StringBuilder(counts());
        seen.append(" / ").append(recents()).append(" / ").append(weight(1)).append(" /");
        int many = count(0);
        for (int w = 0; w < many; w++) {
            if (w < 3 || w >= many - 4) {
                seen.append(' ').append(word(w)).append('=').append(piece(0, 0, w, 0));
            }
        }
        return seen.append('\n').toString();
    }

    /** All of it, also what may be UNDONE, what THE TEXT tells, and the IMAGES: it is another one behind that. */
    String everything() {
        StringBuilder seen = new StringBuilder(asItIs());
        int left = undo();
        while (left >= 0) {
            seen.append("undone, ").append(left).append(" more: ").append(asItIs());
            left = undo();
        }
        seen.append("told ").append(tells()).append(": ").append(asItIs());
        for (int image = 0; image <= 1; image++) {
            seen.append("back ").append(back(image)).append(": ").append(asItIs());
        }
        return seen.toString();
    }
}
