import java.util.ArrayDeque;
import java.util.ArrayList;
import java.util.Collections;
import java.util.Deque;
import java.util.List;
import java.util.regex.Matcher;
import java.util.regex.Pattern;

/** Long runs of calls, each answer against a model that does what the document says word by word, however slowly. */
public final class ModelTest {
    private static final int RUNS = 1500;
    private static final int CALLS = 512;

    private static long seed = 20261119L;
    private static int wrong = 0;

    public static void main(String[] args) {
        for (int run = 0; run < RUNS && wrong < 20; run++) {
            new Run(run).go();
        }
        System.out.println(wrong == 0 ? "all answers are as the model's" : wrong + " answers are not as the model's");
        if (wrong != 0) {
            System.exit(1);
        }
    }

    /** The same numbers in every run of this test: 0 to bound - 1. */
    private static int next(int bound) {
        seed = seed * 6364136223846793005L + 1442695040888963407L;
        return (int) ((seed >>> 33) % bound);
    }

    /** A number that a call may get: mostly from low to high, now and then beside them or far off. */
    private static int around(int low, int high) {
        int kind = next(40);
        if (kind == 0) {
            return Integer.MIN_VALUE + next(3);
        }
        if (kind == 1) {
            return Integer.MAX_VALUE - next(3);
        }
        if (kind <= 3) {
            return low - 1;
        }
        if (kind <= 5) {
            return high + 1;
        }
        return low + next(high - low + 1);
    }

    private static final class Run {
        private final int number;
        private final EvenWords x = new EvenWords();
        private final Model m = new Model();
        private final int habit = next(5);
        private int calls = 0;

        Run(int number) {
            this.number = number;
        }

        void go() {
            while (calls < CALLS && wrong < 20) {
                int what = next(100);
                if (what < 5) {
                    type();
                } else if (what < 9) {
                    tell();
                } else if (what < 35) {
                    act();
                } else {
                    ask();
                }
            }
        }

        private void due(String call, int got, int want) {
            calls++;
            if (got != want) {
                wrong++;
                System.out.println("run " + number + ", call " + calls + ": " + call + " answered " + got
                    + ", the model " + want);
            }
        }

        private void type() {
            int letter = next(6) == 0 ? around(0, 255) : "dk;0123 9".charAt(next(9));
            due("type(" + letter + ")", x.type(letter), m.type(letter));
        }

        private void tell() {
            if (next(8) != 0) {
                due("clear()", x.clear(), m.clear());
            }
            String text = text();
            for (int i = 0; i < text.length() && calls < CALLS; i++) {
                due("type(" + (int) text.charAt(i) + ")", x.type(text.charAt(i)), m.type(text.charAt(i)));
            }
            due("tells()", x.tells(), m.tells());
        }

        private String text() {
            StringBuilder text = new StringBuilder();
            int items = next(10) == 0 ? next(42) : 1 + next(6);
            for (int i = 0; i < items; i++) {
                int kind = kind();
                text.append(blanks()).append(kind < 31 ? "d" : "k").append(blanks());
                text.append(kind < 31 ? kind : kind - 31).append(blanks()).append(";");
            }
            text.append(blanks());
            if (next(3) == 0 && text.length() > 0) {
                int at = next(text.length());
                char other = "dk;01239 x\t:/".charAt(next(13));
                switch (next(3)) {
                    case 0:
                        text.setCharAt(at, other);
                        break;
                    case 1:
                        text.insert(at, other);
                        break;
                    default:
                        text.deleteCharAt(at);
                }
            }
            return text.toString();
        }

        private String blanks() {
            return next(4) == 0 ? " ".repeat(1 + next(2)) : "";
        }

        /** What is sent goes by the run's habit, so that unlike wires come up. */
        private int kind() {
            switch (habit) {
                case 0:
                    return next(34);
                case 1:
                    return next(18);
                case 2:
                    return 18 + next(16);
                case 3:
                    return new int[] {4, 13, 5, 12, 19, 32}[next(6)];
                default:
                    return next(3) == 0 ? 30 + next(4) : next(31);
            }
        }

        private void act() {
            int what = next(100);
            if (what < 55) {
                int kind = kind();
                if (next(25) == 0) {
                    int data = around(0, 30);
                    due("sends(" + data + ")", x.sends(data), m.sends(data));
                    int mark = around(0, 2);
                    due("marks(" + mark + ")", x.marks(mark), m.marks(mark));
                } else if (kind < 31) {
                    due("sends(" + kind + ")", x.sends(kind), m.sends(kind));
                } else {
                    due("marks(" + (kind - 31) + ")", x.marks(kind - 31), m.marks(kind - 31));
                }
            } else if (what < 67) {
                int bit = around(0, Math.max(0, m.now.bits.size() - 1));
                due("flips(" + bit + ")", x.flips(bit), m.flips(bit));
            } else if (what < 69) {
                due("clears()", x.clears(), m.clears());
            } else if (what < 89) {
                due("undo()", x.undo(), m.undo());
            } else if (what < 95) {
                int image = around(0, 1);
                due("keep(" + image + ")", x.keep(image), m.keep(image));
            } else {
                int image = around(0, 1);
                due("back(" + image + ")", x.back(image), m.back(image));
            }
        }

        private void ask() {
            int words = m.now.kinds.size();
            int a;
            int b;
            switch (next(12)) {
                case 0:
                    a = around(0, 33);
                    b = around(0, 1);
                    due("form(" + a + ", " + b + ")", x.form(a, b), m.form(a, b));
                    break;
                case 1:
                    a = around(0, Math.max(0, 6 * words - 1));
                    due("bit(" + a + ")", x.bit(a), m.bit(a));
                    break;
                case 2:
                    a = around(0, Math.max(0, words - 1));
                    due("word(" + a + ")", x.word(a), m.word(a));
                    break;
                case 3:
                    a = around(0, 1);
                    due("recent(" + a + ")", x.recent(a), m.recent(a));
                    break;
                case 4:
                case 5:
                    askPiece(words);
                    break;
                case 6:
                case 7:
                    askRead();
                    break;
                case 8:
                    a = around(-1, 11);
                    due("cuts(" + a + ")", x.cuts(a), m.cuts(a));
                    break;
                case 9:
                    a = next(5) == 0 ? around(-300, 300) : around(-6, 6);
                    b = around(0, 2);
                    due("level(" + a + ", " + b + ")", x.level(a, b), m.level(a, b));
                    break;
                case 10:
                    a = next(3) == 0 ? around(1, 6) : around(1, Math.max(1, Math.min(5, words)));
                    b = around(-1, 6);
                    due("evenest(" + a + ", " + b + ")", x.evenest(a, b), m.evenest(a, b));
                    break;
                default:
                    a = next(2) == 0 ? around(-1000, 1000) : around(-3, 3);
                    due("weight(" + a + ")", x.weight(a), m.weight(a));
                    b = around(0, 7);
                    due("count(" + b + ")", x.count(b), m.count(b));
            }
        }

        private void askPiece(int words) {
            int f = around(0, 5);
            int u = around(0, 1);
            int p = around(0, words);
            int what = around(0, 4);
            due("piece(" + f + ", " + u + ", " + p + ", " + what + ")", x.piece(f, u, p, what), m.piece(f, u, p, what));
        }

        private void askRead() {
            int f = next(2) == 0 ? 0 : around(0, 5);
            int u = around(0, 1);
            int what = around(0, 5);
            due("read(" + f + ", " + u + ", " + what + ")", x.read(f, u, what), m.read(f, u, what));
        }
    }

    /** What part 1 tells but THE TEXT. SUM and RECENT follow from what was SENT. */
    private static final class Told {
        final List<Integer> kinds = new ArrayList<>();
        final List<Integer> sentBits = new ArrayList<>();
        final List<Integer> bits = new ArrayList<>();

        Told copy() {
            Told other = new Told();
            other.kinds.addAll(kinds);
            other.sentBits.addAll(sentBits);
            other.bits.addAll(bits);
            return other;
        }

        int sum() {
            int sum = -1;
            for (int w = 0; w < kinds.size(); w++) {
                int ones = 0;
                for (int b : sentBits.subList(6 * w, 6 * w + 6)) {
                    ones += b;
                }
                if (ones != 3) {
                    sum = -sum;
                }
            }
            return sum;
        }

        int send(int kind) {
            int form = Model.formOf(kind, sum());
            kinds.add(kind);
            for (char c : Model.six(form)) {
                sentBits.add(c - '0');
                bits.add(c - '0');
            }
            return form;
        }

        List<Integer> recent() {
            List<Integer> marks = new ArrayList<>();
            for (int w = kinds.size() - 1; w >= 0 && marks.size() < 2; w--) {
                int kind = kinds.get(w);
                if (kind >= 31 && !marks.contains(kind - 31)) {
                    marks.add(0, kind - 31);
                }
            }
            return marks;
        }
    }

    private static final class Piece {
        int number;
        int means;
        boolean right;
        int breaches;
        int sumBehind;
    }

    private static final class Model {
        Told now = new Told();
        String text = "";
        Deque<Told> ahead = new ArrayDeque<>();
        Told[] images = new Told[2];

        static final List<Integer> A = formsA();

        static List<Integer> formsA() {
            List<Integer> forms = new ArrayList<>();
            for (int n = 0; n < 64; n++) {
                if (Integer.bitCount(n) == 3 && n != 7 && n != 56) {
                    forms.add(n);
                }
            }
            for (int n = 0; n < 64; n++) {
                if (Integer.bitCount(n) == 4 && n != 15 && n != 30 && n != 60) {
                    forms.add(n);
                }
            }
            forms.addAll(List.of(56, 15, 30, 60));
            return forms;
        }

        static int formOf(int kind, int sum) {
            return sum == -1 || kind <= 17 ? A.get(kind) : 63 - A.get(kind);
        }

        static char[] six(int number) {
            return Integer.toBinaryString(64 + number).substring(1).toCharArray();
        }

        void done() {
            ahead.addLast(now.copy());
            if (ahead.size() > 6) {
                ahead.removeFirst();
            }
        }

        int type(int letter) {
            if (letter < 0 || letter > 255) {
                return -1;
            }
            if (text.length() == 120) {
                return -3;
            }
            text += (char) letter;
            return text.length();
        }

        int clear() {
            int had = text.length();
            text = "";
            return had;
        }

        int tells() {
            List<Integer> told = new ArrayList<>();
            int fault = fault(told);
            if (fault != -1) {
                return -10 - fault;
            }
            if (now.kinds.size() + told.size() > 32) {
                return -3;
            }
            done();
            for (int kind : told) {
                now.send(kind);
            }
            text = "";
            return told.size();
        }

        private int fault(List<Integer> told) {
            Matcher token = Pattern.compile("[0-9]+|[^ ]", Pattern.DOTALL).matcher(text);
            String before = ";";
            while (token.find()) {
                String t = token.group();
                boolean fits;
                if (before.equals(";")) {
                    fits = t.equals("d") || t.equals("k");
                } else if (before.equals("d")) {
                    fits = t.matches("[0-9]|[12][0-9]|30");
                    if (fits) {
                        told.add(Integer.parseInt(t));
                    }
                } else if (before.equals("k")) {
                    fits = t.matches("[012]");
                    if (fits) {
                        told.add(31 + Integer.parseInt(t));
                    }
                } else {
                    fits = t.equals(";");
                }
                if (!fits) {
                    return token.start();
                }
                before = t;
            }
            return before.equals(";") && !told.isEmpty() ? -1 : text.length();
        }

        int sends(int data) {
            return data < 0 || data > 30 ? -1 : sendOne(data);
        }

        int marks(int mark) {
            return mark < 0 || mark > 2 ? -1 : sendOne(31 + mark);
        }

        private int sendOne(int kind) {
            if (now.kinds.size() == 32) {
                return -3;
            }
            done();
            return now.send(kind);
        }

        int flips(int bit) {
            if (bit < 0 || bit >= now.bits.size()) {
                return -1;
            }
            done();
            now.bits.set(bit, 1 - now.bits.get(bit));
            return now.bits.get(bit);
        }

        int clears() {
            int had = now.kinds.size();
            if (had == 0) {
                return -2;
            }
            done();
            now = new Told();
            return had;
        }

        int undo() {
            if (ahead.isEmpty()) {
                return -2;
            }
            now = ahead.removeLast();
            return ahead.size();
        }

        int form(int k, int form) {
            return k < 0 || k > 33 || form < 0 || form > 1 ? -1 : formOf(k, form == 0 ? -1 : 1);
        }

        int bit(int b) {
            return b < 0 || b >= now.bits.size() ? -1 : now.bits.get(b);
        }

        int word(int w) {
            return w < 0 || w >= now.kinds.size() ? -1 : now.kinds.get(w);
        }

        int recent(int i) {
            if (i < 0) {
                return -1;
            }
            return i < now.recent().size() ? now.recent().get(i) : -9;
        }

        private static List<Piece> pieces(List<Integer> wire, int f, int u) {
            List<Piece> pieces = new ArrayList<>();
            int sum = u;
            for (int at = f; at + 6 <= wire.size(); at += 6) {
                Piece p = new Piece();
                StringBuilder word = new StringBuilder();
                for (int b : wire.subList(at, at + 6)) {
                    word.append(b);
                }
                p.number = Integer.parseInt(word.toString(), 2);
                p.means = -9;
                for (int kind = 0; kind < 34; kind++) {
                    if (formOf(kind, -1) == p.number || formOf(kind, 1) == p.number) {
                        p.means = kind;
                    }
                    p.right |= formOf(kind, sum) == p.number;
                }
                if (p.means == -9) {
                    p.breaches += 1;
                } else if (!p.right) {
                    p.breaches += 2;
                }
                boolean long7 = false;
                boolean far = false;
                for (int b = at; b < at + 6; b++) {
                    int level = u;
                    for (int c = f; c <= b; c++) {
                        level += wire.get(c) == 1 ? 1 : -1;
                    }
                    far |= Math.abs(level) > 3;
                    long7 |= runAt(wire, f, b) > 6;
                }
                p.breaches += (long7 ? 4 : 0) + (far ? 8 : 0);
                int ones = (int) word.chars().filter(c -> c == '1').count();
                sum = ones > 3 ? 1 : ones < 3 ? -1 : sum;
                p.sumBehind = sum;
                pieces.add(p);
            }
            return pieces;
        }

        private static int runAt(List<Integer> wire, int f, int b) {
            int run = 0;
            while (b - run >= f && wire.get(b - run).equals(wire.get(b))) {
                run++;
            }
            return run;
        }

        private static int longest(List<Integer> wire) {
            int longest = 0;
            for (int b = 0; b < wire.size(); b++) {
                longest = Math.max(longest, runAt(wire, 0, b));
            }
            return longest;
        }

        private static int firstOf(List<Piece> pieces) {
            for (int p = 0; p < pieces.size(); p++) {
                if (pieces.get(p).breaches != 0) {
                    return p;
                }
            }
            return -9;
        }

        int piece(int f, int u, int p, int what) {
            if (f < 0 || f > 5 || u < 0 || u > 1 || p < 0 || what < 0 || what > 4) {
                return -1;
            }
            List<Piece> pieces = pieces(now.bits, f, 2 * u - 1);
            if (p >= pieces.size()) {
                return -9;
            }
            Piece it = pieces.get(p);
            return new int[] {it.number, it.means, it.right ? 1 : 0, it.breaches, (it.sumBehind + 1) / 2}[what];
        }

        int read(int f, int u, int what) {
            if (f < 0 || f > 5 || u < 0 || u > 1 || what < 0 || what > 5) {
                return -1000000;
            }
            List<Piece> pieces = pieces(now.bits, f, 2 * u - 1);
            int first = firstOf(pieces);
            switch (what) {
                case 0:
                    return pieces.size();
                case 1:
                    return first;
                case 2:
                    return (int) pieces.stream().filter(p -> p.breaches != 0).count();
                default:
            }
            List<Integer> blamed = new ArrayList<>();
            for (int b = f; b < f + 6 * pieces.size(); b++) {
                List<Integer> other = new ArrayList<>(now.bits);
                other.set(b, 1 - other.get(b));
                if (firstOf(pieces(other, f, 2 * u - 1)) == -9) {
                    blamed.add(b);
                }
            }
            if (what == 3) {
                return blamed.size();
            }
            if (what == 4) {
                return blamed.isEmpty() ? -9 : blamed.get(0);
            }
            return blamed.isEmpty() || first == -9 ? -2000000 : first - (blamed.get(0) - f) / 6;
        }

        int cuts(int k) {
            if (k < -1) {
                return -1;
            }
            List<Integer> cuts = new ArrayList<>();
            for (int f = 0; f <= 5; f++) {
                for (int u = 0; u <= 1; u++) {
                    List<Piece> pieces = pieces(now.bits, f, 2 * u - 1);
                    if (!pieces.isEmpty() && firstOf(pieces) == -9) {
                        cuts.add(2 * f + u);
                    }
                }
            }
            if (k == -1) {
                return cuts.size();
            }
            return k < cuts.size() ? cuts.get(k) : -9;
        }

        private List<Integer> levels() {
            List<Integer> levels = new ArrayList<>();
            int level = -1;
            for (int b : now.bits) {
                level += b == 1 ? 1 : -1;
                levels.add(level);
            }
            return levels;
        }

        int level(int x, int what) {
            if (x < -300 || x > 300 || what < 0 || what > 2) {
                return -1000000;
            }
            if (what == 0) {
                return Collections.frequency(levels(), x);
            }
            if (what == 1) {
                return levels().stream().filter(l -> l > x).min(Integer::compare).orElse(-2000000);
            }
            return levels().stream().filter(l -> l < x).max(Integer::compare).orElse(-2000000);
        }

        int evenest(int n, int i) {
            if (n < 1 || n > 6 || i < -1) {
                return -1;
            }
            int ahead = now.kinds.size() - n;
            if (ahead < 0) {
                return -2;
            }
            if (i >= n) {
                return -9;
            }
            List<Integer> best = null;
            int least = 0;
            for (List<Integer> order : orders(n)) {
                Told other = new Told();
                for (int kind : now.kinds.subList(0, ahead)) {
                    other.send(kind);
                }
                for (int place : order) {
                    other.send(now.kinds.get(ahead + place));
                }
                int longest = longest(other.bits);
                if (best == null || longest < least || longest == least && isAhead(order, best)) {
                    best = order;
                    least = longest;
                }
            }
            return i == -1 ? least : best.get(i);
        }

        private static boolean isAhead(List<Integer> one, List<Integer> other) {
            for (int i = 0; i < one.size(); i++) {
                if (!one.get(i).equals(other.get(i))) {
                    return one.get(i) < other.get(i);
                }
            }
            return false;
        }

        /** All orders of 0 to n - 1, in no order that means anything: the last one is put in at each place. */
        private static List<List<Integer>> orders(int n) {
            List<List<Integer>> all = new ArrayList<>();
            if (n == 0) {
                all.add(new ArrayList<>());
                return all;
            }
            for (List<Integer> shorter : orders(n - 1)) {
                for (int at = 0; at < n; at++) {
                    List<Integer> order = new ArrayList<>(shorter);
                    order.add(at, n - 1);
                    all.add(order);
                }
            }
            return all;
        }

        int weight(int a) {
            java.math.BigInteger all = java.math.BigInteger.ZERO;
            List<Integer> levels = levels();
            for (int b = 0; b < levels.size(); b++) {
                all = all.add(java.math.BigInteger.valueOf((long) levels.get(b) * (b + 1)));
            }
            all = all.multiply(java.math.BigInteger.valueOf(a));
            return all.abs().compareTo(java.math.BigInteger.valueOf(999999)) > 0 ? -1000000 : all.intValue();
        }

        int keep(int image) {
            if (image < 0 || image > 1) {
                return -1;
            }
            images[image] = now.copy();
            return now.kinds.size();
        }

        int back(int image) {
            if (image < 0 || image > 1) {
                return -1;
            }
            if (images[image] == null) {
                return -2;
            }
            now = images[image].copy();
            ahead.clear();
            return now.kinds.size();
        }

        int count(int what) {
            switch (what) {
                case 0:
                    return now.kinds.size();
                case 1:
                    return now.sum() == 1 ? 1 : 0;
                case 2:
                    return Collections.frequency(now.bits, 1);
                case 3:
                    int turned = 0;
                    for (int b = 0; b < now.bits.size(); b++) {
                        turned += now.bits.get(b).equals(now.sentBits.get(b)) ? 0 : 1;
                    }
                    return turned;
                case 4:
                    return longest(now.bits);
                case 5:
                    return (int) now.kinds.stream().filter(k -> k >= 31).count();
                case 6:
                    return text.length();
                case 7:
                    return ahead.size();
                default:
                    return -1;
            }
        }
    }
}
