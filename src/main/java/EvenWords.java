/** Words of six bits that keep a wire even; ../shared/DOC.md says what each call promises. */
public final class EvenWords {
    public static final int BAD = -1, STATE = -2, FULL = -3, NONE = -9;
    public static final int NO = -1000000, NOT = -2000000;

    private static final int MOST_WORDS = 32;
    private static final int WORD_BITS = 6;
    private static final int MOST_LETTERS = 120;
    // "d0;" is the shortest ITEM, so no text tells more of them
    private static final int MOST_ITEMS = MOST_LETTERS / 3;
    private static final int MOST_UNDONE = 6;
    private static final int MOST_ORDERED = 6;
    private static final int IMAGES = 2;
    private static final int DATA_KINDS = 31;
    private static final int MARK_KINDS = 3;
    private static final int FARTHEST = 300;
    private static final long HEAVIEST = 999999L;

    // what the text may go on with
    private static final int HEAD_DUE = 0;
    private static final int DATA_DUE = 1;
    private static final int MARK_DUE = 2;
    private static final int END_DUE = 3;
    private static final int NOTHING_FITS = -1;
    private static final int FAULT_BASE = -10;

    private final Wire wire = new Wire();
    private final Wire[] earlier = new Wire[MOST_UNDONE];
    private final Wire[] images = new Wire[IMAGES];
    private final boolean[] kept = new boolean[IMAGES];
    private final int[] text = new int[MOST_LETTERS];
    private final int[] told = new int[MOST_ITEMS];
    private final Reading reading = new Reading();
    private final Orders orders = new Orders();
    private final Walk walk = new Walk();
    private int letters;
    private int items;
    private int undoable;

    public EvenWords() {
        for (int i = 0; i < MOST_UNDONE; i++) {
            earlier[i] = new Wire();
        }
        for (int i = 0; i < IMAGES; i++) {
            images[i] = new Wire();
        }
    }

    // ---- what is told

    public int type(int letter) {
        if (letter < 0 || letter > 255) {
            return BAD;
        }
        if (letters < 0 || letters >= MOST_LETTERS) {
            return FULL;
        }
        text[letters] = letter;
        letters++;
        return letters;
    }

    public int clear() {
        int had = letters;
        letters = 0;
        return had;
    }

    public int tells() {
        int fault = faultPlace();
        if (fault >= 0) {
            return FAULT_BASE - fault;
        }
        if (wire.words + items > MOST_WORDS) {
            return FULL;
        }
        remember();
        for (int i = 0; i < items && i < MOST_ITEMS; i++) {
            wire.send(told[i]);
        }
        letters = 0;
        return items;
    }

    // ---- what is done

    public int sends(int data) {
        if (data < 0 || data >= DATA_KINDS) {
            return BAD;
        }
        return sendOne(data);
    }

    public int marks(int mark) {
        if (mark < 0 || mark >= MARK_KINDS) {
            return BAD;
        }
        return sendOne(DATA_KINDS + mark);
    }

    public int flips(int bit) {
        if (!wire.hasBit(bit)) {
            return BAD;
        }
        remember();
        wire.turn(bit);
        return wire.bitAt(bit);
    }

    public int clears() {
        if (wire.words == 0) {
            return STATE;
        }
        int had = wire.words;
        remember();
        wire.empty();
        return had;
    }

    public int undo() {
        if (undoable <= 0 || undoable > MOST_UNDONE) {
            return STATE;
        }
        undoable--;
        Wire.carry(earlier[undoable], wire);
        return undoable;
    }

    // ---- as it is

    public int form(int k, int form) {
        if (!Forms.isKind(k) || form < 0 || form > 1) {
            return BAD;
        }
        return Forms.formDue(k, sumOf(form));
    }

    public int bit(int b) {
        return wire.hasBit(b) ? wire.bitAt(b) : BAD;
    }

    public int word(int w) {
        if (w < 0 || w >= wire.words || w >= MOST_WORDS) {
            return BAD;
        }
        return wire.kinds[w];
    }

    public int recent(int i) {
        if (i < 0) {
            return BAD;
        }
        return wire.markSentLately(i);
    }

    // ---- read

    public int piece(int f, int u, int p, int what) {
        if (!canRead(f, u) || p < 0 || what < 0 || what > 4) {
            return BAD;
        }
        reading.load(wire, f, sumOf(u));
        if (p >= reading.many) {
            return NONE;
        }
        int number = reading.pieceAt(p);
        switch (what) {
            case 0:
                return number;
            case 1:
                return Forms.meaning(number);
            case 2:
                return Forms.isRight(number, reading.sumAhead(p)) ? 1 : 0;
            case 3:
                return reading.breachesAt(p);
            default:
                return signOf(reading.sumBehind(p));
        }
    }

    public int read(int f, int u, int what) {
        if (!canRead(f, u) || what < 0 || what > 5) {
            return NO;
        }
        reading.load(wire, f, sumOf(u));
        if (what == 0) {
            return reading.many;
        }
        reading.check();
        if (what == 1) {
            return reading.first;
        }
        if (what == 2) {
            return reading.broken;
        }
        reading.blame();
        if (what == 3) {
            return reading.blamed;
        }
        return what == 4 ? reading.lowest : reading.late();
    }

    public int cuts(int k) {
        if (k < -1) {
            return BAD;
        }
        int found = 0;
        for (int way = 0; way < 2 * WORD_BITS; way++) {
            reading.load(wire, way / 2, sumOf(way % 2));
            reading.check();
            if (reading.many > 0 && reading.first == NONE) {
                if (found == k) {
                    return way;
                }
                found++;
            }
        }
        return k == -1 ? found : NONE;
    }

    // ---- runs and sums

    public int level(int x, int what) {
        if (x < -FARTHEST || x > FARTHEST || what < 0 || what > 2) {
            return NO;
        }
        int times = 0;
        int above = NOT;
        int below = NOT;
        walk.start(-1);
        for (int b = 0; b < wire.bits(); b++) {
            walk.step(wire.bitAt(b));
            int height = walk.height;
            if (height == x) {
                times++;
            } else if (height > x && (above == NOT || height < above)) {
                above = height;
            } else if (height < x && (below == NOT || height > below)) {
                below = height;
            }
        }
        if (what == 0) {
            return times;
        }
        return what == 1 ? above : below;
    }

    public int evenest(int n, int i) {
        if (n < 1 || n > MOST_ORDERED || i < -1) {
            return BAD;
        }
        if (wire.words < n) {
            return STATE;
        }
        if (i >= n) {
            return NONE;
        }
        orders.search(wire, n);
        return i == -1 ? orders.least : orders.bestAt(i);
    }

    public int weight(int a) {
        long together = 0;
        walk.start(-1);
        for (int b = 0; b < wire.bits(); b++) {
            walk.step(wire.bitAt(b));
            together += (long) walk.height * (b + 1);
        }
        long weighed = together * a;
        return weighed < -HEAVIEST || weighed > HEAVIEST ? NO : (int) weighed;
    }

    // ---- images

    public int keep(int image) {
        if (image < 0 || image >= IMAGES) {
            return BAD;
        }
        Wire.carry(wire, images[image]);
        kept[image] = true;
        return wire.words;
    }

    public int back(int image) {
        if (image < 0 || image >= IMAGES) {
            return BAD;
        }
        if (!kept[image]) {
            return STATE;
        }
        Wire.carry(images[image], wire);
        undoable = 0;
        return wire.words;
    }

    public int count(int what) {
        switch (what) {
            case 0:
                return wire.words;
            case 1:
                return signOf(wire.sum);
            case 2:
                return wire.ones();
            case 3:
                return wire.turned();
            case 4:
                return longestRun();
            case 5:
                return wire.marksSent();
            case 6:
                return letters;
            case 7:
                return undoable;
            default:
                return BAD;
        }
    }

    private int sendOne(int kind) {
        if (wire.words >= MOST_WORDS) {
            return FULL;
        }
        remember();
        return wire.send(kind);
    }

    private void remember() {
        if (undoable >= MOST_UNDONE) {
            forgetOldest();
        }
        if (undoable < 0 || undoable >= MOST_UNDONE) {
            return;
        }
        Wire.carry(wire, earlier[undoable]);
        undoable++;
    }

    private void forgetOldest() {
        Wire oldest = earlier[0];
        for (int i = 1; i < MOST_UNDONE; i++) {
            earlier[i - 1] = earlier[i];
        }
        earlier[MOST_UNDONE - 1] = oldest;
        undoable = MOST_UNDONE - 1;
    }

    private int longestRun() {
        walk.start(-1);
        for (int b = 0; b < wire.bits(); b++) {
            walk.step(wire.bitAt(b));
        }
        return walk.longest;
    }

    /** The FAULT of THE TEXT, or -1; if there is none, told has what the ITEMS tell. */
    private int faultPlace() {
        int due = HEAD_DUE;
        items = 0;
        for (int at = 0; at < letters; at++) {
            if (isTokenStart(at)) {
                due = afterToken(due, at);
                if (due == NOTHING_FITS) {
                    return at;
                }
            }
        }
        return due == HEAD_DUE && items > 0 ? -1 : letters;
    }

    private boolean isTokenStart(int at) {
        return letterAt(at) != ' ' && (figureAt(at) < 0 || figureAt(at - 1) < 0);
    }

    /** What is due behind the TOKEN from at on, if due is what may stand there. */
    private int afterToken(int due, int at) {
        int letter = letterAt(at);
        switch (due) {
            case HEAD_DUE:
                if (letter == 'd') {
                    return DATA_DUE;
                }
                return letter == 'k' ? MARK_DUE : NOTHING_FITS;
            case DATA_DUE:
                return afterNumber(numberAt(at), 0, DATA_KINDS);
            case MARK_DUE:
                return afterNumber(numberAt(at), DATA_KINDS, MARK_KINDS);
            default:
                return letter == ';' ? HEAD_DUE : NOTHING_FITS;
        }
    }

    private int afterNumber(int number, int base, int kinds) {
        if (number < 0 || number >= kinds || items < 0 || items >= MOST_ITEMS) {
            return NOTHING_FITS;
        }
        told[items] = base + number;
        items++;
        return END_DUE;
    }

    /** The NUMBER from at on, or -1, if there is none or it is not as a NUMBER may be. */
    private int numberAt(int at) {
        int first = figureAt(at);
        int second = figureAt(at + 1);
        if (first < 0 || second < 0) {
            return first;
        }
        boolean above99 = figureAt(at + 2) >= 0;
        return first == 0 || above99 ? -1 : 10 * first + second;
    }

    /** The figure at this place, or -1. */
    private int figureAt(int at) {
        int letter = letterAt(at);
        return letter >= '0' && letter <= '9' ? letter - '0' : -1;
    }

    /** The letter at this place, or -1 where there is none. */
    private int letterAt(int at) {
        return at >= 0 && at < letters && at < MOST_LETTERS ? text[at] : -1;
    }

    private static boolean canRead(int f, int u) {
        return f >= 0 && f < WORD_BITS && u >= 0 && u <= 1;
    }

    private static int sumOf(int u) {
        return u == 1 ? 1 : -1;
    }

    private static int signOf(int sum) {
        return sum == 1 ? 1 : 0;
    }

    /** The two forms. A kind is DATA 0 to 30, or 31 and on for the MARKS. */
    private static final class Forms {
        private static final int SAME_IN_BOTH = 18;
        private static final int[] AS_A = {
            11, 13, 14, 19, 21, 22, 25, 26, 28, 35, 37, 38, 41, 42, 44, 49, 50, 52,
            23, 27, 29, 39, 43, 45, 46, 51, 53, 54, 57, 58,
            56,
            15, 30, 60,
        };
        // by the number of the piece; -9 is NONE
        private static final int[] MEANS = {
            -9, -9, -9, 33, -9, 29, 28, 30,
            -9, 27, 26, 0, 25, 1, 2, 31,
            -9, 24, 23, 3, 22, 4, 5, 18,
            21, 6, 7, 19, 8, 20, 32, -9,
            -9, 32, 20, 9, 19, 10, 11, 21,
            18, 12, 13, 22, 14, 23, 24, -9,
            31, 15, 16, 25, 17, 26, 27, -9,
            30, 28, 29, -9, 33, -9, -9, -9,
        };

        static boolean isKind(int kind) {
            return kind >= 0 && kind < DATA_KINDS + MARK_KINDS;
        }

        /** FORM A at SUM -1, FORM B at 1. */
        static int formDue(int kind, int sum) {
            int formA = kind >= 0 && kind < AS_A.length ? AS_A[kind] : 0;
            return sum == 1 && kind >= SAME_IN_BOTH ? 63 - formA : formA;
        }

        static int meaning(int number) {
            return number >= 0 && number < MEANS.length ? MEANS[number] : NONE;
        }

        static boolean isRight(int number, int sum) {
            int kind = meaning(number);
            return kind != NONE && formDue(kind, sum) == number;
        }

        static int sumBehind(int number, int sum) {
            int ones = Integer.bitCount(number);
            if (ones == 3) {
                return sum;
            }
            return ones > 3 ? 1 : -1;
        }
    }

    /** All that part 1 of the document tells but THE TEXT. */
    private static final class Wire {
        final int[] kinds = new int[MOST_WORDS];
        final int[] sent = new int[MOST_WORDS];
        final int[] now = new int[MOST_WORDS];
        int words = 0;
        int sum = -1;
        int olderMark = NONE;
        int latestMark = NONE;

        void empty() {
            words = 0;
            sum = -1;
            olderMark = NONE;
            latestMark = NONE;
        }

        static void carry(Wire source, Wire target) {
            if (source == null || target == null) {
                return;
            }
            for (int w = 0; w < source.words && w < MOST_WORDS; w++) {
                target.kinds[w] = source.kinds[w];
                target.sent[w] = source.sent[w];
                target.now[w] = source.now[w];
            }
            target.words = source.words;
            target.sum = source.sum;
            target.olderMark = source.olderMark;
            target.latestMark = source.latestMark;
        }

        int send(int kind) {
            if (words < 0 || words >= MOST_WORDS) {
                return FULL;
            }
            int number = Forms.formDue(kind, sum);
            kinds[words] = kind;
            sent[words] = number;
            now[words] = number;
            words++;
            sum = Forms.sumBehind(number, sum);
            if (kind >= DATA_KINDS) {
                noteMark(kind - DATA_KINDS);
            }
            return number;
        }

        private void noteMark(int mark) {
            if (mark != latestMark) {
                olderMark = latestMark;
                latestMark = mark;
            }
        }

        int markSentLately(int i) {
            int known = latestMark == NONE ? 0 : olderMark == NONE ? 1 : 2;
            if (i < 0 || i >= known) {
                return NONE;
            }
            return i == known - 1 ? latestMark : olderMark;
        }

        int bits() {
            return words * WORD_BITS;
        }

        boolean hasBit(int b) {
            return b >= 0 && b < bits() && b < MOST_WORDS * WORD_BITS;
        }

        int bitAt(int b) {
            if (!hasBit(b)) {
                return 0;
            }
            return (now[b / WORD_BITS] & placeOf(b)) == 0 ? 0 : 1;
        }

        void turn(int b) {
            if (hasBit(b)) {
                now[b / WORD_BITS] ^= placeOf(b);
            }
        }

        // a word is sent from its highest bit on
        private static int placeOf(int b) {
            return 1 << (WORD_BITS - 1 - b % WORD_BITS);
        }

        int ones() {
            int found = 0;
            for (int w = 0; w < words && w < MOST_WORDS; w++) {
                found += Integer.bitCount(now[w]);
            }
            return found;
        }

        int turned() {
            int found = 0;
            for (int w = 0; w < words && w < MOST_WORDS; w++) {
                found += Integer.bitCount(now[w] ^ sent[w]);
            }
            return found;
        }

        int marksSent() {
            int found = 0;
            for (int w = 0; w < words && w < MOST_WORDS; w++) {
                if (kinds[w] >= DATA_KINDS) {
                    found++;
                }
            }
            return found;
        }
    }

    /** What is known behind the bits that were gone over. */
    private static final class Walk {
        private static final int NO_FORM = 1;
        private static final int OTHER_FORM = 2;
        private static final int LONG_RUN = 4;
        private static final int FAR_LEVEL = 8;
        private static final int MOST_RUN = 6;
        private static final int MOST_LEVEL = 3;

        int sum = -1;
        int height = -1;
        int lastBit = NONE;
        int run = 0;
        int longest = 0;

        void start(int u) {
            sum = u;
            height = u;
            lastBit = NONE;
            run = 0;
            longest = 0;
        }

        void become(Walk other) {
            sum = other.sum;
            height = other.height;
            lastBit = other.lastBit;
            run = other.run;
            longest = other.longest;
        }

        void step(int bit) {
            run = bit == lastBit ? run + 1 : 1;
            lastBit = bit;
            height += bit == 1 ? 1 : -1;
            longest = Math.max(longest, run);
        }

        /** Goes over six bits more: the BREACHES at them. */
        int take(int number) {
            int breaches = formBreach(number);
            for (int place = WORD_BITS - 1; place >= 0; place--) {
                step((number >> place) & 1);
                if (run > MOST_RUN) {
                    breaches |= LONG_RUN;
                }
                if (height > MOST_LEVEL || height < -MOST_LEVEL) {
                    breaches |= FAR_LEVEL;
                }
            }
            sum = Forms.sumBehind(number, sum);
            return breaches;
        }

        private int formBreach(int number) {
            if (Forms.meaning(number) == NONE) {
                return NO_FORM;
            }
            return Forms.isRight(number, sum) ? 0 : OTHER_FORM;
        }
    }

    /** THE WIRE, READ from one bit on by one SUM. */
    private static final class Reading {
        private final int[] pieces = new int[MOST_WORDS];
        private final Walk walk = new Walk();
        private final Walk trial = new Walk();
        private int from = 0;
        private int begin = -1;
        int many = 0;
        int first = NONE;
        int broken = 0;
        int blamed = 0;
        int lowest = NONE;

        void load(Wire wire, int f, int u) {
            from = f;
            begin = u;
            many = 0;
            int at = f;
            while (at + WORD_BITS <= wire.bits() && many < MOST_WORDS) {
                int number = 0;
                for (int i = 0; i < WORD_BITS; i++) {
                    number = 2 * number + wire.bitAt(at + i);
                }
                pieces[many] = number;
                many++;
                at += WORD_BITS;
            }
        }

        int pieceAt(int p) {
            return p >= 0 && p < many && p < MOST_WORDS ? pieces[p] : 0;
        }

        int sumAhead(int p) {
            int sum = begin;
            for (int i = 0; i < p && i < many; i++) {
                sum = Forms.sumBehind(pieceAt(i), sum);
            }
            return sum;
        }

        int sumBehind(int p) {
            return Forms.sumBehind(pieceAt(p), sumAhead(p));
        }

        int breachesAt(int p) {
            int breaches = 0;
            walk.start(begin);
            for (int i = 0; i <= p && i < many; i++) {
                breaches = walk.take(pieceAt(i));
            }
            return breaches;
        }

        /** Finds FIRST and how many PIECES have a BREACH. */
        void check() {
            first = NONE;
            broken = 0;
            walk.start(begin);
            for (int p = 0; p < many; p++) {
                if (walk.take(pieceAt(p)) != 0) {
                    broken++;
                    if (first == NONE) {
                        first = p;
                    }
                }
            }
        }

        /** Finds the BLAMED, behind check(): none can stand behind FIRST, whose BREACH would stay. */
        void blame() {
            int end = first == NONE ? many : first + 1;
            blamed = 0;
            lowest = NONE;
            walk.start(begin);
            for (int p = 0; p < end && p < many; p++) {
                for (int i = 0; i < WORD_BITS; i++) {
                    if (isRightTurned(p, i)) {
                        blamed++;
                        if (lowest == NONE) {
                            lowest = from + p * WORD_BITS + i;
                        }
                    }
                }
                walk.take(pieceAt(p));
            }
        }

        /** Whether there is no BREACH from p on, walk being ahead of it, if its bit i is the other way. */
        private boolean isRightTurned(int p, int i) {
            trial.become(walk);
            if (trial.take(pieceAt(p) ^ (1 << (WORD_BITS - 1 - i))) != 0) {
                return false;
            }
            for (int later = p + 1; later < many; later++) {
                if (trial.take(pieceAt(later)) != 0) {
                    return false;
                }
            }
            return true;
        }

        int late() {
            if (first == NONE || lowest == NONE) {
                return NOT;
            }
            return first - (lowest - from) / WORD_BITS;
        }
    }

    /** Looks for the EVENEST of the last words. */
    private static final class Orders {
        private static final int MORE_THAN_ANY = 1000;

        // walks[place] is behind the words at the places ahead of place
        private final Walk[] walks = new Walk[MOST_ORDERED + 1];
        private final int[] kinds = new int[MOST_ORDERED];
        private final int[] order = new int[MOST_ORDERED];
        private final int[] best = new int[MOST_ORDERED];
        private int many = 0;
        int least = 0;

        Orders() {
            for (int place = 0; place <= MOST_ORDERED; place++) {
                walks[place] = new Walk();
            }
        }

        void search(Wire wire, int n) {
            if (n < 1 || n > MOST_ORDERED || n > wire.words) {
                return;
            }
            int ahead = wire.words - n;
            many = n;
            least = MORE_THAN_ANY;
            walkAhead(wire, ahead);
            for (int i = 0; i < n && ahead + i < MOST_WORDS; i++) {
                kinds[i] = wire.kinds[ahead + i];
            }
            arrange(this, 0, 0);
        }

        private void walkAhead(Wire wire, int ahead) {
            Walk start = walks[0];
            if (start == null) {
                return;
            }
            start.start(-1);
            for (int w = 0; w < ahead && w < MOST_WORDS; w++) {
                start.take(wire.sent[w]);
            }
        }

        int bestAt(int i) {
            return i >= 0 && i < many && i < MOST_ORDERED ? best[i] : NONE;
        }

        // Words sent earlier are tried first: of orders alike in LONGEST the first one found is the one wanted.
        private static void arrange(Orders it, int place, int used) {
            if (place < 0 || place > MOST_ORDERED) {
                return;
            }
            Walk here = it.walks[place];
            if (here == null || here.longest >= it.least) {
                return;
            }
            if (place >= it.many || place >= MOST_ORDERED) {
                it.settle(here.longest);
                return;
            }
            Walk next = it.walks[place + 1];
            for (int i = 0; next != null && i < it.many && i < MOST_ORDERED; i++) {
                if ((used & (1 << i)) == 0) {
                    it.order[place] = i;
                    next.become(here);
                    next.take(Forms.formDue(it.kinds[i], here.sum));
                    arrange(it, place + 1, used | (1 << i));
                }
            }
        }

        private void settle(int longest) {
            least = longest;
            for (int i = 0; i < MOST_ORDERED; i++) {
                best[i] = order[i];
            }
        }
    }
}
