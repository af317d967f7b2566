import java.util.Arrays;

/**
 * Tunes searched by words over what is seen of their notes, by a query held against all places, by what it
 * costs to carry one tune's notes to another's, and by families. All rows are made with the object and used
 * again: no call makes an object.
 */
public final class TuneSearch {
    public static final int NONE = -1, BAD = -2, FULL = -3;

    private static final int TUNES = 8;
    private static final int NOTES = 24;
    private static final int QUERY_NOTES = 12;
    private static final int HIGHEST_PITCH = 127;
    private static final int REST = -1;
    private static final int LONGEST = 64;
    private static final int DEAREST = 1000;
    private static final int WIDEST_SHIFT = 24;
    private static final int VIEWS = 5;
    private static final int MOST_TYPED = 8;
    private static final int PER_MILLE = 1000;

    private static final int PRICE_PITCH = 0;
    private static final int PRICE_LENGTH = 1;
    private static final int PRICE_ALONE_FIRST = 2;
    private static final int PRICE_ALONE_SECOND = 3;
    private static final int PRICE_REST = 4;
    private static final int PRICE_BEGIN = 5;
    private static final int PRICE_CARRIED_PITCH = 6;
    private static final int PRICE_LEFT = 7;
    private static final int PRICES = 8;

    private final NoteRow[] tunes;
    private int tuneCount;
    private final NoteRow asked;
    private final int[] prices;
    private final Tape tape;
    private final WordReader reader;
    private Word current;
    private Word spare;
    private boolean hasWord;
    private int latestFault;
    private final Signs signs;
    private final Ways ways;
    private final Finds finds;
    private final Carrier carrier;
    private final int[] familyHeads;
    private int familyTunes;

    public TuneSearch() {
        tunes = new NoteRow[TUNES];
        for (int t = 0; t < TUNES; t++) {
            tunes[t] = new NoteRow(NOTES);
        }
        asked = new NoteRow(QUERY_NOTES);
        prices = new int[PRICES];
        Arrays.fill(prices, 1);
        tape = new Tape();
        reader = new WordReader();
        current = new Word();
        spare = new Word();
        signs = new Signs();
        ways = new Ways();
        finds = new Finds();
        carrier = new Carrier();
        familyHeads = new int[TUNES];
    }

    public int tune() {
        if (tuneCount >= TUNES) {
            return FULL;
        }
        tuneCount++;
        return tuneCount - 1;
    }

    public int note(int tune, int pitch, int length) {
        if (!isTune(tune)) {
            return NONE;
        }
        return addNote(tunes[tune], pitch, length);
    }

    public int query(int pitch, int length) {
        return addNote(asked, pitch, length);
    }

    public int forget() {
        int had = asked.count;
        asked.count = 0;
        return had;
    }

    public int price(int k, int v) {
        if (k < 0 || k >= PRICES) {
            return NONE;
        }
        if (v < 0 || v > DEAREST) {
            return BAD;
        }
        int was = prices[k];
        prices[k] = v;
        return was;
    }

    public int type(long w, int n) {
        if (n < 1 || n > MOST_TYPED) {
            return BAD;
        }
        if (!tape.hasRoomFor(n)) {
            return FULL;
        }
        tape.append(w, n);
        return tape.count;
    }

    public int word() {
        latestFault = reader.read(tape, spare);
        tape.count = 0;
        if (latestFault != 0) {
            return -10 - reader.place;
        }
        Word old = current;
        current = spare;
        spare = old;
        hasWord = true;
        return current.atoms;
    }

    public int fault() {
        return latestFault;
    }

    public int find(int view) {
        if (view < 0 || view >= VIEWS) {
            return BAD;
        }
        finds.count = 0;
        if (!hasWord) {
            return 0;
        }
        for (int t = 0; t < tuneCount; t++) {
            findInTune(t, view);
        }
        return finds.count;
    }

    public int near(int most, int shifts) {
        if (most < 0 || shifts < 0 || shifts > WIDEST_SHIFT) {
            return BAD;
        }
        finds.count = 0;
        for (int t = 0; t < tuneCount; t++) {
            ways.seekEnds(prices, asked, tunes[t], shifts, most);
            addEnds(t, most);
        }
        return finds.count;
    }

    public int found(int k, int what) throws IndexOutOfBoundsException {
        if (k < 0 || k >= finds.count || what < 0 || what >= Finds.FIELDS) {
            throw new IndexOutOfBoundsException("nothing such was found");
        }
        return finds.look(k, what);
    }

    public int distance(int a, int b, int shift) {
        if (!isTune(a) || !isTune(b)) {
            return NONE;
        }
        if (shift < -WIDEST_SHIFT || shift > WIDEST_SHIFT) {
            return BAD;
        }
        return ways.wholeCost(prices, tunes[a], tunes[b], shift, Ways.BEYOND);
    }

    public long freight(int a, int b) {
        if (!isTune(a) || !isTune(b)) {
            return NONE;
        }
        carrier.load(tunes[a], tunes[b]);
        return carrier.leastCost(prices);
    }

    public long share(int a, int b) throws IndexOutOfBoundsException, ArithmeticException {
        if (!isTune(a) || !isTune(b)) {
            throw new IndexOutOfBoundsException("no such tune");
        }
        carrier.load(tunes[a], tunes[b]);
        int going = carrier.unitsGoing();
        if (going == 0) {
            throw new ArithmeticException("no unit goes");
        }
        return PER_MILLE * carrier.leastCost(prices) / going;
    }

    public int families(int most) {
        if (most < 0) {
            return BAD;
        }
        familyTunes = tuneCount;
        int count = tuneCount;
        for (int t = 0; t < tuneCount; t++) {
            familyHeads[t] = t;
        }
        for (int a = 0; a < tuneCount; a++) {
            for (int b = a + 1; b < tuneCount; b++) {
                if (familyHeads[a] != familyHeads[b] && areNear(tunes[a], tunes[b], most)) {
                    joinFamilies(familyHeads[a], familyHeads[b]);
                    count--;
                }
            }
        }
        return count;
    }

    public int family(int tune) {
        if (!isTune(tune) || tune >= familyTunes) {
            return NONE;
        }
        return familyHeads[tune];
    }

    public int told(int what) {
        switch (what) {
            case 0:
                return tuneCount;
            case 1:
                return countNotes();
            case 2:
                return asked.count;
            case 3:
                return tape.count;
            case 4:
                return finds.count;
            default:
                return BAD;
        }
    }

    private boolean isTune(int tune) {
        return tune >= 0 && tune < tuneCount;
    }

    private static int addNote(NoteRow row, int pitch, int length) {
        if (pitch < REST || pitch > HIGHEST_PITCH || length < 1 || length > LONGEST) {
            return BAD;
        }
        if (row.isFull()) {
            return FULL;
        }
        row.append(pitch, length);
        return row.count;
    }

    private int countNotes() {
        int sum = 0;
        for (int t = 0; t < tuneCount; t++) {
            sum += tunes[t].count;
        }
        return sum;
    }

    private void findInTune(int t, int view) {
        signs.look(tunes[t], view);
        current.hold(signs);
        for (int place = 0; place < signs.count; place++) {
            int longest = current.longestFrom(place);
            if (longest > 0) {
                finds.add(t, place, longest, 0, 0);
            }
        }
    }

    private void addEnds(int t, int most) {
        for (int end = 0; end <= tunes[t].count; end++) {
            int cost = ways.endCost(end);
            if (cost <= most) {
                finds.add(t, ways.endPlace(end), end, cost, ways.endShift(end));
            }
        }
    }

    private boolean areNear(NoteRow a, NoteRow b, int most) {
        return ways.wholeCost(prices, a, b, 0, most) <= most || ways.wholeCost(prices, b, a, 0, most) <= most;
    }

    private void joinFamilies(int one, int other) {
        int head = Math.min(one, other);
        for (int t = 0; t < familyTunes; t++) {
            if (familyHeads[t] == one || familyHeads[t] == other) {
                familyHeads[t] = head;
            }
        }
    }

    /** A tune, or the query. */
    private static final class NoteRow {
        final int[] pitches;
        final int[] lengths;
        int count;

        NoteRow(int most) {
            pitches = new int[most];
            lengths = new int[most];
        }

        boolean isFull() {
            return count >= pitches.length;
        }

        boolean isRest(int n) {
            return pitches[n] == REST;
        }

        int lengthOfAll() {
            int sum = 0;
            for (int n = 0; n < count; n++) {
                sum += lengths[n];
            }
            return sum;
        }

        void append(int pitch, int length) {
            pitches[count] = pitch;
            lengths[count] = length;
            count++;
        }
    }

    /** The bytes that were typed since the latest word. */
    private static final class Tape {
        static final int BYTES = 160;

        final int[] bytes = new int[BYTES];
        int count;

        boolean hasRoomFor(int n) {
            return count + n <= BYTES;
        }

        void append(long w, int n) {
            for (int k = n - 1; k >= 0; k--) {
                bytes[count] = (int) (w >>> (8 * k)) & 255;
                count++;
            }
        }

        boolean hasDigitAt(int at) {
            return at < count && bytes[at] >= '0' && bytes[at] <= '9';
        }
    }

    /** A view of one tune. */
    private static final class Signs {
        /** The sign R: it lies below every number that a word can tell, so that no range takes it in. */
        static final int R = -1000;

        final int[] row = new int[NOTES];
        int count;

        void look(NoteRow tune, int view) {
            count = 0;
            int first = view == 0 || view == 3 ? 0 : 1;
            for (int n = first; n < tune.count; n++) {
                row[count] = signOf(tune, n, view);
                count++;
            }
        }

        private static int signOf(NoteRow tune, int n, int view) {
            switch (view) {
                case 0:
                    return tune.isRest(n) ? R : tune.pitches[n];
                case 1:
                    return interval(tune, n);
                case 2:
                    return turnOfInterval(tune, n);
                case 3:
                    return tune.lengths[n];
                default:
                    return turn(tune.lengths[n] - tune.lengths[n - 1]);
            }
        }

        private static int interval(NoteRow tune, int n) {
            if (tune.isRest(n) || tune.isRest(n - 1)) {
                return R;
            }
            return tune.pitches[n] - tune.pitches[n - 1];
        }

        private static int turnOfInterval(NoteRow tune, int n) {
            int step = interval(tune, n);
            return step == R ? R : turn(step);
        }

        private static int turn(int difference) {
            if (difference == 0) {
                return 0;
            }
            return difference > 0 ? 1 : -1;
        }
    }

    /**
     * A word as its atoms that are no ( ): which ones a row may begin with, end with, and which may follow each.
     * There are at most 50, so that a set of them is one long.
     */
    private static final class Word {
        static final int ATOMS = 50;

        int atoms;
        long first;
        long last;
        final int[] lows = new int[ATOMS];
        final int[] highs = new int[ATOMS];
        final long[] follow = new long[ATOMS];
        /** For each sign of the view that is held against the word: the atoms that stand for it. */
        final long[] fitting = new long[NOTES];
        int signCount;

        boolean isFull() {
            return atoms >= ATOMS;
        }

        /** Answers the set of the new atom alone. */
        long addAtom(int low, int high) {
            lows[atoms] = low;
            highs[atoms] = high;
            follow[atoms] = 0L;
            atoms++;
            return 1L << (atoms - 1);
        }

        void link(long ends, long begins) {
            for (int a = 0; a < atoms; a++) {
                if ((ends >>> a & 1L) != 0) {
                    follow[a] |= begins;
                }
            }
        }

        void hold(Signs signs) {
            signCount = signs.count;
            for (int s = 0; s < signCount; s++) {
                fitting[s] = atomsFor(signs.row[s]);
            }
        }

        private long atomsFor(int sign) {
            long set = 0L;
            for (int a = 0; a < atoms; a++) {
                if (lows[a] <= sign && sign <= highs[a]) {
                    set |= 1L << a;
                }
            }
            return set;
        }

        /** How many signs the longest row has that begins at the place, 0 when there is none of one or more. */
        int longestFrom(int place) {
            int longest = 0;
            long open = first;
            for (int s = place; s < signCount && open != 0L; s++) {
                long taken = open & fitting[s];
                if ((taken & last) != 0L) {
                    longest = s - place + 1;
                }
                open = followers(taken);
            }
            return longest;
        }

        private long followers(long taken) {
            long set = 0L;
            for (int a = 0; a < atoms && taken >>> a != 0L; a++) {
                if ((taken >>> a & 1L) != 0L) {
                    set |= follow[a];
                }
            }
            return set;
        }
    }

    /** A part of a word: the atoms that its rows begin and end with, and whether the row of no signs is one. */
    private static final class Part {
        boolean empty;
        long first;
        long last;

        void become(boolean newEmpty, long newFirst, long newLast) {
            empty = newEmpty;
            first = newFirst;
            last = newLast;
        }

        void addChoice(Part other) {
            empty = empty || other.empty;
            first |= other.first;
            last |= other.last;
        }

        void addBehind(Part next) {
            first = empty ? first | next.first : first;
            last = next.empty ? last | next.last : next.last;
            empty = empty && next.empty;
        }
    }

    /** What has been read within one ( ), or outside of all: the seqs before the latest |, the seq behind it. */
    private static final class Level {
        final Part choices = new Part();
        final Part seq = new Part();
        /** The latest item: not in the seq yet, since a * may still come behind it. */
        final Part item = new Part();
        boolean canRepeat;

        void begin() {
            choices.become(false, 0L, 0L);
            seq.become(true, 0L, 0L);
            item.become(true, 0L, 0L);
            canRepeat = false;
        }

        void closeItem(Word word) {
            word.link(seq.last, item.first);
            seq.addBehind(item);
            item.become(true, 0L, 0L);
            canRepeat = false;
        }

        void closeSeq(Word word) {
            closeItem(word);
            choices.addChoice(seq);
            seq.become(true, 0L, 0L);
        }
    }

    /** Reads a tape token by token, so that the first token with a fault is the one that is told. */
    private static final class WordReader {
        private static final int NUMBER = '0';
        private static final int END = 0;
        private static final int NO_TOKEN = -1;
        private static final int DIGITS = 3;
        private static final int GREATEST = 999;
        private static final int DEEPEST = 8;

        private static final int FAULT_BYTE = 1;
        private static final int FAULT_ORDER = 2;
        private static final int FAULT_RANGE = 3;
        private static final int FAULT_MANY = 4;

        /** What can come next: anything outside of [ ], or one thing within it. */
        private static final int AWAIT_ITEM = 0;
        private static final int AWAIT_LOW = 1;
        private static final int AWAIT_COMMA = 2;
        private static final int AWAIT_HIGH = 3;
        private static final int AWAIT_CLOSE = 4;

        /** Where the latest token begins. */
        int place;
        private final Level[] levels = new Level[DEEPEST + 1];
        private int depth;
        private int next;
        private int token;
        private int number;
        private int awaited;
        private int low;
        private int high;

        WordReader() {
            for (int d = 0; d <= DEEPEST; d++) {
                levels[d] = new Level();
            }
        }

        /** Answers the fault, 0 for none; the word is whole only if there is none. */
        int read(Tape tape, Word word) {
            word.atoms = 0;
            next = 0;
            depth = 0;
            awaited = AWAIT_ITEM;
            levels[0].begin();
            for (int step = 0; step <= Tape.BYTES; step++) {
                readToken(tape);
                int fault = take(word);
                if (fault != 0) {
                    return fault;
                }
                if (token == END) {
                    break;
                }
            }
            levels[0].closeSeq(word);
            word.first = levels[0].choices.first;
            word.last = levels[0].choices.last;
            return 0;
        }

        private void readToken(Tape tape) {
            while (next < tape.count && tape.bytes[next] == ' ') {
                next++;
            }
            place = next;
            if (next >= tape.count) {
                token = END;
                return;
            }
            boolean minus = tape.bytes[next] == '-';
            if (tape.hasDigitAt(minus ? next + 1 : next)) {
                readNumber(tape, minus);
            } else {
                token = markOrNone(tape.bytes[next]);
                next++;
            }
        }

        private void readNumber(Tape tape, boolean minus) {
            int begin = minus ? next + 1 : next;
            int value = 0;
            next = begin;
            while (next < tape.count && tape.hasDigitAt(next)) {
                if (next - begin < DIGITS) {
                    value = 10 * value + tape.bytes[next] - '0';
                }
                next++;
            }
            token = next - begin <= DIGITS ? NUMBER : NO_TOKEN;
            number = minus ? -value : value;
        }

        private static int markOrNone(int b) {
            switch (b) {
                case '|': case '*': case '+': case '?': case '.': case 'r':
                case '[': case ']': case ',': case '(': case ')':
                    return b;
                default:
                    return NO_TOKEN;
            }
        }

        private int take(Word word) {
            if (token == NO_TOKEN) {
                return FAULT_BYTE;
            }
            if (awaited != AWAIT_ITEM) {
                return takeWithinBrackets(word);
            }
            switch (token) {
                case NUMBER:
                    return takeAtom(word, number, number);
                case '.':
                    return takeAtom(word, -GREATEST, GREATEST);
                case 'r':
                    return takeAtom(word, Signs.R, Signs.R);
                case '[':
                    return openBrackets(word);
                case '(':
                    return openGroup(word);
                case ')':
                    return closeGroup(word);
                case '|':
                    levels[depth].closeSeq(word);
                    return 0;
                case '*': case '+': case '?':
                    return repeat(word);
                case END:
                    return depth > 0 ? FAULT_ORDER : 0;
                default:
                    return FAULT_ORDER;
            }
        }

        private int takeWithinBrackets(Word word) {
            if (token != tokenDue()) {
                return FAULT_ORDER;
            }
            switch (awaited) {
                case AWAIT_LOW:
                    low = number;
                    awaited = AWAIT_COMMA;
                    return 0;
                case AWAIT_COMMA:
                    awaited = AWAIT_HIGH;
                    return 0;
                case AWAIT_HIGH:
                    high = number;
                    awaited = AWAIT_CLOSE;
                    return high < low ? FAULT_RANGE : 0;
                default:
                    awaited = AWAIT_ITEM;
                    return takeAtom(word, low, high);
            }
        }

        private int tokenDue() {
            switch (awaited) {
                case AWAIT_COMMA:
                    return ',';
                case AWAIT_CLOSE:
                    return ']';
                default:
                    return NUMBER;
            }
        }

        private int takeAtom(Word word, int from, int to) {
            if (word.isFull()) {
                return FAULT_MANY;
            }
            Level level = levels[depth];
            level.closeItem(word);
            long atom = word.addAtom(from, to);
            level.item.become(false, atom, atom);
            level.canRepeat = true;
            return 0;
        }

        /** An atom begins with its [, so one too many is told there and not at its ]. */
        private int openBrackets(Word word) {
            if (word.isFull()) {
                return FAULT_MANY;
            }
            awaited = AWAIT_LOW;
            return 0;
        }

        private int openGroup(Word word) {
            if (depth >= DEEPEST) {
                return FAULT_MANY;
            }
            levels[depth].closeItem(word);
            depth++;
            levels[depth].begin();
            return 0;
        }

        private int closeGroup(Word word) {
            if (depth == 0) {
                return FAULT_ORDER;
            }
            Level inner = levels[depth];
            inner.closeSeq(word);
            depth--;
            Level outer = levels[depth];
            outer.item.become(inner.choices.empty, inner.choices.first, inner.choices.last);
            outer.canRepeat = true;
            return 0;
        }

        private int repeat(Word word) {
            Level level = levels[depth];
            if (!level.canRepeat) {
                return FAULT_ORDER;
            }
            if (token != '?') {
                word.link(level.item.last, level.item.first);
            }
            if (token != '+') {
                level.item.empty = true;
            }
            level.canRepeat = false;
            return 0;
        }
    }

    /** What the latest search found. */
    private static final class Finds {
        static final int FIELDS = 5;
        private static final int MOST = TUNES * (NOTES + 1);
        private static final int COST = 3;

        int count;
        /** By field, then by when it was found. */
        private final int[][] values = new int[FIELDS][MOST];
        /** Which one is the k-th: by costs, of like ones the earlier found first. */
        private final int[] order = new int[MOST];

        void add(int tune, int place, int size, int cost, int shift) {
            if (count >= MOST) {
                return;
            }
            values[0][count] = tune;
            values[1][count] = place;
            values[2][count] = size;
            values[COST][count] = cost;
            values[4][count] = shift;
            int at = count;
            while (at > 0 && values[COST][order[at - 1]] > cost) {
                order[at] = order[at - 1];
                at--;
            }
            order[at] = count;
            count++;
        }

        int look(int k, int field) {
            return values[field][order[k]];
        }
    }

    /**
     * The cheapest ways from one row of notes to another. The cell i, j stands for the ways that have taken i notes
     * of the first row and j of the second. It holds the cost times 32, and how far the way's first place lies
     * before place 24: so the least number is the cheapest way, and of like ones that from the last place.
     */
    private static final class Ways {
        /** More than any two rows can cost: to take each note alone is a way, too. */
        static final int BEYOND = 2 * NOTES * LONGEST * DEAREST + 1;
        private static final int UNIT = 32;
        private static final int FAR = Integer.MAX_VALUE;
        private static final int SEVERAL = 4;

        private final int[][] cells = new int[NOTES + 1][NOTES + 1];
        /** What each note of the first row costs with each of the second, lengths aside; like the prices times 32. */
        private final int[][] pairs = new int[NOTES][NOTES];
        private final int[] endCells = new int[NOTES + 1];
        private final int[] endShifts = new int[NOTES + 1];
        private int pitchPrice;
        private int restPrice;
        private int lengthPrice;
        private int firstAlone;
        private int secondAlone;
        /** Ways above it are not gone on with: they cost more than is asked for. */
        private int limit;

        /** The distance of two whole rows if it is most at most, else some number above most. */
        int wholeCost(int[] prices, NoteRow a, NoteRow b, int shift, int most) {
            begin(prices, most);
            clearCells(a, b);
            cells[0][0] = 0;
            goThrough(a, b, shift);
            return cells[a.count][b.count] / UNIT;
        }

        /** Seeks the cheapest way to each end in the tune; one that costs more than most may stay unseen. */
        void seekEnds(int[] prices, NoteRow asked, NoteRow tune, int shifts, int most) {
            // To take all of the query alone is a way to each end: a dearer one is never the cheapest.
            begin(prices, Math.min(most, prices[PRICE_ALONE_FIRST] * asked.lengthOfAll()));
            Arrays.fill(endCells, FAR);
            // Shifts come in the order in which they win at like costs.
            for (int wide = 0; wide <= shifts; wide++) {
                seekEndsBy(asked, tune, -wide);
                if (wide > 0) {
                    seekEndsBy(asked, tune, wide);
                }
            }
        }

        int endCost(int end) {
            return endCells[end] / UNIT;
        }

        int endPlace(int end) {
            return NOTES - endCells[end] % UNIT;
        }

        int endShift(int end) {
            return endShifts[end];
        }

        private void begin(int[] prices, int most) {
            pitchPrice = prices[PRICE_PITCH] * UNIT;
            restPrice = prices[PRICE_REST] * UNIT;
            lengthPrice = prices[PRICE_LENGTH] * UNIT;
            firstAlone = prices[PRICE_ALONE_FIRST] * UNIT;
            secondAlone = prices[PRICE_ALONE_SECOND] * UNIT;
            limit = Math.min(most, BEYOND) * UNIT + UNIT - 1;
        }

        private void seekEndsBy(NoteRow asked, NoteRow tune, int shift) {
            clearCells(asked, tune);
            for (int place = 0; place <= tune.count; place++) {
                cells[0][place] = NOTES - place;
            }
            goThrough(asked, tune, shift);
            for (int end = 0; end <= tune.count; end++) {
                int cell = cells[asked.count][end];
                if (cell / UNIT < endCells[end] / UNIT) {
                    endCells[end] = cell;
                    endShifts[end] = shift;
                }
            }
        }

        private void clearCells(NoteRow a, NoteRow b) {
            for (int i = 0; i <= a.count; i++) {
                for (int j = 0; j <= b.count; j++) {
                    cells[i][j] = FAR;
                }
            }
        }

        private void goThrough(NoteRow a, NoteRow b, int shift) {
            for (int i = 0; i < a.count; i++) {
                for (int j = 0; j < b.count; j++) {
                    pairs[i][j] = pairCost(a.pitches[i], b.pitches[j], shift);
                }
            }
            for (int i = 0; i <= a.count; i++) {
                for (int j = 0; j <= b.count; j++) {
                    if (cells[i][j] <= limit) {
                        stepOn(a, b, i, j);
                    }
                }
            }
        }

        private int pairCost(int pitchInA, int pitchInB, int shift) {
            if (pitchInA == REST && pitchInB == REST) {
                return 0;
            }
            if (pitchInA == REST || pitchInB == REST) {
                return restPrice;
            }
            return pitchPrice * Math.abs(pitchInA + shift - pitchInB);
        }

        private void stepOn(NoteRow a, NoteRow b, int i, int j) {
            int here = cells[i][j];
            boolean moreInA = i < a.count;
            boolean moreInB = j < b.count;
            if (moreInA) {
                offer(i + 1, j, here + firstAlone * a.lengths[i]);
            }
            if (moreInB) {
                offer(i, j + 1, here + secondAlone * b.lengths[j]);
            }
            if (moreInA && moreInB) {
                stepWithSeveralOfB(a, b, i, j);
                stepWithSeveralOfA(a, b, i, j);
            }
        }

        private void stepWithSeveralOfB(NoteRow a, NoteRow b, int i, int j) {
            int[] pairsOfOne = pairs[i];
            int[] behindOne = cells[i + 1];
            int cost = cells[i][j];
            int lengths = a.lengths[i];
            int stop = Math.min(b.count, j + SEVERAL);
            for (int taken = j; taken < stop && cost <= limit; taken++) {
                cost += pairsOfOne[taken];
                lengths -= b.lengths[taken];
                int cell = cost + lengthPrice * Math.abs(lengths);
                if (cell < behindOne[taken + 1]) {
                    behindOne[taken + 1] = cell;
                }
            }
        }

        private void stepWithSeveralOfA(NoteRow a, NoteRow b, int i, int j) {
            int cost = cells[i][j] + pairs[i][j];
            int lengths = b.lengths[j] - a.lengths[i];
            int stop = Math.min(a.count, i + SEVERAL);
            for (int taken = i + 1; taken < stop && cost <= limit; taken++) {
                cost += pairs[taken][j];
                lengths -= a.lengths[taken];
                offer(taken + 1, j + 1, cost + lengthPrice * Math.abs(lengths));
            }
        }

        private void offer(int i, int j, int cell) {
            if (cell < cells[i][j]) {
                cells[i][j] = cell;
            }
        }
    }

    /** The notes of a tune that are no rests, as units to be carried. */
    private static final class Load {
        final int[] pitches = new int[NOTES];
        final int[] begins = new int[NOTES];
        /** How many units of each note have not gone yet. */
        final int[] left = new int[NOTES];
        int count;
        int units;

        void fill(NoteRow tune) {
            count = 0;
            units = 0;
            int begin = 0;
            for (int n = 0; n < tune.count; n++) {
                if (!tune.isRest(n)) {
                    pitches[count] = tune.pitches[n];
                    begins[count] = begin;
                    left[count] = tune.lengths[n];
                    units += tune.lengths[n];
                    count++;
                }
                begin += tune.lengths[n];
            }
        }
    }

    /**
     * Carries units at the least cost. All units of the tune that has less of them (the givers) go; costs are alike
     * both ways, so it does not matter which tune that is. Each giver's units go by the cheapest path, on which
     * units that went before may be sent elsewhere. Rates (a giver's and a taker's together are never above the
     * price of a unit, and are the price where units go) keep all that a path adds at 0 or more, so that the
     * nearest taker is final when it is reached.
     */
    private static final class Carrier {
        private static final int UNREACHED = -1;
        private static final int FAR = Integer.MAX_VALUE;

        private final Load givers = new Load();
        private final Load takers = new Load();
        private final int[][] unitCosts = new int[NOTES][NOTES];
        private final int[][] sent = new int[NOTES][NOTES];
        private final int[] giverRates = new int[NOTES];
        private final int[] takerRates = new int[NOTES];
        private final int[] giverReach = new int[NOTES];
        private final int[] takerReach = new int[NOTES];
        /** From which taker a giver was reached, and from which giver a taker. */
        private final int[] giverVia = new int[NOTES];
        private final int[] takerVia = new int[NOTES];
        private final boolean[] takerDone = new boolean[NOTES];

        void load(NoteRow a, NoteRow b) {
            givers.fill(a);
            takers.fill(b);
            if (givers.units > takers.units) {
                givers.fill(b);
                takers.fill(a);
            }
        }

        int unitsGoing() {
            return givers.units;
        }

        /** To be asked once behind load, as it uses up what is left. */
        long leastCost(int[] prices) {
            begin(prices);
            for (int g = 0; g < givers.count; g++) {
                sendAll(g);
            }
            long cost = (long) prices[PRICE_LEFT] * (takers.units - givers.units);
            for (int g = 0; g < givers.count; g++) {
                for (int t = 0; t < takers.count; t++) {
                    cost += (long) unitCosts[g][t] * sent[g][t];
                }
            }
            return cost;
        }

        private void begin(int[] prices) {
            for (int g = 0; g < givers.count; g++) {
                for (int t = 0; t < takers.count; t++) {
                    int apart = Math.abs(givers.begins[g] - takers.begins[t]);
                    int higher = Math.abs(givers.pitches[g] - takers.pitches[t]);
                    unitCosts[g][t] = prices[PRICE_BEGIN] * apart + prices[PRICE_CARRIED_PITCH] * higher;
                    sent[g][t] = 0;
                }
            }
            Arrays.fill(giverRates, 0);
            Arrays.fill(takerRates, 0);
        }

        private void sendAll(int giver) {
            for (int round = 0; round < LONGEST && givers.left[giver] > 0; round++) {
                int taker = nearestOpenTaker(giver);
                if (taker == UNREACHED) {
                    return;
                }
                changeRates(takerReach[taker]);
                send(giver, taker, amountOnPath(giver, taker));
            }
        }

        private int nearestOpenTaker(int giver) {
            Arrays.fill(giverReach, UNREACHED);
            for (int t = 0; t < takers.count; t++) {
                takerReach[t] = FAR;
                takerDone[t] = false;
            }
            reachGiver(giver, 0, UNREACHED);
            for (int step = 0; step < takers.count; step++) {
                int taker = nearestTaker();
                if (taker == UNREACHED || takers.left[taker] > 0) {
                    return taker;
                }
                takerDone[taker] = true;
                reachGiversOf(taker);
            }
            return UNREACHED;
        }

        private int nearestTaker() {
            int nearest = UNREACHED;
            int reach = FAR;
            for (int t = 0; t < takers.count; t++) {
                if (!takerDone[t] && takerReach[t] < reach) {
                    nearest = t;
                    reach = takerReach[t];
                }
            }
            return nearest;
        }

        private void reachGiversOf(int taker) {
            for (int g = 0; g < givers.count; g++) {
                if (sent[g][taker] > 0 && giverReach[g] == UNREACHED) {
                    reachGiver(g, takerReach[taker], taker);
                }
            }
        }

        private void reachGiver(int giver, int reach, int via) {
            giverReach[giver] = reach;
            giverVia[giver] = via;
            for (int t = 0; t < takers.count; t++) {
                int far = reach + unitCosts[giver][t] - giverRates[giver] - takerRates[t];
                if (!takerDone[t] && far < takerReach[t]) {
                    takerReach[t] = far;
                    takerVia[t] = giver;
                }
            }
        }

        private void changeRates(int reach) {
            for (int g = 0; g < givers.count; g++) {
                if (giverReach[g] != UNREACHED) {
                    giverRates[g] += reach - giverReach[g];
                }
            }
            for (int t = 0; t < takers.count; t++) {
                if (takerDone[t]) {
                    takerRates[t] -= reach - takerReach[t];
                }
            }
        }

        private int amountOnPath(int giver, int taker) {
            int amount = Math.min(givers.left[giver], takers.left[taker]);
            int g = takerVia[taker];
            for (int hop = 0; hop < NOTES && giverVia[g] != UNREACHED; hop++) {
                amount = Math.min(amount, sent[g][giverVia[g]]);
                g = takerVia[giverVia[g]];
            }
            return amount;
        }

        private void send(int giver, int taker, int amount) {
            givers.left[giver] -= amount;
            takers.left[taker] -= amount;
            int g = takerVia[taker];
            sent[g][taker] += amount;
            for (int hop = 0; hop < NOTES && giverVia[g] != UNREACHED; hop++) {
                int back = giverVia[g];
                sent[g][back] -= amount;
                g = takerVia[back];
                sent[g][back] += amount;
            }
        }
    }
}
