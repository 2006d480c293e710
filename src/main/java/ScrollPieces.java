/**
 * Pieces of a scroll, lined up by their torn edges, by fibres that run on, and by worm holes that
 * pass through all turns. ../shared/DOC.md says what each call does.
 */
public final class ScrollPieces {
    public static final int NONE = -1;

    private static final int MOST_PIECES = 7;
    private static final int MOST_WIDTH = 60;
    private static final int HEIGHTS = 4;
    private static final int MOST_HEIGHT = 5;
    private static final int MOST_FIBRE = 9;
    private static final int EDGE = HEIGHTS + 1;
    private static final int BOTH_EDGES = 2 * EDGE;
    private static final int MOST_HOLES = 4;
    private static final int MOST_TURNS = 5;
    private static final int SHRINK = 0;
    private static final int SLACK = 1;
    private static final int SETTINGS = 2;
    private static final int MOST_SETTING = 9;
    private static final int BUFFER = 60;
    private static final int SLOTS = 2;
    private static final int MOST_SAVED = 6;
    private static final int PIECE_PROPERTIES = 14;
    private static final int HOLE_PROPERTIES = 5;
    private static final int COUNTS = 10;
    /** More than any row can cost, which is six joins of at most 38 each. */
    private static final int TOO_DEAR = 1000;
    private static final long HASH_START = 3541;

    private final Scroll now = new Scroll();
    private final Scroll[] saved = new Scroll[MOST_SAVED];
    private int oldestSaved = 0;
    private int savedStates = 0;
    private final Scroll[] slots = new Scroll[SLOTS];
    private final boolean[] slotFull = new boolean[SLOTS];
    private final char[] buffer = new char[BUFFER];
    private int length = 0;
    private final Reader reader = new Reader();
    private final Cheapest cheapest = new Cheapest();
    private final HoleLine line = new HoleLine();
    private final int[] triedRow = new int[MOST_PIECES];

    public ScrollPieces() {
        for (int i = 0; i < MOST_SAVED; i++) {
            saved[i] = new Scroll();
        }
        for (int i = 0; i < SLOTS; i++) {
            slots[i] = new Scroll();
        }
    }

    // ---- pieces

    public int add(int width) throws IllegalArgumentException, IllegalStateException {
        if (width < 1 || width > MOST_WIDTH) {
            throw new IllegalArgumentException("width is not 1 to 60");
        }
        if (now.pieces >= MOST_PIECES) {
            throw new IllegalStateException("there are 7 pieces");
        }
        saveState();
        return now.addPiece(width);
    }

    public int tear(int piece, int side, int rank, int height)
            throws IndexOutOfBoundsException, IllegalArgumentException {
        needPiece(piece);
        if (rank < 0 || rank >= HEIGHTS) {
            throw new IllegalArgumentException("rank is not 0 to 3");
        }
        return changeEdge(piece, side, rank, height, MOST_HEIGHT);
    }

    public int fibre(int piece, int side, int fibre)
            throws IndexOutOfBoundsException, IllegalArgumentException {
        needPiece(piece);
        return changeEdge(piece, side, HEIGHTS, fibre, MOST_FIBRE);
    }

    public int hole(int piece, int place)
            throws IndexOutOfBoundsException, IllegalArgumentException, IllegalStateException {
        needPiece(piece);
        needPlaceIn(piece, place);
        boolean there = now.hasHole(piece, place);
        if (!there && now.holeCounts[piece] >= MOST_HOLES) {
            throw new IllegalStateException("the piece has 4 holes");
        }
        saveState();
        if (there) {
            now.closeHole(piece, place);
        } else {
            now.openHole(piece, place);
        }
        return now.holeCounts[piece];
    }

    public int remove(int piece) throws IndexOutOfBoundsException {
        needPiece(piece);
        saveState();
        now.takeAway(piece);
        return now.pieces;
    }

    // ---- the row

    public int move(int piece, int place) throws IndexOutOfBoundsException, IllegalArgumentException {
        needPiece(piece);
        if (place < 0 || place >= now.pieces) {
            throw new IllegalArgumentException("there is no such place in the row");
        }
        saveState();
        now.rowWith(piece, place, triedRow);
        System.arraycopy(triedRow, 0, now.row, 0, now.pieces);
        now.moves++;
        return now.costOfRow(now.row);
    }

    public int order() {
        saveState();
        cheapest.findRow(now);
        System.arraycopy(cheapest.row, 0, now.row, 0, now.pieces);
        now.moves++;
        return now.costOfRow(now.row);
    }

    public int set(int setting, int value) throws IndexOutOfBoundsException, IllegalArgumentException {
        needSetting(setting);
        if (value < 0 || value > MOST_SETTING) {
            throw new IllegalArgumentException("value is not 0 to 9");
        }
        saveState();
        int before = now.settings[setting];
        now.settings[setting] = value;
        return before;
    }

    // ---- texts, snapshots

    public int append(int code) throws IllegalArgumentException, IllegalStateException {
        if (code < 33 || code > 126) {
            throw new IllegalArgumentException("code is not 33 to 126");
        }
        if (length >= BUFFER) {
            throw new IllegalStateException("the buffer has 60 characters");
        }
        buffer[length] = (char) code;
        length++;
        return length;
    }

    public int clearBuffer() {
        int before = length;
        length = 0;
        return before;
    }

    public int firstError() {
        return readBuffer();
    }

    public int load() throws IllegalArgumentException, IllegalStateException {
        if (readBuffer() < length || !reader.isWhole()) {
            throw new IllegalArgumentException("the buffer does not tell pieces as a text");
        }
        if (now.pieces + reader.piecesBegun > MOST_PIECES) {
            throw new IllegalStateException("there would be more than 7 pieces");
        }
        saveState();
        addFromBuffer();
        length = 0;
        return now.pieces;
    }

    public int keep(int slot) throws IllegalArgumentException {
        needSlot(slot);
        slots[slot].copyFrom(now);
        slotFull[slot] = true;
        return now.pieces;
    }

    public int goBack(int slot) throws IllegalArgumentException, IllegalStateException {
        needSlot(slot);
        if (!slotFull[slot]) {
            throw new IllegalStateException("there is no snapshot in the slot");
        }
        saveState();
        now.copyFrom(slots[slot]);
        return now.pieces;
    }

    public int undo() throws IllegalStateException {
        if (savedStates < 1) {
            throw new IllegalStateException("there is no saved state");
        }
        savedStates--;
        now.copyFrom(saved[(oldestSaved + savedStates) % MOST_SAVED]);
        return savedStates;
    }

    // ---- looks; nothing is changed

    public int pieceOf(int piece, int what) throws IndexOutOfBoundsException, IllegalArgumentException {
        needPiece(piece);
        if (what < 0 || what >= PIECE_PROPERTIES) {
            throw new IllegalArgumentException("what is not 0 to 13");
        }
        return now.property(piece, what);
    }

    public int isHole(int piece, int place) throws IndexOutOfBoundsException, IllegalArgumentException {
        needPiece(piece);
        needPlaceIn(piece, place);
        return now.hasHole(piece, place) ? 1 : 0;
    }

    public int at(int place) throws IllegalArgumentException {
        if (place < 0) {
            throw new IllegalArgumentException("place is below 0");
        }
        return place < now.pieces ? now.row[place] : NONE;
    }

    public int cost(int first, int second) throws IndexOutOfBoundsException, IllegalArgumentException {
        needPiece(first);
        needPiece(second);
        if (first == second) {
            throw new IllegalArgumentException("both pieces are the same");
        }
        return now.costOfJoin(first, second);
    }

    public int holeOf(int rank, int what) throws IllegalArgumentException {
        if (rank < 0) {
            throw new IllegalArgumentException("rank is below 0");
        }
        if (what < 0 || what >= HOLE_PROPERTIES) {
            throw new IllegalArgumentException("what is not 0 to 4");
        }
        return holesNow().property(rank, what);
    }

    public int count(int what) throws IllegalArgumentException {
        if (what < 0 || what >= COUNTS) {
            throw new IllegalArgumentException("what is not 0 to 9");
        }
        return number(what);
    }

    public int setting(int setting) throws IndexOutOfBoundsException {
        needSetting(setting);
        return now.settings[setting];
    }

    // ---- what would be; nothing is changed

    public int bestBehind(int piece) throws IndexOutOfBoundsException {
        needPiece(piece);
        return now.cheapestBehind(piece);
    }

    public int sureness(int piece) throws IndexOutOfBoundsException {
        needPiece(piece);
        return now.leadOfCheapest(piece);
    }

    public int bestPlace(int piece) throws IndexOutOfBoundsException {
        needPiece(piece);
        return cheapestPlace(piece);
    }

    public int ifOrdered() {
        return wrongIfOrdered();
    }

    public float meanShrink() {
        return holesNow().shrinkByMean();
    }

    public double meanCost() {
        return costByMean();
    }

    public long digest() {
        long hash = HASH_START;
        for (int what = 0; what < COUNTS; what++) {
            hash = mixed(hash, number(what));
        }
        hash = mixed(hash, now.settings[SHRINK]);
        hash = mixed(hash, now.settings[SLACK]);
        hash = withPieces(hash);
        hash = withHoles(hash);
        hash = mixed(hash, wrongIfOrdered());
        hash = mixed(hash, bitsOfFloat(holesNow().shrinkByMean()));
        hash = mixed(hash, bitsOfDouble(costByMean()));
        return withSlotsAndBuffer(hash);
    }

    // ---- tests of arguments

    private void needPiece(int piece) {
        if (piece < 0 || piece >= now.pieces) {
            throw new IndexOutOfBoundsException("there is no such piece");
        }
    }

    private void needPlaceIn(int piece, int place) {
        if (place < 0 || place >= now.widths[piece]) {
            throw new IllegalArgumentException("place is not 0 to the width less 1");
        }
    }

    private static void needSetting(int setting) {
        if (setting < 0 || setting >= SETTINGS) {
            throw new IndexOutOfBoundsException("there is no such setting");
        }
    }

    private static void needSlot(int slot) {
        if (slot < 0 || slot >= SLOTS) {
            throw new IllegalArgumentException("slot is not 0 or 1");
        }
    }

    // ---- changes

    private int changeEdge(int piece, int side, int rank, int value, int most) {
        if (side < 0 || side > 1) {
            throw new IllegalArgumentException("side is not 0 or 1");
        }
        if (value < 0 || value > most) {
            throw new IllegalArgumentException("the new value is out of range");
        }
        saveState();
        int index = piece * BOTH_EDGES + side * EDGE + rank;
        int before = now.edges[index];
        now.edges[index] = value;
        return before;
    }

    /** Behind six states the oldest one's place is the one that is used again. */
    private void saveState() {
        if (savedStates < MOST_SAVED) {
            savedStates++;
        } else {
            oldestSaved = (oldestSaved + 1) % MOST_SAVED;
        }
        saved[(oldestSaved + savedStates - 1) % MOST_SAVED].copyFrom(now);
    }

    /** Returns the index of the first syntax error, or the length of the buffer. */
    private int readBuffer() {
        reader.begin();
        for (int i = 0; i < length; i++) {
            if (!reader.takes(buffer[i])) {
                return i;
            }
        }
        return length;
    }

    /** Needs a buffer that was read without an error; the end is read as if one more piece came. */
    private void addFromBuffer() {
        reader.begin();
        for (int i = 0; i <= length; i++) {
            char code = i < length ? buffer[i] : ';';
            if (code == ';') {
                reader.closePlace();
                addRead();
            }
            reader.takes(code);
        }
    }

    private void addRead() {
        if (now.pieces >= MOST_PIECES) {
            return;
        }
        int piece = now.addPiece(reader.width);
        System.arraycopy(reader.edges, 0, now.edges, piece * BOTH_EDGES, BOTH_EDGES);
        System.arraycopy(reader.holes, 0, now.holes, piece * MOST_HOLES, reader.holeCount);
        now.holeCounts[piece] = reader.holeCount;
    }

    // ---- what is told

    private int number(int what) {
        switch (what) {
            case 0:
                return now.pieces;
            case 1:
                return now.widthOfRow();
            case 2:
                return now.costOfRow(now.row);
            case 3:
                return cheapest.leastBySets(now);
            case 4:
                return cheapest.leastByTrying(now);
            case 5:
                return holesNow().holes;
            case 6:
                return holesNow().wrongDistances();
            case 7:
                return holesNow().lackingTurns();
            case 8:
                return now.moves;
            default:
                return savedStates;
        }
    }

    /** The holes are lined up anew, as the line may have been another row's. */
    private HoleLine holesNow() {
        line.lineUp(now, now.row);
        return line;
    }

    private int cheapestPlace(int piece) {
        int best = 0;
        int least = TOO_DEAR;
        for (int place = 0; place < now.pieces; place++) {
            now.rowWith(piece, place, triedRow);
            int dear = now.costOfRow(triedRow);
            if (dear < least) {
                least = dear;
                best = place;
            }
        }
        return best;
    }

    private int wrongIfOrdered() {
        cheapest.findRow(now);
        line.lineUp(now, cheapest.row);
        return line.wrongDistances();
    }

    private double costByMean() {
        if (now.pieces < 2) {
            return 0.0;
        }
        return (double) now.costOfRow(now.row) / (double) (now.pieces - 1);
    }

    // ---- the hash

    private static long mixed(long hash, long value) {
        return 31 * hash + value;
    }

    private long withPieces(long before) {
        long hash = before;
        for (int piece = 0; piece < now.pieces; piece++) {
            for (int what = 0; what < PIECE_PROPERTIES; what++) {
                hash = mixed(hash, now.property(piece, what));
            }
            hash = mixed(hash, now.cheapestBehind(piece));
            hash = mixed(hash, now.leadOfCheapest(piece));
            hash = mixed(hash, cheapestPlace(piece));
        }
        for (int place = 0; place < now.pieces; place++) {
            hash = mixed(hash, now.row[place]);
        }
        return hash;
    }

    private long withHoles(long before) {
        long hash = before;
        HoleLine along = holesNow();
        for (int rank = 0; rank < along.holes; rank++) {
            for (int what = 0; what < HOLE_PROPERTIES; what++) {
                hash = mixed(hash, along.property(rank, what));
            }
        }
        return hash;
    }

    private long withSlotsAndBuffer(long before) {
        long hash = before;
        for (int slot = 0; slot < SLOTS; slot++) {
            hash = mixed(hash, slotFull[slot] ? 1 : 0);
        }
        hash = mixed(hash, length);
        for (int i = 0; i < length; i++) {
            hash = mixed(hash, buffer[i]);
        }
        return hash;
    }

    /**
     * The library's own way to the bits is not allowed here. Halving and doubling are exact, and
     * a mean of whole numbers is neither -0.0 nor too small or too great for the plain form.
     */
    private static int bitsOfFloat(float value) {
        if (value == 0.0f) {
            return 0;
        }
        float rest = value < 0.0f ? -value : value;
        int exponent = 127;
        for (int i = 0; i < 127 && rest >= 2.0f; i++) {
            rest = rest / 2.0f;
            exponent++;
        }
        for (int i = 0; i < 126 && rest < 1.0f; i++) {
            rest = rest * 2.0f;
            exponent--;
        }
        int sign = value < 0.0f ? 1 << 31 : 0;
        return sign | exponent << 23 | (int) ((rest - 1.0f) * 8388608.0f);
    }

    /** As above; a cost, and so its mean, is never negative. */
    private static long bitsOfDouble(double value) {
        if (value <= 0.0) {
            return 0;
        }
        double rest = value;
        long exponent = 1023;
        for (int i = 0; i < 1023 && rest >= 2.0; i++) {
            rest = rest / 2.0;
            exponent++;
        }
        for (int i = 0; i < 1022 && rest < 1.0; i++) {
            rest = rest * 2.0;
            exponent--;
        }
        return exponent << 52 | (long) ((rest - 1.0) * 4503599627370496.0);
    }

    /** All that undo and snapshots bring back: the pieces, the row, the settings, the moves so far. */
    private static final class Scroll {
        int pieces = 0;
        int moves = 0;
        final int[] widths = new int[MOST_PIECES];
        final int[] edges = new int[MOST_PIECES * BOTH_EDGES];
        final int[] holeCounts = new int[MOST_PIECES];
        final int[] holes = new int[MOST_PIECES * MOST_HOLES];
        final int[] row = new int[MOST_PIECES];
        final int[] settings = {1, 0};

        void copyFrom(Scroll other) {
            pieces = other.pieces;
            moves = other.moves;
            System.arraycopy(other.widths, 0, widths, 0, MOST_PIECES);
            System.arraycopy(other.edges, 0, edges, 0, MOST_PIECES * BOTH_EDGES);
            System.arraycopy(other.holeCounts, 0, holeCounts, 0, MOST_PIECES);
            System.arraycopy(other.holes, 0, holes, 0, MOST_PIECES * MOST_HOLES);
            System.arraycopy(other.row, 0, row, 0, MOST_PIECES);
            System.arraycopy(other.settings, 0, settings, 0, SETTINGS);
        }

        /** Needs fewer than 7 pieces. A piece that was removed may have left its edges behind. */
        int addPiece(int width) {
            int piece = pieces;
            widths[piece] = width;
            for (int i = 0; i < BOTH_EDGES; i++) {
                edges[piece * BOTH_EDGES + i] = 0;
            }
            holeCounts[piece] = 0;
            row[piece] = piece;
            pieces++;
            return piece;
        }

        void takeAway(int piece) {
            int behind = pieces - piece - 1;
            closeGap(widths, piece, behind, 1);
            closeGap(edges, piece, behind, BOTH_EDGES);
            closeGap(holeCounts, piece, behind, 1);
            closeGap(holes, piece, behind, MOST_HOLES);
            int left = 0;
            for (int place = 0; place < pieces; place++) {
                int other = row[place];
                if (other != piece) {
                    row[left] = other > piece ? other - 1 : other;
                    left++;
                }
            }
            pieces = left;
        }

        private static void closeGap(int[] values, int piece, int behind, int each) {
            System.arraycopy(values, (piece + 1) * each, values, piece * each, behind * each);
        }

        /** Writes the row that there would be with the piece moved to the place. */
        void rowWith(int piece, int place, int[] target) {
            int from = 0;
            for (int to = 0; to < pieces; to++) {
                if (to == place) {
                    target[to] = piece;
                } else {
                    if (row[from] == piece) {
                        from++;
                    }
                    target[to] = row[from];
                    from++;
                }
            }
        }

        boolean hasHole(int piece, int place) {
            for (int i = 0; i < holeCounts[piece]; i++) {
                if (holes[piece * MOST_HOLES + i] == place) {
                    return true;
                }
            }
            return false;
        }

        /** Needs fewer than 4 holes; keeps them in order, as the row of holes takes them so. */
        void openHole(int piece, int place) {
            int start = piece * MOST_HOLES;
            int free = start + holeCounts[piece];
            while (free > start && holes[free - 1] > place) {
                holes[free] = holes[free - 1];
                free--;
            }
            holes[free] = place;
            holeCounts[piece]++;
        }

        void closeHole(int piece, int place) {
            int left = 0;
            for (int i = 0; i < holeCounts[piece]; i++) {
                int other = holes[piece * MOST_HOLES + i];
                if (other != place) {
                    holes[piece * MOST_HOLES + left] = other;
                    left++;
                }
            }
            holeCounts[piece] = left;
        }

        int property(int piece, int what) {
            if (what == 0) {
                return widths[piece];
            }
            if (what <= BOTH_EDGES) {
                return edges[piece * BOTH_EDGES + what - 1];
            }
            if (what == 11) {
                return holeCounts[piece];
            }
            int place = placeOf(piece);
            return what == 12 ? place : beginAt(place);
        }

        private int placeOf(int piece) {
            for (int place = 0; place < pieces; place++) {
                if (row[place] == piece) {
                    return place;
                }
            }
            return NONE;
        }

        private int beginAt(int place) {
            int begin = 0;
            for (int ahead = 0; ahead < place; ahead++) {
                begin += widths[row[ahead]];
            }
            return begin;
        }

        int widthOfRow() {
            return beginAt(pieces);
        }

        int costOfJoin(int first, int second) {
            int right = first * BOTH_EDGES + EDGE;
            int left = second * BOTH_EDGES;
            int dear = 2 * Math.abs(edges[right + HEIGHTS] - edges[left + HEIGHTS]);
            for (int rank = 0; rank < HEIGHTS; rank++) {
                dear += Math.abs(edges[right + rank] + edges[left + rank] - MOST_HEIGHT);
            }
            return dear;
        }

        int costOfRow(int[] order) {
            int dear = 0;
            for (int place = 1; place < pieces; place++) {
                dear += costOfJoin(order[place - 1], order[place]);
            }
            return dear;
        }

        int cheapestBehind(int piece) {
            int best = NONE;
            int least = TOO_DEAR;
            for (int other = 0; other < pieces; other++) {
                int dear = costOfJoin(piece, other);
                if (other != piece && dear < least) {
                    least = dear;
                    best = other;
                }
            }
            return best;
        }

        /** By how much the second best piece behind is dearer than the best one. */
        int leadOfCheapest(int piece) {
            if (pieces < 3) {
                return NONE;
            }
            int best = cheapestBehind(piece);
            int second = TOO_DEAR;
            for (int other = 0; other < pieces; other++) {
                if (other != piece && other != best) {
                    second = Math.min(second, costOfJoin(piece, other));
                }
            }
            return second - costOfJoin(piece, best);
        }
    }

    /** The cheapest row of all, told in two ways. */
    private static final class Cheapest {
        final int[] joins = new int[MOST_PIECES * MOST_PIECES];
        /** By a set and a piece in it: the least cost of a row of the set that begins with it. */
        final int[] least = new int[(1 << MOST_PIECES) * MOST_PIECES];
        final int[] row = new int[MOST_PIECES];

        int leastBySets(Scroll scroll) {
            findRow(scroll);
            return scroll.costOfRow(row);
        }

        int leastByTrying(Scroll scroll) {
            fillJoins(scroll);
            return tryBehind(joins, scroll.pieces, NONE, 0, 0, 0, TOO_DEAR);
        }

        /** As the sets tell the rows by where they begin, the first of the cheapest is at hand. */
        void findRow(Scroll scroll) {
            fillJoins(scroll);
            int all = (1 << scroll.pieces) - 1;
            for (int set = 1; set <= all; set++) {
                fillLeast(scroll.pieces, set);
            }
            int last = NONE;
            int rest = all;
            for (int place = 0; place < scroll.pieces; place++) {
                last = cheapestNext(scroll.pieces, last, rest);
                row[place] = last;
                rest = rest & ~(1 << last);
            }
        }

        private void fillJoins(Scroll scroll) {
            for (int first = 0; first < scroll.pieces; first++) {
                for (int second = 0; second < scroll.pieces; second++) {
                    joins[first * MOST_PIECES + second] = scroll.costOfJoin(first, second);
                }
            }
        }

        private void fillLeast(int pieces, int set) {
            for (int first = 0; first < pieces; first++) {
                int rest = set & ~(1 << first);
                if (rest != set) {
                    least[set * MOST_PIECES + first] =
                            rest == 0 ? 0 : costBehind(first, cheapestNext(pieces, first, rest), rest);
                }
            }
        }

        /** Of the pieces of a set, with which the rest is cheapest behind the last one. */
        private int cheapestNext(int pieces, int last, int set) {
            int best = 0;
            int bestCost = TOO_DEAR;
            for (int next = 0; next < pieces; next++) {
                if ((set >> next & 1) == 1) {
                    int dear = costBehind(last, next, set);
                    if (dear < bestCost) {
                        bestCost = dear;
                        best = next;
                    }
                }
            }
            return best;
        }

        private int costBehind(int last, int next, int set) {
            int join = last == NONE ? 0 : joins[last * MOST_PIECES + next];
            return join + least[set * MOST_PIECES + next];
        }

        /** A row that is no cheaper than one that is known need not be gone on with. */
        private static int tryBehind(
                int[] joins, int pieces, int last, int used, int depth, int dear, int known) {
            if (depth >= pieces) {
                return Math.min(dear, known);
            }
            int found = known;
            for (int next = 0; next < pieces; next++) {
                int join = last == NONE ? 0 : joins[last * MOST_PIECES + next];
                if ((used >> next & 1) == 0 && dear + join < found) {
                    int taken = used | 1 << next;
                    found = tryBehind(joins, pieces, next, taken, depth + 1, dear + join, found);
                }
            }
            return found;
        }
    }

    /** The holes of a row, from the left to the right. */
    private static final class HoleLine {
        final int[] stands = new int[MOST_PIECES * MOST_HOLES];
        final int[] owners = new int[MOST_PIECES * MOST_HOLES];
        int holes = 0;
        private int shrink = 0;
        private int slack = 0;

        void lineUp(Scroll scroll, int[] row) {
            shrink = scroll.settings[SHRINK];
            slack = scroll.settings[SLACK];
            holes = 0;
            int begin = 0;
            for (int place = 0; place < scroll.pieces; place++) {
                int piece = row[place];
                for (int i = 0; i < scroll.holeCounts[piece]; i++) {
                    stands[holes] = begin + scroll.holes[piece * MOST_HOLES + i];
                    owners[holes] = piece;
                    holes++;
                }
                begin += scroll.widths[piece];
            }
        }

        int property(int rank, int what) {
            if (rank >= holes) {
                return NONE;
            }
            switch (what) {
                case 0:
                    return stands[rank];
                case 1:
                    return owners[rank];
                case 2:
                    return distance(rank);
                case 3:
                    return isWrong(rank) ? 1 : 0;
                default:
                    return lacking(rank);
            }
        }

        private int distance(int rank) {
            if (rank < 0 || rank >= holes - 1) {
                return NONE;
            }
            return stands[rank + 1] - stands[rank];
        }

        private int shouldBe(int rank) {
            return distance(rank - 1) - shrink;
        }

        private boolean isWrong(int rank) {
            if (rank < 1 || rank >= holes - 1) {
                return false;
            }
            return Math.abs(distance(rank) - shouldBe(rank)) > slack;
        }

        /** The distances never grow, so behind one below 1 no sum is greater than the one ahead. */
        private int lacking(int rank) {
            int gap = distance(rank);
            int next = shouldBe(rank);
            if (!isWrong(rank) || gap < next) {
                return 0;
            }
            int sum = next;
            for (int turns = 1; turns <= MOST_TURNS; turns++) {
                next -= shrink;
                sum += next;
                if (next < 1) {
                    return 0;
                }
                if (sum >= gap) {
                    return turns;
                }
            }
            return 0;
        }

        int wrongDistances() {
            int wrong = 0;
            for (int rank = 0; rank < holes; rank++) {
                wrong += isWrong(rank) ? 1 : 0;
            }
            return wrong;
        }

        int lackingTurns() {
            int turns = 0;
            for (int rank = 0; rank < holes; rank++) {
                turns += lacking(rank);
            }
            return turns;
        }

        float shrinkByMean() {
            int distances = holes - 1;
            if (distances < 2) {
                return 0.0f;
            }
            return (float) (distance(0) - distance(distances - 1)) / (float) (distances - 1);
        }
    }

    /** Reads pieces as a text, character by character, and holds the piece that it is in. */
    private static final class Reader {
        private static final int IN_WIDTH = 0;
        private static final int IN_EDGES = 1;
        private static final int BEHIND_PIECE = 2;
        private static final int IN_PLACE = 3;

        int piecesBegun = 0;
        int width = 0;
        final int[] edges = new int[BOTH_EDGES];
        int holeCount = 0;
        final int[] holes = new int[MOST_HOLES];
        private int part = IN_WIDTH;
        private int edgesRead = 0;
        private boolean barRead = false;
        private int place = NONE;

        void begin() {
            piecesBegun = 0;
            beginPiece();
        }

        private void beginPiece() {
            piecesBegun++;
            part = IN_WIDTH;
            width = 0;
            edgesRead = 0;
            barRead = false;
            holeCount = 0;
            place = NONE;
        }

        /** Returns false for a syntax error; then nothing may be read on. */
        boolean takes(char code) {
            switch (part) {
                case IN_WIDTH:
                    return takesWidth(code);
                case IN_EDGES:
                    return takesEdges(code);
                case BEHIND_PIECE:
                    return takesNext(code);
                default:
                    return takesPlace(code);
            }
        }

        boolean isWhole() {
            return part == BEHIND_PIECE || part == IN_PLACE && isPlace(place);
        }

        /** Takes the place that is being read, if there is one, as a hole. */
        void closePlace() {
            if (part == IN_PLACE && holeCount < MOST_HOLES) {
                holes[holeCount] = place;
                holeCount++;
                part = BEHIND_PIECE;
            }
        }

        private boolean takesWidth(char code) {
            if (code == '[') {
                part = IN_EDGES;
                return width > 0;
            }
            int wider = width * 10 + digitOf(code);
            if (digitOf(code) == NONE || wider < 1 || wider > MOST_WIDTH) {
                return false;
            }
            width = wider;
            return true;
        }

        private boolean takesEdges(char code) {
            if (edgesRead == EDGE && !barRead) {
                barRead = true;
                return code == '|';
            }
            if (edgesRead >= BOTH_EDGES) {
                part = BEHIND_PIECE;
                return code == ']';
            }
            int digit = digitOf(code);
            int most = edgesRead % EDGE == HEIGHTS ? MOST_FIBRE : MOST_HEIGHT;
            edges[edgesRead] = digit;
            edgesRead++;
            return digit != NONE && digit <= most;
        }

        private boolean takesNext(char code) {
            if (code == ';') {
                beginPiece();
                return true;
            }
            part = IN_PLACE;
            place = NONE;
            return code == '.' && holeCount < MOST_HOLES && lastHole() < width - 1;
        }

        private boolean takesPlace(char code) {
            int digit = digitOf(code);
            if (digit != NONE) {
                boolean leadingZero = place == 0;
                place = place == NONE ? digit : place * 10 + digit;
                return !leadingZero && (isPlace(place) || beginsPlace(place));
            }
            if (!isPlace(place)) {
                return false;
            }
            closePlace();
            return takesNext(code);
        }

        private int lastHole() {
            return holeCount == 0 ? NONE : holes[holeCount - 1];
        }

        private boolean isPlace(int value) {
            return value > lastHole() && value < width;
        }

        /** One more digit is all that a place below 60 can take. */
        private boolean beginsPlace(int value) {
            return value > 0 && value * 10 < width && value * 10 + 9 > lastHole();
        }

        private static int digitOf(char code) {
            return code >= '0' && code <= '9' ? code - '0' : NONE;
        }
    }
}
