import java.util.ArrayList;
import java.util.List;
import java.util.TreeSet;
import java.util.regex.Matcher;
import java.util.regex.Pattern;

/**
 * The document, told a second time and as plainly as can be: states are copied whole, the cheapest
 * row is looked for among all rows, and a syntax error by trying how the text could go on.
 */
final class Model {
    static final int NONE = -1;

    static final class Piece {
        int width;
        int[] edges = new int[10];
        TreeSet<Integer> holes = new TreeSet<>();

        Piece(int width) {
            this.width = width;
        }

        Piece copy() {
            Piece other = new Piece(width);
            other.edges = edges.clone();
            other.holes = new TreeSet<>(holes);
            return other;
        }
    }

    static final class State {
        List<Piece> pieces = new ArrayList<>();
        List<Piece> row = new ArrayList<>();
        int[] settings = {1, 0};
        int moves = 0;

        State copy() {
            State other = new State();
            for (Piece piece : pieces) {
                other.pieces.add(piece.copy());
            }
            for (Piece piece : row) {
                other.row.add(other.pieces.get(pieces.indexOf(piece)));
            }
            other.settings = settings.clone();
            other.moves = moves;
            return other;
        }
    }

    State now = new State();
    final List<State> saved = new ArrayList<>();
    final State[] slots = new State[2];
    String buffer = "";

    private void save() {
        saved.add(now.copy());
        if (saved.size() > 6) {
            saved.remove(0);
        }
    }

    private void needPiece(int piece) {
        if (piece < 0 || piece >= now.pieces.size()) {
            throw new IndexOutOfBoundsException();
        }
    }

    private static void need(boolean fine) {
        if (!fine) {
            throw new IllegalArgumentException();
        }
    }

    private static void needState(boolean fine) {
        if (!fine) {
            throw new IllegalStateException();
        }
    }

    int add(int width) {
        need(1 <= width && width <= 60);
        needState(now.pieces.size() < 7);
        save();
        Piece piece = new Piece(width);
        now.pieces.add(piece);
        now.row.add(piece);
        return now.pieces.size() - 1;
    }

    int tear(int piece, int side, int rank, int height) {
        needPiece(piece);
        need((side == 0 || side == 1) && 0 <= rank && rank <= 3 && 0 <= height && height <= 5);
        save();
        int[] edges = now.pieces.get(piece).edges;
        int before = edges[side * 5 + rank];
        edges[side * 5 + rank] = height;
        return before;
    }

    int fibre(int piece, int side, int fibre) {
        needPiece(piece);
        need((side == 0 || side == 1) && 0 <= fibre && fibre <= 9);
        save();
        int[] edges = now.pieces.get(piece).edges;
        int before = edges[side * 5 + 4];
        edges[side * 5 + 4] = fibre;
        return before;
    }

    int hole(int piece, int place) {
        needPiece(piece);
        Piece p = now.pieces.get(piece);
        need(0 <= place && place < p.width);
        needState(p.holes.contains(place) || p.holes.size() < 4);
        save();
        if (!p.holes.remove(place)) {
            p.holes.add(place);
        }
        return p.holes.size();
    }

    int remove(int piece) {
        needPiece(piece);
        save();
        Piece gone = now.pieces.remove(piece);
        now.row.remove(gone);
        return now.pieces.size();
    }

    int move(int piece, int place) {
        needPiece(piece);
        need(0 <= place && place < now.pieces.size());
        save();
        now.moves++;
        Piece moved = now.pieces.get(piece);
        now.row.remove(moved);
        now.row.add(place, moved);
        return rowCost(now.row);
    }

    int order() {
        save();
        now.moves++;
        now.row = cheapestRow();
        return rowCost(now.row);
    }

    int set(int setting, int value) {
        setting(setting);
        need(0 <= value && value <= 9);
        save();
        int before = now.settings[setting];
        now.settings[setting] = value;
        return before;
    }

    int append(int code) {
        need(33 <= code && code <= 126);
        needState(buffer.length() < 60);
        buffer += (char) code;
        return buffer.length();
    }

    int clearBuffer() {
        int before = buffer.length();
        buffer = "";
        return before;
    }

    private static final Pattern PIECE = Pattern.compile(
            "([1-9][0-9]?)\\[([0-5]{4}[0-9])\\|([0-5]{4}[0-9])\\]((?:\\.(?:0|[1-9][0-9]?))*)");

    /** The pieces of a whole text; null if it is none. */
    static List<Piece> parse(String text) {
        List<Piece> pieces = new ArrayList<>();
        for (String part : text.split(";", -1)) {
            Matcher m = PIECE.matcher(part);
            if (!m.matches() || Integer.parseInt(m.group(1)) > 60) {
                return null;
            }
            Piece piece = new Piece(Integer.parseInt(m.group(1)));
            String digits = m.group(2) + m.group(3);
            for (int i = 0; i < 10; i++) {
                piece.edges[i] = digits.charAt(i) - '0';
            }
            if (!m.group(4).isEmpty()) {
                for (String hole : m.group(4).substring(1).split("\\.")) {
                    int place = Integer.parseInt(hole);
                    if (place >= piece.width || !piece.holes.isEmpty() && place <= piece.holes.last()) {
                        return null;
                    }
                    piece.holes.add(place);
                }
            }
            if (piece.holes.size() > 4) {
                return null;
            }
            pieces.add(piece);
        }
        return pieces;
    }

    /** Whether some whole text begins so: a text can be ended by the rest of a piece, or by a place. */
    static boolean begins(String text) {
        String rest = "1[00000|00000]";
        for (int i = 0; i <= rest.length(); i++) {
            if (parse(text + rest.substring(i)) != null) {
                return true;
            }
        }
        for (int place = 0; place < 60; place++) {
            if (parse(text + place) != null) {
                return true;
            }
        }
        return false;
    }

    int firstError() {
        for (int i = 0; i < buffer.length(); i++) {
            if (!begins(buffer.substring(0, i + 1))) {
                return i;
            }
        }
        return buffer.length();
    }

    int load() {
        List<Piece> read = parse(buffer);
        need(read != null);
        needState(now.pieces.size() + read.size() <= 7);
        save();
        now.pieces.addAll(read);
        now.row.addAll(read);
        buffer = "";
        return now.pieces.size();
    }

    int keep(int slot) {
        need(slot == 0 || slot == 1);
        slots[slot] = now.copy();
        return now.pieces.size();
    }

    int goBack(int slot) {
        need(slot == 0 || slot == 1);
        needState(slots[slot] != null);
        save();
        now = slots[slot].copy();
        return now.pieces.size();
    }

    int undo() {
        needState(!saved.isEmpty());
        now = saved.remove(saved.size() - 1);
        return saved.size();
    }

    int pieceOf(int piece, int what) {
        needPiece(piece);
        need(0 <= what && what <= 13);
        Piece p = now.pieces.get(piece);
        int place = now.row.indexOf(p);
        int begin = 0;
        for (Piece ahead : now.row.subList(0, place)) {
            begin += ahead.width;
        }
        return what == 0 ? p.width : what <= 10 ? p.edges[what - 1] : what == 11 ? p.holes.size()
                : what == 12 ? place : begin;
    }

    int isHole(int piece, int place) {
        needPiece(piece);
        need(0 <= place && place < now.pieces.get(piece).width);
        return now.pieces.get(piece).holes.contains(place) ? 1 : 0;
    }

    int at(int place) {
        need(place >= 0);
        return place < now.row.size() ? now.pieces.indexOf(now.row.get(place)) : NONE;
    }

    static int joinCost(Piece a, Piece b) {
        int cost = 2 * Math.abs(a.edges[9] - b.edges[4]);
        for (int i = 0; i < 4; i++) {
            cost += Math.abs(5 - a.edges[5 + i] - b.edges[i]);
        }
        return cost;
    }

    static int rowCost(List<Piece> row) {
        int cost = 0;
        for (int i = 1; i < row.size(); i++) {
            cost += joinCost(row.get(i - 1), row.get(i));
        }
        return cost;
    }

    int cost(int first, int second) {
        needPiece(first);
        needPiece(second);
        need(first != second);
        return joinCost(now.pieces.get(first), now.pieces.get(second));
    }

    private List<Piece> best;
    private int bestCost;

    /** All rows come in the order in which the document compares them. */
    private List<Piece> cheapestRow() {
        bestCost = Integer.MAX_VALUE;
        tryRows(new ArrayList<>());
        return best;
    }

    private void tryRows(List<Piece> begun) {
        if (begun.size() == now.pieces.size() && rowCost(begun) < bestCost) {
            best = new ArrayList<>(begun);
            bestCost = rowCost(begun);
        }
        for (Piece piece : now.pieces) {
            if (!begun.contains(piece)) {
                begun.add(piece);
                tryRows(begun);
                begun.remove(begun.size() - 1);
            }
        }
    }

    /** For each hole: where it stands, its piece, distance, wrong, lacking. */
    private List<int[]> holes(List<Piece> row) {
        List<int[]> holes = new ArrayList<>();
        int begin = 0;
        for (Piece piece : row) {
            for (int place : piece.holes) {
                holes.add(new int[] {begin + place, now.pieces.indexOf(piece), NONE, 0, 0});
            }
            begin += piece.width;
        }
        for (int i = 0; i + 1 < holes.size(); i++) {
            holes.get(i)[2] = holes.get(i + 1)[0] - holes.get(i)[0];
        }
        for (int i = 1; i + 1 < holes.size(); i++) {
            int is = holes.get(i)[2];
            int due = holes.get(i - 1)[2] - now.settings[0];
            if (is > due + now.settings[1] || is < due - now.settings[1]) {
                holes.get(i)[3] = 1;
                holes.get(i)[4] = is > due ? lacking(is, due) : 0;
            }
        }
        return holes;
    }

    private int lacking(int is, int due) {
        for (int turns = 1; turns <= 5; turns++) {
            int together = 0;
            int shortest = due;
            for (int i = 0; i <= turns; i++) {
                shortest = due - i * now.settings[0];
                together += shortest;
            }
            if (together >= is) {
                return shortest < 1 ? 0 : turns;
            }
        }
        return 0;
    }

    int holeOf(int rank, int what) {
        need(rank >= 0 && 0 <= what && what <= 4);
        List<int[]> holes = holes(now.row);
        return rank < holes.size() ? holes.get(rank)[what] : NONE;
    }

    private int sum(List<int[]> holes, int what) {
        int sum = 0;
        for (int[] hole : holes) {
            sum += hole[what];
        }
        return sum;
    }

    int count(int what) {
        need(0 <= what && what <= 9);
        int width = 0;
        for (Piece piece : now.pieces) {
            width += piece.width;
        }
        List<int[]> holes = holes(now.row);
        switch (what) {
            case 0: return now.pieces.size();
            case 1: return width;
            case 2: return rowCost(now.row);
            case 3:
            case 4: return rowCost(cheapestRow());
            case 5: return holes.size();
            case 6: return sum(holes, 3);
            case 7: return sum(holes, 4);
            case 8: return now.moves;
            default: return saved.size();
        }
    }

    int setting(int setting) {
        if (setting != 0 && setting != 1) {
            throw new IndexOutOfBoundsException();
        }
        return now.settings[setting];
    }

    /** Costs behind a piece, each with its piece: cost * 10 + number, the least first. */
    private TreeSet<Integer> behind(int piece) {
        TreeSet<Integer> costs = new TreeSet<>();
        for (int other = 0; other < now.pieces.size(); other++) {
            if (other != piece) {
                costs.add(10 * cost(piece, other) + other);
            }
        }
        return costs;
    }

    int bestBehind(int piece) {
        needPiece(piece);
        return now.pieces.size() < 2 ? NONE : behind(piece).first() % 10;
    }

    int sureness(int piece) {
        needPiece(piece);
        if (now.pieces.size() < 3) {
            return NONE;
        }
        TreeSet<Integer> costs = behind(piece);
        int least = costs.pollFirst() / 10;
        return costs.first() / 10 - least;
    }

    int bestPlace(int piece) {
        needPiece(piece);
        int bestPlace = NONE;
        int least = Integer.MAX_VALUE;
        for (int place = 0; place < now.pieces.size(); place++) {
            List<Piece> row = new ArrayList<>(now.row);
            row.remove(now.pieces.get(piece));
            row.add(place, now.pieces.get(piece));
            if (rowCost(row) < least) {
                least = rowCost(row);
                bestPlace = place;
            }
        }
        return bestPlace;
    }

    int ifOrdered() {
        return sum(holes(cheapestRow()), 3);
    }

    float meanShrink() {
        List<int[]> holes = holes(now.row);
        int distances = holes.size() - 1;
        return distances < 2 ? 0.0f
                : (float) (holes.get(0)[2] - holes.get(distances - 1)[2]) / (distances - 1);
    }

    double meanCost() {
        return now.pieces.size() < 2 ? 0.0 : (double) rowCost(now.row) / (now.pieces.size() - 1);
    }

    long digest() {
        List<Integer> values = new ArrayList<>();
        long hash = 3541;
        for (int i = 0; i < 10; i++) {
            values.add(count(i));
        }
        values.add(setting(0));
        values.add(setting(1));
        for (int p = 0; p < now.pieces.size(); p++) {
            for (int i = 0; i <= 13; i++) {
                values.add(pieceOf(p, i));
            }
            values.add(bestBehind(p));
            values.add(sureness(p));
            values.add(bestPlace(p));
        }
        for (int i = 0; i < now.row.size(); i++) {
            values.add(at(i));
        }
        for (int[] hole : holes(now.row)) {
            for (int value : hole) {
                values.add(value);
            }
        }
        values.add(ifOrdered());
        values.add(Float.floatToIntBits(meanShrink()));
        for (int value : values) {
            hash = 31 * hash + value;
        }
        hash = 31 * hash + Double.doubleToLongBits(meanCost());
        hash = 31 * hash + (slots[0] != null ? 1 : 0);
        hash = 31 * hash + (slots[1] != null ? 1 : 0);
        hash = 31 * hash + buffer.length();
        for (char c : buffer.toCharArray()) {
            hash = 31 * hash + c;
        }
        return hash;
    }
}
