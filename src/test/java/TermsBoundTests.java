/** Each sentence of "Terms" on pieces, joins, the row, holes and settings that names a bound. */
public final class TermsBoundTests {
    private static final String NEW_PIECE = "[00000|00000]";
    private static final String[] ONE = {"add 9"};
    private static final String[] TWO = {"add 9", "add 60"};

    public static void main(String[] args) {
        pieces();
        edges();
        holesOfPieces();
        joins();
        row();
        holesAlongTheRow();
        wrongDistances();
        lackingTurns();
        settings();
        Check.end("TermsBoundTests");
    }

    // ---- pieces

    private static void pieces() {
        new Script("There are at most 7 pieces",
                "add 1 = 0", "add 1 = 1", "add 1 = 2", "add 1 = 3", "add 1 = 4", "add 1 = 5", "add 1 = 6",
                "add 1 throws IllegalState", "write 1" + NEW_PIECE, "load throws IllegalState", "count 0 = 7",
                "remove 3 = 6", "load = 7", "add 1 throws IllegalState", "count 0 = 7");
        new Script("numbered from 0 in the order in which they came",
                "add 11 = 0", "add 12 = 1", "move 1 0", "write 13" + NEW_PIECE + ";14" + NEW_PIECE, "load = 4",
                "move 3 0", "pieceOf 0 0 = 11", "pieceOf 1 0 = 12", "pieceOf 2 0 = 13", "pieceOf 3 0 = 14",
                "pieceOf -1 0 throws IndexOutOfBounds", "pieceOf 4 0 throws IndexOutOfBounds");
        widths();
    }

    private static void widths() {
        String sentence = "A piece has a width, 1 to 60";
        Script.range(sentence, new String[0], "add #", 1, 60, "IllegalArgument");
        for (int width = 1; width <= 60; width++) {
            new Script(sentence, "add " + width, "pieceOf 0 0 = " + width, "count 1 = " + width);
            new Script(sentence, "write " + width + NEW_PIECE, "load = 1", "pieceOf 0 0 = " + width);
        }
    }

    private static void edges() {
        String heights = "four heights, 0 to 5, from the top down";
        String fibres = "a fibre at the left edge and one at the right edge, 0 to 9";
        for (int side = 0; side < 2; side++) {
            for (int rank = 0; rank < 4; rank++) {
                Script.range(heights, ONE, "tear 0 " + side + " " + rank + " #", 0, 5, "IllegalArgument");
                new Script(heights, TWO).says("tear 1 " + side + " " + rank + " 5 = 0",
                        "pieceOf 1 " + (1 + 5 * side + rank) + " = 5", "cost 0 1 = " + (side == 0 ? 15 : 20));
            }
            Script.range(heights, ONE, "tear 0 " + side + " # 5", 0, 3, "IllegalArgument");
            Script.range(fibres, ONE, "fibre 0 " + side + " #", 0, 9, "IllegalArgument");
            new Script(fibres, TWO).says("fibre 1 " + side + " 9 = 0", "pieceOf 1 " + (5 + 5 * side) + " = 9");
        }
    }

    private static void holesOfPieces() {
        new Script("and holes, at most 4", TWO).says(
                "hole 1 0 = 1", "hole 1 59 = 2", "hole 1 30 = 3", "hole 1 31 = 4", "hole 1 32 throws IllegalState",
                "piece 1 = 60" + NEW_PIECE + ".0.30.31.59", "hole 0 8 = 1", "count 5 = 5");
        new Script("each at its own place", TWO).says(
                "hole 1 7 = 1", "hole 0 7 = 1", "hole 1 7 = 0", "isHole 1 7 = 0", "isHole 0 7 = 1", "count 5 = 1");
        String sentence = "0 to its width less 1";
        for (int width : new int[] {1, 2, 9, 59, 60}) {
            String[] made = {"add 60", "add " + width};
            Script.range(sentence, made, "hole 1 #", 0, width - 1, "IllegalArgument");
            Script.range(sentence, made, "isHole 1 #", 0, width - 1, "IllegalArgument");
        }
    }

    // ---- joins

    private static void joins() {
        for (int right = 0; right <= 5; right++) {
            Script script = new Script("how much both heights, together, differ from 5", TWO);
            for (int left = 0; left <= 5; left++) {
                int rank = (left + right) % 4;
                script.says("tear 0 1 " + rank + " " + right, "tear 1 0 " + rank + " " + left,
                        "cost 0 1 = " + (15 + Math.abs(right + left - 5)),
                        "tear 0 1 " + rank + " 0", "tear 1 0 " + rank + " 0");
            }
        }
        new Script("twice how much the fibres differ", TWO).says(
                "fibre 0 1 9", "cost 0 1 = 38", "fibre 1 0 8", "cost 0 1 = 22", "fibre 1 0 9", "cost 0 1 = 20",
                "fibre 0 1 8", "cost 0 1 = 22", "fibre 0 1 0", "cost 0 1 = 38", "cost 1 0 = 20");
        new Script("all together", "write 1[00000|55559];1[00009|00000]", "load", "cost 0 1 = 0", "cost 1 0 = 20");
        new Script("all together", "write 1[00000|55559];1[55550|00000]", "load", "cost 0 1 = 38", "cost 1 0 = 20");
        new Script("the right edge of the first one and the left edge of the second one",
                "write 1[55559|00000];1[00000|55559]", "load", "cost 0 1 = 20", "cost 1 0 = 20");
    }

    // ---- the row

    private static void row() {
        new Script("The row has all pieces, each once", "row = ", "add 3", "row = 0", "add 3", "add 3", "add 3",
                "add 3", "add 3", "add 3", "row = 0123456", "move 0 6", "row = 1234560", "move 0 0", "row = 0123456",
                "move 6 3", "row = 0126345", "remove 0", "row = 015234", "remove 5", "row = 01234", "remove 2",
                "row = 0123", "remove 0", "remove 0", "remove 0", "row = 0", "remove 0", "row = ");
        new Script("a piece that comes stands at its end", TWO).says("move 1 0", "add 5", "row = 102", "move 2 0",
                "write 7" + NEW_PIECE + ";8" + NEW_PIECE, "load", "row = 21034", "remove 2", "add 9", "row = 10234");
        new Script("what all joins cost, together", "count 2 = 0", "order = 0", "add 3", "count 2 = 0",
                "order = 0", "move 0 0 = 0", "add 3", "count 2 = 20", "add 3", "fibre 2 0 9", "count 2 = 58");
        new Script("what all joins cost: the dearest row",
                "write 1[55559|55550];1[55559|55550];1[55559|55550];1[55559|55550]", "load",
                "write 1[55559|55550];1[55559|55550];1[55559|55550]", "load",
                "count 2 = 228", "count 3 = 228", "count 4 = 228");
        String sentence = "A piece begins where the one ahead of it ends, the first one at 0";
        new Script(sentence, TWO).says("add 1", "pieceOf 0 13 = 0", "pieceOf 1 13 = 9", "pieceOf 2 13 = 69",
                "move 2 0", "pieceOf 2 13 = 0", "pieceOf 0 13 = 1", "pieceOf 1 13 = 10");
        new Script(sentence, "add 60", "add 60", "add 60", "add 60", "add 60", "add 60", "add 60",
                "pieceOf 6 13 = 360", "count 1 = 420", "move 6 0", "pieceOf 6 13 = 0", "pieceOf 5 13 = 360");
    }

    // ---- holes

    /** Seven pieces of width 60, holes at these places of the row, and a look at each hole's number. */
    private static Script holes(String sentence, int shrink, int slack, int... stands) {
        Script script = new Script(sentence, "add 60", "add 60", "add 60", "add 60", "add 60", "add 60", "add 60",
                "set 0 " + shrink, "set 1 " + slack);
        for (int stand : stands) {
            script.says("hole " + stand / 60 + " " + stand % 60);
        }
        return script;
    }

    private static void holesAlongTheRow() {
        holes("holes stand at the beginnings of their pieces and their places", 1, 0, 0, 59, 60, 419).says(
                "holeOf 0 0 = 0", "holeOf 1 0 = 59", "holeOf 2 0 = 60", "holeOf 3 0 = 419",
                "holeOf 1 1 = 0", "holeOf 2 1 = 1", "holeOf 3 1 = 6", "move 0 6", "holeOf 0 0 = 0",
                "holeOf 1 0 = 359", "holeOf 2 0 = 360", "holeOf 3 0 = 419", "holeOf 2 1 = 0");
        String sentence = "From each hole to the next one there is a distance";
        holes(sentence, 1, 0, 0, 419).says("holeOf 0 2 = 419", "holeOf 1 2 = -1");
        holes(sentence, 1, 0, 59, 60).says("holeOf 0 2 = 1", "holeOf 1 2 = -1");
        holes(sentence, 1, 0, 7).says("holeOf 0 2 = -1", "holeOf 0 3 = 0", "holeOf 0 4 = 0", "count 6 = 0");
        holes(sentence, 1, 0).says("count 5 = 0", "count 6 = 0", "count 7 = 0", "holeOf 0 2 = -1");
    }

    /** The distances are 30 and, behind it, as much as it should be and so much more. */
    private static void offBy(int shrink, int slack, int more, int wrong) {
        holes("it may be off by as much as setting 1 tells; by more is wrong", shrink, slack,
                0, 30, 60 - shrink + more).says("holeOf 1 3 = " + wrong, "count 6 = " + wrong);
    }

    private static void wrongDistances() {
        for (int shrink = 0; shrink <= 9; shrink++) {
            for (int slack = 0; slack <= 9; slack++) {
                offBy(shrink, slack, slack, 0);
                offBy(shrink, slack, slack + 1, 1);
                offBy(shrink, slack, -slack, 0);
                offBy(shrink, slack, -slack - 1, 1);
            }
        }
        holes("A distance, behind the first one", 9, 0, 0, 419).says("holeOf 0 3 = 0", "holeOf 0 4 = 0", "count 6 = 0");
        holes("A distance, behind the first one", 9, 0, 0, 1, 419).says("holeOf 0 3 = 0", "holeOf 1 3 = 1", "count 6 = 1");
        holes("the one ahead of it counts as it is, also if it is wrong itself", 2, 0, 0, 20, 54, 86, 116).says(
                "holeOf 1 3 = 1", "holeOf 2 3 = 0", "holeOf 3 3 = 0", "count 6 = 1");
    }

    /** The distances are 20 and, behind it, the one that is looked at. */
    private static void lacking(String sentence, int shrink, int distance, int turns) {
        holes(sentence, shrink, 0, 5, 25, 25 + distance).says("holeOf 1 2 = " + distance,
                "holeOf 1 4 = " + turns, "count 7 = " + turns);
    }

    private static void lackingTurns() {
        String greater = "If it is wrong, and greater than it should be";
        lacking(greater, 2, 18, 0);
        lacking(greater, 2, 17, 0);
        lacking(greater, 2, 19, 1);
        holes(greater + ": not wrong", 2, 9, 5, 25, 25 + 27).says("holeOf 1 3 = 0", "holeOf 1 4 = 0");
        holes(greater + ": wrong by 1 more", 2, 9, 5, 25, 25 + 28).says("holeOf 1 3 = 1", "holeOf 1 4 = 1");
        String fewest = "the fewest, 1 to 5, together are at least as great as it is";
        int[] sums = {34, 48, 60, 70, 78};
        for (int turns = 1; turns <= 5; turns++) {
            lacking(fewest, 2, sums[turns - 1], turns);
            lacking(fewest, 2, sums[turns - 1] + 1, turns < 5 ? turns + 1 : 0);
        }
        String none = "none are told, if that is so for no number from 1 to 5";
        lacking(none, 0, 120, 5);
        lacking(none, 0, 121, 0);
        lacking(none, 2, 390, 0);
        lacking(none, 1, 19 + 18 + 17 + 16 + 15 + 14, 5);
        lacking(none, 1, 19 + 18 + 17 + 16 + 15 + 14 + 1, 0);
        String below = "or if one of these distances would be below 1";
        lacking(below, 9, 11 + 2, 1);
        lacking(below, 9, 11 + 2 + 1, 0);
        lacking(below, 6, 14 + 8 + 2, 2);
        lacking(below, 6, 14 + 8 + 2 + 1, 0);
        lacking(below, 5, 15 + 10 + 5, 2);
        lacking(below, 5, 15 + 10 + 5 + 1, 0);
        holes(below, 5, 0, 0, 11, 11 + 7).says("holeOf 1 4 = 1");
        holes(below, 5, 0, 0, 11, 11 + 8).says("holeOf 1 3 = 1", "holeOf 1 4 = 0");
        holes(below, 9, 0, 0, 9, 9 + 1).says("holeOf 1 3 = 1", "holeOf 1 4 = 0");
        holes(below, 9, 0, 0, 1, 2).says("holeOf 1 3 = 1", "holeOf 1 4 = 0");
    }

    // ---- settings

    private static void settings() {
        String[] none = {};
        new Script("0: by how much turns shrink, at first 1", "setting 0 = 1");
        new Script("1: by how much a distance may be off, at first 0", "setting 1 = 0");
        Script.range("0: by how much turns shrink, 0 to 9", none, "set 0 #", 0, 9, "IllegalArgument");
        Script.range("1: by how much a distance may be off, 0 to 9", none, "set 1 #", 0, 9, "IllegalArgument");
        Script.range("there are the settings 0 and 1", none, "set # 5", 0, 1, "IndexOutOfBounds");
    }
}
