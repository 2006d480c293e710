/** Promises 10 to 13: the buffer, its first error, and pieces that are loaded from it. */
public final class TextTests {
    private static final String PIECE = "9[01234|54329]";

    public static void main(String[] args) {
        promise10Append();
        promise11ClearBuffer();
        promise12Width();
        promise12Edges();
        promise12Places();
        promise12AllPlaces();
        promise12MorePieces();
        promise13Load();
        promise13Refusals();
        promise13AtTheEndOfTheRow();
        Check.end("TextTests");
    }

    private static void promise10Append() {
        ScrollPieces x = new ScrollPieces();
        Check.same("10: first", x.append(33), 1);
        Check.same("10: second", x.append(126), 2);
        for (int bad : new int[] {32, 127, 0, -1, Check.LOW, Check.FAR, 65536 + 49}) {
            Check.refused("10: code " + bad, x, Check.ARGUMENT, () -> x.append(bad));
        }
        for (int length = 3; length <= 60; length++) {
            Check.same("10: length", x.append(40 + length), length);
        }
        Check.refused("10: a 61st", x, Check.STATE, () -> x.append(49));
        Check.refused("10: a 61st that is no character", x, Check.ARGUMENT, () -> x.append(32));
        Check.same("10: it is not undoable", x.count(9), 0);
    }

    private static void promise11ClearBuffer() {
        ScrollPieces x = Check.withText("abc");
        Check.same("11: length", x.clearBuffer(), 3);
        Check.same("11: nothing left", x.clearBuffer(), 0);
        Check.same("11: a new one", x.append(65), 1);
        Check.same("11: it is not undoable", x.count(9), 0);
    }

    /** The text's first error is at the index, and only a text without one may be loaded. */
    private static void error(String text, int index) {
        ScrollPieces x = Check.withText(text);
        Check.same("12: firstError of " + text, x.firstError(), index);
        if (index < text.length()) {
            Check.refused("13: load of " + text, x, Check.ARGUMENT, () -> x.load());
        }
        Check.onlyLooks("12: firstError of " + text, x, () -> x.firstError());
    }

    /** The text is fine as far as it goes, but does not tell pieces. */
    private static void begun(String text) {
        error(text, text.length());
        ScrollPieces x = Check.withText(text);
        Check.refused("13: load of " + text, x, Check.ARGUMENT, () -> x.load());
    }

    private static void whole(String text, int pieces) {
        error(text, text.length());
        ScrollPieces x = Check.withText(text);
        Check.same("13: load of " + text, x.load(), pieces);
        StringBuilder told = new StringBuilder();
        for (int piece = 0; piece < pieces; piece++) {
            told.append(piece > 0 ? ";" : "").append(Check.piece(x, piece));
        }
        Check.same("13: pieces of " + text, told.toString(), text);
    }

    private static void promise12Width() {
        begun("");
        begun("1");
        begun("9");
        begun("60");
        begun("59[");
        error("0", 0);
        error("01", 0);
        error("61", 1);
        error("70", 1);
        error("99", 1);
        error("100", 2);
        error("10[", 3);
        error("[", 0);
        error(";", 0);
        error(".", 0);
        error("x", 0);
        error("1x", 1);
        error("1.", 1);
        error("1;", 1);
        error("1|", 1);
        error("1]", 1);
    }

    private static void promise12Edges() {
        String edges = "1[55559|55559]";
        for (int length = 1; length < edges.length(); length++) {
            begun(edges.substring(0, length));
        }
        whole(edges, 1);
        whole("60[00000|00000]", 1);
        whole("7[01234|54321]", 1);
        for (int i = 2; i < edges.length(); i++) {
            error(edges.substring(0, i) + "x", i);
            error(edges.substring(0, i) + "[", i);
            error(edges.substring(0, i) + ".", i);
            error(edges.substring(0, i) + ";", i);
            if (edges.charAt(i) == '5') {
                error(edges.substring(0, i) + "6", i);
                error(edges.substring(0, i) + "|", i);
                error(edges.substring(0, i) + "]", i);
                error(edges.substring(0, i) + "/", i);
                error(edges.substring(0, i) + ":", i);
            }
        }
        error("1[55559]", 7);
        error("1[555590", 7);
        error("1[55559|55559|", 13);
        error("1[55559|555590", 13);
        error("1[55559|55559]0", 14);
        error("1[55559|55559]]", 14);
        error("1[55559|55559]x", 14);
    }

    private static void promise12Places() {
        begun(PIECE + ".");
        whole(PIECE + ".0", 1);
        whole(PIECE + ".8", 1);
        error(PIECE + ".9", 15);
        error(PIECE + ".10", 16);
        error(PIECE + ".00", 16);
        error(PIECE + ".01", 16);
        error(PIECE + "..", 15);
        error(PIECE + ".;", 15);
        error(PIECE + ".x", 15);
        error(PIECE + ".0x", 16);
        error(PIECE + ".8.", 16);
        whole(PIECE + ".0.1.2.3", 1);
        whole(PIECE + ".0.1.2.8", 1);
        error(PIECE + ".0.1.2.3.", 22);
        error(PIECE + ".0.0", 17);
        error(PIECE + ".3.3", 17);
        error(PIECE + ".3.2", 17);
        whole(PIECE + ".3.4", 1);
        error("1[00000|00000].0.", 16);
        error("1[00000|00000].1", 15);
        String wide = "60[00000|00000]";
        whole(wide + ".59", 1);
        error(wide + ".60", 17);
        error(wide + ".6.6", 18);
        begun(wide + ".6.1");
        begun(wide + ".58.5");
        error(wide + ".58.4", 19);
    }

    /** Each place that begins with a digit or two behind each hole of each width. */
    private static void promise12AllPlaces() {
        for (int width = 1; width <= 60; width++) {
            for (int last = -1; last < width - 1; last++) {
                String ahead = width + "[00000|00000]" + (last < 0 ? "" : "." + last) + ".";
                for (int first = 0; first <= 9; first++) {
                    placesThatBeginWith(ahead, width, last, first);
                }
            }
        }
    }

    private static boolean fits(int place, int width, int last) {
        return last < place && place < width;
    }

    private static void placesThatBeginWith(String ahead, int width, int last, int first) {
        boolean begins = fits(first, width, last);
        ScrollPieces x = Check.withText(ahead + first);
        for (int second = 0; second <= 9; second++) {
            boolean two = first > 0 && fits(10 * first + second, width, last);
            begins = begins || two;
            ScrollPieces y = Check.withText(ahead + first + second);
            int error = y.firstError();
            boolean fine = error == ahead.length() + 2;
            Check.same("12: two digits: " + ahead + first + second, fine ? 1 : 0, two ? 1 : 0);
        }
        Check.same("12: a digit: " + ahead + first, x.firstError(), ahead.length() + (begins ? 1 : 0));
        x.append(';');
        int due = !begins ? 0 : fits(first, width, last) ? 2 : 1;
        Check.same("12: a digit and an end: " + ahead + first, x.firstError(), ahead.length() + due);
    }

    private static void promise12MorePieces() {
        whole("9[01234|54329];1[00000|00000].0;60[11111|22222].0.20.40.59", 3);
        whole("1[00000|00000];2[11111|11111];3[22222|22222];4[33333|33333]", 4);
        begun("1[00000|00000];");
        begun("1[00000|00000].0;");
        begun("1[00000|00000];2");
        error("1[00000|00000];;", 15);
        error("1[00000|00000];0", 15);
        error("1[00000|00000];[", 15);
        error("1[00000|00000];.", 15);
        // Nothing of the piece ahead is left: neither its width, nor its edges, nor its holes.
        begun("60[00000|00000].0.1.2.59;60[0");
        whole("60[00000|00000].0.1.2.59;9[00000|00000].0.1.2.3", 2);
        error("60[00000|00000].0.1.2.59;9[00000|00000].0.1.2.3.", 47);
        error("60[00000|00000].5;9[00000|00000].9", 33);
    }

    private static void promise13Load() {
        ScrollPieces x = Check.withWidths(5, 6);
        x.tear(0, 0, 0, 3);
        Check.write(x, "9[01234|54329].0.8;60[11111|22222]");
        Check.same("13: pieces then", x.load(), 4);
        Check.same("13: first", Check.piece(x, 2), "9[01234|54329].0.8");
        Check.same("13: second", Check.piece(x, 3), "60[11111|22222]");
        Check.same("13: those before", Check.piece(x, 0), "5[30000|00000]");
        Check.same("13: saved as one call", x.count(9), 4);
        Check.same("13: the buffer is cleared", x.clearBuffer(), 0);
        Check.same("13: undo", x.undo(), 3);
        Check.same("13: pieces behind undo", x.count(0), 2);
        Check.same("13: the buffer stays clear", x.clearBuffer(), 0);
        Check.same("13: a move it is not", x.count(8), 0);
    }

    private static void promise13Refusals() {
        ScrollPieces x = Check.withWidths(1, 2, 3, 4, 5, 6);
        Check.refused("13: empty", x, Check.ARGUMENT, () -> x.load());
        Check.write(x, "1[00000|00000];2[00000|00000]");
        Check.refused("13: eight", x, Check.STATE, () -> x.load());
        Check.same("13: the buffer stays", x.append(';'), 30);
        Check.refused("13: both", x, Check.ARGUMENT, () -> x.load());
        x.clearBuffer();
        Check.write(x, "1[00000|00000].0");
        Check.same("13: seven", x.load(), 7);
        Check.write(x, "1[00000|00000].0");
        Check.refused("13: seven and one", x, Check.STATE, () -> x.load());
    }

    private static void promise13AtTheEndOfTheRow() {
        ScrollPieces x = Check.withWidths(1, 2, 3);
        x.move(2, 0);
        Check.write(x, "4[00000|00000];5[00000|00000]");
        x.load();
        Check.same("13: row", Check.row(x), "20134");
        x.remove(0);
        Check.edge(x, 3, 0, "55555");
        x.hole(3, 4);
        x.remove(3);
        Check.write(x, "6[00000|00000]");
        x.load();
        Check.same("13: row behind remove", Check.row(x), "1023");
        Check.same("13: nothing of a removed piece is left", Check.piece(x, 3), "6[00000|00000]");
    }
}
