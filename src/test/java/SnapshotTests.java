/** Promises 14 to 16: snapshots and undo. */
public final class SnapshotTests {
    public static void main(String[] args) {
        promise14Keep();
        promise15GoBack();
        promise15Arguments();
        promise16Undo();
        promise16SixStates();
        promise16BufferAndSlotsStay();
        Check.end("SnapshotTests");
    }

    private static ScrollPieces someScroll() {
        ScrollPieces x = Check.withText("9[01234|54329].0.8;60[11111|22222].3;7[55555|00000]");
        x.load();
        x.move(2, 0);
        x.set(0, 4);
        x.set(1, 2);
        return x;
    }

    private static void changeAll(ScrollPieces x) {
        x.order();
        x.set(0, 9);
        x.set(1, 9);
        x.tear(0, 1, 2, 0);
        x.fibre(2, 0, 1);
        x.hole(1, 3);
        x.hole(1, 5);
        x.remove(0);
        x.add(33);
        x.move(0, 2);
    }

    /** All that a snapshot holds. */
    private static String told(ScrollPieces x) {
        StringBuilder text = new StringBuilder();
        for (int piece = 0; piece < x.count(0); piece++) {
            text.append(Check.piece(x, piece)).append(' ');
        }
        text.append(Check.row(x)).append(' ').append(x.setting(0)).append(x.setting(1));
        return text.append(' ').append(x.count(8)).toString();
    }

    private static void promise14Keep() {
        ScrollPieces x = someScroll();
        Check.same("14: pieces", x.keep(0), 3);
        Check.same("14: it is not undoable", x.count(9), 4);
        String before = told(x);
        changeAll(x);
        Check.same("14: the other slot", x.keep(1), 3);
        String later = told(x);
        x.goBack(0);
        Check.same("14: slot 0", told(x), before);
        x.goBack(1);
        Check.same("14: slot 1", told(x), later);
        x.remove(2);
        Check.same("14: in place of the one in the slot", x.keep(0), 2);
        later = told(x);
        x.order();
        x.goBack(0);
        Check.same("14: slot 0 again", told(x), later);
        Check.same("14: an empty scroll", new ScrollPieces().keep(1), 0);
        for (int bad : new int[] {-1, 2, Check.LOW, Check.FAR}) {
            Check.refused("14: slot " + bad, x, Check.ARGUMENT, () -> x.keep(bad));
        }
    }

    private static void promise15GoBack() {
        ScrollPieces x = someScroll();
        x.keep(1);
        String before = told(x);
        changeAll(x);
        x.add(50);
        Check.write(x, "abc");
        Check.same("15: pieces then", x.goBack(1), 3);
        Check.same("15: all is back", told(x), before);
        Check.same("15: the moves, too", x.count(8), 1);
        Check.same("15: the buffer stays", x.append('d'), 4);
        changeAll(x);
        x.goBack(1);
        Check.same("15: the snapshot stays", told(x), before);
        x.undo();
        x.undo();
        Check.undoable("15: goBack", x, () -> x.goBack(1));
        Check.same("15: saved states are no part of it", x.count(9), 4);
    }

    private static void promise15Arguments() {
        ScrollPieces x = someScroll();
        for (int bad : new int[] {-1, 2, Check.LOW, Check.FAR}) {
            Check.refused("15: slot " + bad, x, Check.ARGUMENT, () -> x.goBack(bad));
        }
        x.keep(0);
        Check.refused("15: nothing in slot 1", x, Check.STATE, () -> x.goBack(1));
        Check.same("15: slot 0 has one", x.goBack(0), 3);
    }

    private static void promise16Undo() {
        ScrollPieces x = someScroll();
        Check.same("16: left", x.undo(), 3);
        Check.same("16: setting 1", x.setting(1), 0);
        Check.same("16: left", x.undo(), 2);
        Check.same("16: setting 0", x.setting(0), 1);
        Check.same("16: left", x.undo(), 1);
        Check.same("16: row", Check.row(x), "012");
        Check.same("16: moves", x.count(8), 0);
        Check.same("16: left", x.undo(), 0);
        Check.same("16: no piece", x.count(0), 0);
        Check.refused("16: none", x, Check.STATE, () -> x.undo());
    }

    private static void promise16SixStates() {
        ScrollPieces x = new ScrollPieces();
        for (int round = 0; round < 3; round++) {
            for (int value = 0; value <= 9; value++) {
                x.set(0, value);
            }
            Check.same("16: at most 6", x.count(9), 6);
            Check.same("16: left", x.undo(), 5);
            Check.same("16: the latest", x.setting(0), 8);
            x.set(1, 5);
            Check.same("16: 6 again", x.count(9), 6);
            for (int left = 5; left >= 0; left--) {
                Check.same("16: left", x.undo(), left);
                Check.same("16: value", x.setting(0), 3 + left);
            }
            Check.refused("16: the oldest were dropped", x, Check.STATE, () -> x.undo());
        }
    }

    private static void promise16BufferAndSlotsStay() {
        ScrollPieces x = Check.withWidths(5);
        x.keep(0);
        x.add(6);
        Check.write(x, "12");
        x.keep(1);
        x.undo();
        Check.same("16: the buffer stays", x.append('['), 3);
        Check.same("16: the slots stay", x.goBack(1), 2);
        x.undo();
        x.undo();
        Check.same("16: the slots stay, also with another number of pieces", x.goBack(0), 1);
    }
}
