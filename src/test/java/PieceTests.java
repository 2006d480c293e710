/** Promises 1 to 6, 17 and 18: pieces, their edges, fibres and holes. */
public final class PieceTests {
    public static void main(String[] args) {
        promise1NewObject();
        promise2Add();
        promise3Tear();
        promise4Fibre();
        promise5Hole();
        promise6Remove();
        promise6RemoveFromRow();
        promise17PieceOf();
        promise18IsHole();
        Check.end("PieceTests");
    }

    private static void promise1NewObject() {
        ScrollPieces x = new ScrollPieces();
        for (int what = 0; what <= 9; what++) {
            Check.same("1: count(" + what + ") of a new object", x.count(what), 0);
        }
        Check.same("1: at(0)", x.at(0), -1);
        Check.same("1: setting 0", x.setting(0), 1);
        Check.same("1: setting 1", x.setting(1), 0);
        Check.same("1: length of the buffer", x.clearBuffer(), 0);
        Check.refused("1: goBack(0)", x, Check.STATE, () -> x.goBack(0));
        Check.refused("1: goBack(1)", x, Check.STATE, () -> x.goBack(1));
        Check.refused("1: undo", x, Check.STATE, () -> x.undo());
        Check.same("1: NONE", ScrollPieces.NONE, -1);
    }

    private static void promise2Add() {
        ScrollPieces x = new ScrollPieces();
        Check.same("2: add(1)", x.add(1), 0);
        Check.same("2: add(60)", x.add(60), 1);
        Check.same("2: a new piece", Check.piece(x, 1), "60[00000|00000]");
        for (int bad : new int[] {0, 61, -1, Check.LOW, Check.FAR}) {
            Check.refused("2: add(" + bad + ")", x, Check.ARGUMENT, () -> x.add(bad));
        }
        Check.undoable("2: add", x, () -> x.add(7));
        x.move(1, 0);
        Check.same("2: third", x.add(2), 2);
        Check.same("2: it stands at the end of the row", Check.row(x), "102");
        for (int number = 3; number < 7; number++) {
            Check.same("2: number", x.add(5), number);
        }
        Check.refused("2: an eighth", x, Check.STATE, () -> x.add(5));
        Check.refused("2: an eighth with a wrong width", x, Check.ARGUMENT, () -> x.add(61));
        x.remove(6);
        Check.same("2: one was removed", x.add(8), 6);
        addsAnewWithoutTraces();
    }

    private static void addsAnewWithoutTraces() {
        ScrollPieces x = Check.withWidths(9, 9);
        Check.edge(x, 1, 0, "12345");
        Check.edge(x, 1, 1, "54329");
        x.hole(1, 3);
        x.remove(1);
        x.add(4);
        Check.same("2: nothing of a removed piece is left", Check.piece(x, 1), "4[00000|00000]");
    }

    private static void promise3Tear() {
        ScrollPieces x = Check.withWidths(9, 9);
        for (int side = 0; side < 2; side++) {
            for (int rank = 0; rank < 4; rank++) {
                Check.same("3: before", x.tear(1, side, rank, 1 + rank + side), 0);
            }
        }
        Check.same("3: edges", Check.piece(x, 1), "9[12340|23450]");
        Check.same("3: the other piece", Check.piece(x, 0), "9[00000|00000]");
        Check.same("3: before", x.tear(1, 1, 3, 0), 5);
        Check.same("3: before", x.tear(1, 1, 3, 0), 0);
        x.undo();
        x.undo();
        Check.undoable("3: tear", x, () -> x.tear(0, 0, 2, 4));
        Check.undoable("3: tear that changes nothing", x, () -> x.tear(0, 0, 2, 0));
        for (int bad : new int[] {-1, 2, Check.LOW, Check.FAR}) {
            Check.refused("3: piece " + bad, x, Check.INDEX, () -> x.tear(bad, 0, 0, 0));
            Check.refused("3: piece and more " + bad, x, Check.INDEX, () -> x.tear(bad, -1, 4, 6));
            Check.refused("3: side " + bad, x, Check.ARGUMENT, () -> x.tear(0, bad, 0, 0));
        }
        for (int bad : new int[] {-1, 4, 5, Check.LOW, Check.FAR}) {
            Check.refused("3: rank " + bad, x, Check.ARGUMENT, () -> x.tear(0, 0, bad, 0));
        }
        for (int bad : new int[] {-1, 6, Check.LOW, Check.FAR}) {
            Check.refused("3: height " + bad, x, Check.ARGUMENT, () -> x.tear(0, 0, 0, bad));
        }
    }

    private static void promise4Fibre() {
        ScrollPieces x = Check.withWidths(9, 9);
        Check.same("4: left, before", x.fibre(0, 0, 9), 0);
        Check.same("4: right, before", x.fibre(0, 1, 3), 0);
        Check.same("4: left again, before", x.fibre(0, 0, 0), 9);
        Check.same("4: fibres", Check.piece(x, 0), "9[00000|00003]");
        Check.same("4: the other piece", Check.piece(x, 1), "9[00000|00000]");
        Check.undo(x, 3);
        Check.undoable("4: fibre", x, () -> x.fibre(1, 1, 6));
        for (int bad : new int[] {-1, 2, Check.LOW, Check.FAR}) {
            Check.refused("4: piece " + bad, x, Check.INDEX, () -> x.fibre(bad, 0, 0));
            Check.refused("4: piece and more " + bad, x, Check.INDEX, () -> x.fibre(bad, 2, 10));
            Check.refused("4: side " + bad, x, Check.ARGUMENT, () -> x.fibre(0, bad, 0));
        }
        for (int bad : new int[] {-1, 10, Check.LOW, Check.FAR}) {
            Check.refused("4: fibre " + bad, x, Check.ARGUMENT, () -> x.fibre(0, 0, bad));
        }
    }

    private static void promise5Hole() {
        ScrollPieces x = Check.withWidths(9, 5);
        Check.same("5: one", x.hole(1, 4), 1);
        Check.same("5: two", x.hole(1, 0), 2);
        Check.same("5: three", x.hole(1, 2), 3);
        Check.same("5: four", x.hole(1, 3), 4);
        Check.same("5: holes", Check.piece(x, 1), "5[00000|00000].0.2.3.4");
        Check.same("5: the other piece", x.pieceOf(0, 11), 0);
        Check.refused("5: a fifth", x, Check.STATE, () -> x.hole(1, 1));
        Check.refused("5: outside, with four", x, Check.ARGUMENT, () -> x.hole(1, 5));
        Check.same("5: away", x.hole(1, 2), 3);
        Check.same("5: holes", Check.piece(x, 1), "5[00000|00000].0.3.4");
        Check.same("5: and another one", x.hole(1, 1), 4);
        Check.undo(x, 4);
        Check.undoable("5: hole", x, () -> x.hole(1, 3));
        Check.undoable("5: hole away", x, () -> x.hole(1, 4));
        Check.refused("5: place below 0", x, Check.ARGUMENT, () -> x.hole(0, -1));
        Check.refused("5: place of the width", x, Check.ARGUMENT, () -> x.hole(0, 9));
        Check.refused("5: place far away", x, Check.ARGUMENT, () -> x.hole(0, Check.FAR));
        Check.refused("5: place far below", x, Check.ARGUMENT, () -> x.hole(0, Check.LOW));
        for (int bad : new int[] {-1, 2, Check.LOW, Check.FAR}) {
            Check.refused("5: piece " + bad, x, Check.INDEX, () -> x.hole(bad, -1));
        }
    }

    private static void promise6Remove() {
        ScrollPieces x = Check.withWidths(11, 12, 13, 14);
        for (int piece = 0; piece < 4; piece++) {
            Check.edge(x, piece, 0, "" + piece + "1234");
            Check.edge(x, piece, 1, "4321" + (piece + 4));
            x.hole(piece, piece + 2);
        }
        x.hole(3, 13);
        Check.same("6: left", x.remove(1), 3);
        Check.same("6: ahead of it", Check.piece(x, 0), "11[01234|43214].2");
        Check.same("6: behind it", Check.piece(x, 1), "13[21234|43216].4");
        Check.same("6: last", Check.piece(x, 2), "14[31234|43217].5.13");
        Check.same("6: the last one", x.remove(2), 2);
        Check.same("6: the first one", x.remove(0), 1);
        Check.same("6: who is left", Check.piece(x, 0), "13[21234|43216].4");
        Check.undo(x, 4);
        Check.undoable("6: remove", x, () -> x.remove(0));
        Check.refused("6: below", x, Check.INDEX, () -> x.remove(-1));
        Check.refused("6: beyond", x, Check.INDEX, () -> x.remove(x.count(0)));
        Check.refused("6: far", x, Check.INDEX, () -> x.remove(Check.FAR));
        Check.refused("6: far below", x, Check.INDEX, () -> x.remove(Check.LOW));
        while (x.count(0) > 0) {
            x.remove(0);
        }
        Check.refused("6: none left", x, Check.INDEX, () -> x.remove(0));
    }

    private static void promise6RemoveFromRow() {
        ScrollPieces x = Check.withWidths(1, 2, 3, 4, 5, 6, 7);
        x.move(6, 0);
        x.move(2, 1);
        x.move(0, 6);
        Check.same("6: row ahead", Check.row(x), "6213450");
        Check.same("6: left", x.remove(3), 6);
        Check.same("6: row behind", Check.row(x), "521340");
        Check.same("6: left", x.remove(5), 5);
        Check.same("6: its first one away", Check.row(x), "21340");
        Check.same("6: left", x.remove(0), 4);
        Check.same("6: its last one away", Check.row(x), "1023");
        Check.same("6: moves are not changed", x.count(8), 3);
    }

    private static void promise17PieceOf() {
        ScrollPieces x = Check.withText("9[12345|54329].0.8;20[00000|00000];7[10002|20003].3");
        x.load();
        x.move(2, 0);
        int[][] due = {
            {9, 1, 2, 3, 4, 5, 5, 4, 3, 2, 9, 2, 1, 7},
            {20, 0, 0, 0, 0, 0, 0, 0, 0, 0, 0, 0, 2, 16},
            {7, 1, 0, 0, 0, 2, 2, 0, 0, 0, 3, 1, 0, 0}};
        for (int piece = 0; piece < 3; piece++) {
            for (int what = 0; what <= 13; what++) {
                Check.same("17: pieceOf(" + piece + ", " + what + ")", x.pieceOf(piece, what), due[piece][what]);
            }
        }
        Check.onlyLooks("17: pieceOf", x, () -> x.pieceOf(1, 13));
        for (int bad : new int[] {-1, 3, Check.LOW, Check.FAR}) {
            Check.refused("17: piece " + bad, x, Check.INDEX, () -> x.pieceOf(bad, 0));
            Check.refused("17: piece and what " + bad, x, Check.INDEX, () -> x.pieceOf(bad, 14));
        }
        for (int bad : new int[] {-1, 14, Check.LOW, Check.FAR}) {
            Check.refused("17: what " + bad, x, Check.ARGUMENT, () -> x.pieceOf(0, bad));
        }
    }

    private static void promise18IsHole() {
        ScrollPieces x = Check.withText("9[12345|54329].0.8;20[00000|00000]");
        x.load();
        Check.same("18: first place", x.isHole(0, 0), 1);
        Check.same("18: last place", x.isHole(0, 8), 1);
        Check.same("18: none there", x.isHole(0, 7), 0);
        Check.same("18: none at all", x.isHole(1, 0), 0);
        x.hole(0, 8);
        Check.same("18: no more", x.isHole(0, 8), 0);
        Check.onlyLooks("18: isHole", x, () -> x.isHole(0, 0));
        for (int bad : new int[] {-1, 9, Check.LOW, Check.FAR}) {
            Check.refused("18: place " + bad, x, Check.ARGUMENT, () -> x.isHole(0, bad));
        }
        for (int bad : new int[] {-1, 2, Check.LOW, Check.FAR}) {
            Check.refused("18: piece " + bad, x, Check.INDEX, () -> x.isHole(bad, 0));
            Check.refused("18: piece and place " + bad, x, Check.INDEX, () -> x.isHole(bad, -1));
        }
    }
}
