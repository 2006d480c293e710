/** Promises 7 to 9, 19, 20, 22 to 27 and 29: the row, its cost, and the cheapest one. */
public final class RowTests {
    /** Of four heights of 5 at a right edge each meets a height of 0 at a left edge. */
    private static final String FITS_NEW = "55550";

    public static void main(String[] args) {
        promise7Move();
        promise8Order();
        promise8OrderOfAlike();
        promise9Set();
        promise19At();
        promise20Cost();
        promise22Count();
        promise23Setting();
        promise24BestBehind();
        promise25Sureness();
        promise26BestPlace();
        promise27IfOrdered();
        promise29MeanCost();
        Check.end("RowTests");
    }

    private static void promise7Move() {
        ScrollPieces x = Check.withWidths(1, 2, 3, 4, 5);
        Check.edge(x, 0, 1, FITS_NEW);
        Check.same("7: to the end", x.move(0, 4), 80);
        Check.same("7: row", Check.row(x), "12340");
        Check.same("7: back to the middle", x.move(0, 2), 60);
        Check.same("7: row", Check.row(x), "12034");
        Check.same("7: to the left by one", x.move(3, 2), 60);
        Check.same("7: row", Check.row(x), "12304");
        Check.same("7: to the front", x.move(4, 0), 80);
        Check.same("7: row", Check.row(x), "41230");
        Check.same("7: to where it is", x.move(2, 2), 80);
        Check.same("7: row", Check.row(x), "41230");
        Check.same("7: each is a move", x.count(8), 5);
        Check.undo(x, 2);
        Check.undoable("7: move", x, () -> x.move(1, 4));
        Check.undoable("7: move to where it is", x, () -> x.move(1, 0));
        for (int bad : new int[] {-1, 5, Check.LOW, Check.FAR}) {
            Check.refused("7: piece " + bad, x, Check.INDEX, () -> x.move(bad, -1));
            Check.refused("7: place " + bad, x, Check.ARGUMENT, () -> x.move(0, bad));
        }
        ScrollPieces one = Check.withWidths(6);
        Check.same("7: alone", one.move(0, 0), 0);
        Check.same("7: alone is a move", one.count(8), 1);
    }

    private static void promise8Order() {
        ScrollPieces x = Check.withWidths(1, 2, 3);
        Check.edge(x, 2, 1, FITS_NEW);
        Check.edge(x, 0, 1, "55551");
        Check.edge(x, 1, 0, "00001");
        // Behind 0: 1 for nothing, 2 for 2; behind 2: 0 for nothing, 1 for 2; behind 1: 20 each.
        Check.same("8: order", x.order(), 0);
        Check.same("8: row", Check.row(x), "201");
        Check.same("8: a move", x.count(8), 1);
        Check.same("8: cost", x.count(2), 0);
        Check.undo(x, 1);
        Check.same("8: row behind undo", Check.row(x), "012");
        Check.same("8: moves behind undo", x.count(8), 0);
        Check.undo(x, 2);
        Check.undoable("8: order", x, () -> x.order());
        ScrollPieces empty = new ScrollPieces();
        Check.undoable("8: order without pieces", empty, () -> empty.order());
        Check.same("8: order without pieces", empty.order(), 0);
        Check.same("8: a move, too", empty.count(8), 1);
    }

    private static void promise8OrderOfAlike() {
        ScrollPieces x = Check.withWidths(1, 2, 3, 4, 5, 6, 7);
        x.move(0, 6);
        x.move(5, 0);
        Check.same("8: all alike", x.order(), 120);
        Check.same("8: the first row", Check.row(x), "0123456");
        Check.edge(x, 3, 1, FITS_NEW);
        Check.edge(x, 5, 1, FITS_NEW);
        Check.same("8: two fit all", x.order(), 80);
        Check.same("8: the first row, where both may stand anywhere but last", Check.row(x), "0123456");
        Check.edge(x, 6, 1, FITS_NEW);
        Check.same("8: the last one fits all", x.order(), 60);
        Check.same("8: the first row, where it does not stand last", Check.row(x), "0123564");
    }

    private static void promise9Set() {
        ScrollPieces x = new ScrollPieces();
        Check.same("9: before", x.set(0, 9), 1);
        Check.same("9: before", x.set(0, 0), 9);
        Check.same("9: before", x.set(1, 9), 0);
        Check.same("9: before", x.set(1, 4), 9);
        Check.same("9: setting 0", x.setting(0), 0);
        Check.same("9: setting 1", x.setting(1), 4);
        Check.undoable("9: set", x, () -> x.set(0, 3));
        Check.undoable("9: set to what it is", x, () -> x.set(1, 4));
        for (int bad : new int[] {-1, 2, Check.LOW, Check.FAR}) {
            Check.refused("9: setting " + bad, x, Check.INDEX, () -> x.set(bad, 0));
            Check.refused("9: setting and value " + bad, x, Check.INDEX, () -> x.set(bad, 10));
        }
        for (int bad : new int[] {-1, 10, Check.LOW, Check.FAR}) {
            Check.refused("9: value " + bad, x, Check.ARGUMENT, () -> x.set(0, bad));
            Check.refused("9: value of 1 " + bad, x, Check.ARGUMENT, () -> x.set(1, bad));
        }
    }

    private static void promise19At() {
        ScrollPieces x = Check.withWidths(1, 2, 3);
        x.move(2, 0);
        Check.same("19: at(0)", x.at(0), 2);
        Check.same("19: at(1)", x.at(1), 0);
        Check.same("19: at(2)", x.at(2), 1);
        Check.same("19: at(3)", x.at(3), -1);
        Check.same("19: at(7)", x.at(7), -1);
        Check.same("19: at far", x.at(Check.FAR), -1);
        x.remove(0);
        Check.same("19: behind remove", x.at(2), -1);
        Check.onlyLooks("19: at", x, () -> x.at(1));
        Check.refused("19: at(-1)", x, Check.ARGUMENT, () -> x.at(-1));
        Check.refused("19: at far below", x, Check.ARGUMENT, () -> x.at(Check.LOW));
    }

    private static void promise20Cost() {
        ScrollPieces x = Check.withWidths(1, 2, 3);
        Check.same("20: new pieces", x.cost(0, 1), 20);
        Check.edge(x, 0, 1, "54017");
        Check.edge(x, 1, 0, "12539");
        // 1 too many, 1 too many, none, 1 too few, and 2 for each of 2 fibres.
        Check.same("20: all together", x.cost(0, 1), 1 + 1 + 0 + 1 + 4);
        Check.same("20: the other way", x.cost(1, 0), 20);
        Check.same("20: with a new one", x.cost(0, 2), 0 + 1 + 5 + 4 + 14);
        Check.same("20: a new one with it", x.cost(2, 1), 4 + 3 + 0 + 2 + 18);
        Check.edge(x, 2, 0, "55555");
        Check.edge(x, 2, 1, "55550");
        Check.edge(x, 1, 0, "55559");
        Check.same("20: the dearest join", x.cost(2, 1), 38);
        Check.onlyLooks("20: cost", x, () -> x.cost(0, 1));
        for (int bad : new int[] {-1, 3, Check.LOW, Check.FAR}) {
            Check.refused("20: first " + bad, x, Check.INDEX, () -> x.cost(bad, 0));
            Check.refused("20: second " + bad, x, Check.INDEX, () -> x.cost(0, bad));
            Check.refused("20: both " + bad, x, Check.INDEX, () -> x.cost(bad, bad));
        }
        Check.refused("20: the same", x, Check.ARGUMENT, () -> x.cost(2, 2));
    }

    private static void promise22Count() {
        ScrollPieces x = Check.withWidths(10, 20, 30);
        Check.edge(x, 2, 1, FITS_NEW);
        x.move(0, 0);
        x.order();
        x.move(1, 2);
        int[] due = {3, 60, 20, 20, 20, 0, 0, 0, 3, 6};
        for (int what = 0; what <= 9; what++) {
            Check.same("22: count(" + what + ")", x.count(what), due[what]);
        }
        x.move(2, 2);
        Check.same("22: cost of this row", x.count(2), 40);
        Check.same("22: least cost, by sets", x.count(3), 20);
        Check.same("22: least cost, by trying", x.count(4), 20);
        Check.same("22: moves", x.count(8), 4);
        Check.onlyLooks("22: count", x, () -> x.count(3));
        Check.onlyLooks("22: count", x, () -> x.count(4));
        for (int bad : new int[] {-1, 10, Check.LOW, Check.FAR}) {
            Check.refused("22: what " + bad, x, Check.ARGUMENT, () -> x.count(bad));
        }
        ScrollPieces one = Check.withWidths(6);
        Check.same("22: least cost of one", one.count(3), 0);
        Check.same("22: the same", one.count(4), 0);
        ScrollPieces seven = Check.withWidths(60, 60, 60, 60, 60, 60, 60);
        Check.same("22: the widest row", seven.count(1), 420);
        for (int piece = 0; piece < 7; piece++) {
            Check.edge(seven, piece, 0, "55559");
            Check.edge(seven, piece, 1, "55550");
        }
        Check.same("22: the dearest row", seven.count(2), 6 * 38);
        Check.same("22: by sets", seven.count(3), 6 * 38);
        Check.same("22: by trying", seven.count(4), 6 * 38);
    }

    private static void promise23Setting() {
        ScrollPieces x = new ScrollPieces();
        Check.same("23: setting 0 at first", x.setting(0), 1);
        Check.same("23: setting 1 at first", x.setting(1), 0);
        x.set(1, 7);
        Check.same("23: setting 1", x.setting(1), 7);
        Check.onlyLooks("23: setting", x, () -> x.setting(0));
        for (int bad : new int[] {-1, 2, Check.LOW, Check.FAR}) {
            Check.refused("23: setting " + bad, x, Check.INDEX, () -> x.setting(bad));
        }
    }

    private static void promise24BestBehind() {
        ScrollPieces x = Check.withWidths(1, 2, 3, 4);
        Check.same("24: all alike, behind 0", x.bestBehind(0), 1);
        Check.same("24: all alike, behind 2", x.bestBehind(2), 0);
        Check.edge(x, 2, 0, "40000");
        Check.edge(x, 3, 0, "00400");
        Check.same("24: two are cheaper", x.bestBehind(0), 2);
        Check.same("24: not itself", x.bestBehind(2), 3);
        Check.edge(x, 3, 0, "00500");
        Check.same("24: one is the cheapest", x.bestBehind(0), 3);
        Check.onlyLooks("24: bestBehind", x, () -> x.bestBehind(0));
        for (int bad : new int[] {-1, 4, Check.LOW, Check.FAR}) {
            Check.refused("24: piece " + bad, x, Check.INDEX, () -> x.bestBehind(bad));
        }
        ScrollPieces one = Check.withWidths(6);
        Check.same("24: alone", one.bestBehind(0), -1);
        Check.refused("24: no piece 1", one, Check.INDEX, () -> one.bestBehind(1));
    }

    private static void promise25Sureness() {
        ScrollPieces x = Check.withWidths(1, 2, 3, 4);
        Check.same("25: all alike", x.sureness(0), 0);
        Check.edge(x, 2, 0, "40000");
        Check.edge(x, 1, 0, "10000");
        Check.same("25: 16 and 19", x.sureness(0), 3);
        Check.same("25: 19 and 20, without itself", x.sureness(2), 1);
        Check.edge(x, 3, 0, "22000");
        Check.same("25: 16 twice", x.sureness(0), 0);
        Check.onlyLooks("25: sureness", x, () -> x.sureness(0));
        for (int bad : new int[] {-1, 4, Check.LOW, Check.FAR}) {
            Check.refused("25: piece " + bad, x, Check.INDEX, () -> x.sureness(bad));
        }
        ScrollPieces few = Check.withWidths(6);
        Check.same("25: alone", few.sureness(0), -1);
        few.add(7);
        Check.same("25: one other piece", few.sureness(1), -1);
        few.add(8);
        Check.same("25: two other pieces", few.sureness(1), 0);
        Check.refused("25: no piece 3", few, Check.INDEX, () -> few.sureness(3));
    }

    private static void promise26BestPlace() {
        ScrollPieces x = Check.withWidths(1, 2, 3, 4);
        Check.same("26: all alike", x.bestPlace(3), 0);
        Check.edge(x, 2, 0, "44440");
        // Wherever it does not stand first, the join ahead of it costs 4 and not 20.
        Check.same("26: the lowest of three", x.bestPlace(2), 1);
        Check.edge(x, 3, 1, "11119");
        Check.edge(x, 2, 0, "44449");
        Check.same("26: behind the one that fits", x.bestPlace(2), 3);
        x.move(3, 1);
        Check.same("26: also where that one is moved", x.bestPlace(2), 2);
        for (int piece = 0; piece < 4; piece++) {
            bestPlaceIsMovesLeast(x, piece);
        }
        Check.onlyLooks("26: bestPlace", x, () -> x.bestPlace(0));
        for (int bad : new int[] {-1, 4, Check.LOW, Check.FAR}) {
            Check.refused("26: piece " + bad, x, Check.INDEX, () -> x.bestPlace(bad));
        }
        Check.same("26: alone", Check.withWidths(6).bestPlace(0), 0);
    }

    private static void bestPlaceIsMovesLeast(ScrollPieces x, int piece) {
        int best = -1;
        int least = Integer.MAX_VALUE;
        for (int place = 0; place < x.count(0); place++) {
            int cost = x.move(piece, place);
            x.undo();
            if (cost < least) {
                least = cost;
                best = place;
            }
        }
        Check.same("26: bestPlace(" + piece + ") as move() tells it", x.bestPlace(piece), best);
    }

    private static void promise27IfOrdered() {
        ScrollPieces x = Check.withText("10[00000|00000].0;20[00000|55550].0.10;9[00000|00001].0.8");
        x.load();
        x.move(1, 2);
        // Now: 10, 9, 20 wide; distances 10, 8, 1, 10.
        Check.same("27: wrong now", x.count(6), 3);
        // The cheapest row that comes first: 0, 1, 2; distances 10, 10, 10, 8.
        Check.same("27: wrong if ordered", x.ifOrdered(), 3);
        x.set(1, 2);
        Check.same("27: with settings", x.ifOrdered(), 0);
        Check.same("27: but now", x.count(6), 2);
        Check.onlyLooks("27: ifOrdered", x, () -> x.ifOrdered());
        int told = x.ifOrdered();
        x.order();
        Check.same("27: behind order()", x.count(6), told);
        Check.same("27: without pieces", new ScrollPieces().ifOrdered(), 0);
    }

    private static void promise29MeanCost() {
        ScrollPieces x = new ScrollPieces();
        Check.sameDouble("29: no piece", x.meanCost(), 0.0);
        x.add(3);
        Check.sameDouble("29: one piece", x.meanCost(), 0.0);
        x.add(3);
        Check.sameDouble("29: two pieces", x.meanCost(), 20.0);
        x.add(3);
        x.add(3);
        x.tear(3, 0, 0, 1);
        Check.sameDouble("29: four pieces", x.meanCost(), 59.0 / 3.0);
        Check.onlyLooks("29: meanCost", x, () -> x.meanCost());
    }
}
