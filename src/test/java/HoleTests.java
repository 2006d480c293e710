/** Promises 21, 22 (5 to 7) and 28: holes along the row, wrong distances, turns that are lacking. */
public final class HoleTests {
    public static void main(String[] args) {
        promise21AlongTheRow();
        promise21Wrong();
        promise21Lacking();
        promise21LackingNone();
        promise21Arguments();
        promise22HoleCounts();
        promise28MeanShrink();
        Check.end("HoleTests");
    }

    /** Seven pieces of width 60, the holes at these places of the row. */
    private static ScrollPieces withHoles(int shrink, int slack, int... stands) {
        ScrollPieces x = Check.withWidths(60, 60, 60, 60, 60, 60, 60);
        x.set(0, shrink);
        x.set(1, slack);
        for (int stand : stands) {
            x.hole(stand / 60, stand % 60);
        }
        return x;
    }

    private static String numbers(ScrollPieces x, int what) {
        StringBuilder text = new StringBuilder();
        for (int rank = 0; rank < x.count(5); rank++) {
            text.append(rank > 0 ? " " : "").append(x.holeOf(rank, what));
        }
        return text.toString();
    }

    private static void promise21AlongTheRow() {
        ScrollPieces x = Check.withText("10[00000|00000].2.9;20[00000|00000];5[00000|00000].0.4");
        x.load();
        Check.same("21: stand", numbers(x, 0), "2 9 30 34");
        Check.same("21: piece", numbers(x, 1), "0 0 2 2");
        Check.same("21: distance", numbers(x, 2), "7 21 4 -1");
        x.move(2, 0);
        Check.same("21: stand, moved", numbers(x, 0), "0 4 7 14");
        Check.same("21: piece, moved", numbers(x, 1), "2 2 0 0");
        Check.same("21: distance, moved", numbers(x, 2), "4 3 7 -1");
        Check.same("21: wrong, moved", numbers(x, 3), "0 0 1 0");
        x.hole(0, 0);
        Check.same("21: a hole more", numbers(x, 0), "0 4 5 7 14");
        for (int what = 0; what <= 4; what++) {
            Check.same("21: not so many", x.holeOf(5, what), -1);
            Check.same("21: far from so many", x.holeOf(Check.FAR, what), -1);
        }
        ScrollPieces full = new ScrollPieces();
        for (int piece = 0; piece < 7; piece++) {
            full.add(4);
            for (int place = 3; place >= 0; place--) {
                full.hole(piece, place);
            }
        }
        Check.same("21: 28 holes", full.count(5), 28);
        Check.same("21: the last one", full.holeOf(27, 0), 27);
        Check.same("21: its piece", full.holeOf(27, 1), 6);
        Check.same("21: no more", full.holeOf(28, 0), -1);
    }

    private static void promise21Wrong() {
        Check.same("21: as it should be", numbers(withHoles(2, 0, 0, 20, 38, 54), 3), "0 0 0 0");
        Check.same("21: shrinks too much", numbers(withHoles(1, 0, 0, 20, 38, 54), 3), "0 1 1 0");
        Check.same("21: then none is lacking", numbers(withHoles(1, 0, 0, 20, 38, 54), 4), "0 0 0 0");
        Check.same("21: shrinks too little", numbers(withHoles(3, 0, 0, 20, 38, 54), 3), "0 1 1 0");
        Check.same("21: greater by the slack", numbers(withHoles(2, 3, 0, 20, 41), 3), "0 0 0");
        Check.same("21: greater by more", numbers(withHoles(2, 3, 0, 20, 42), 3), "0 1 0");
        Check.same("21: less by the slack", numbers(withHoles(2, 3, 0, 20, 35), 3), "0 0 0");
        Check.same("21: less by more", numbers(withHoles(2, 3, 0, 20, 34), 3), "0 1 0");
        Check.same("21: a wrong one counts as it is", numbers(withHoles(2, 0, 0, 20, 54, 86), 3), "0 1 0 0");
        Check.same("21: the first is never wrong", numbers(withHoles(2, 0, 0, 400), 3), "0 0");
        Check.same("21: a single hole", numbers(withHoles(2, 0, 9), 3), "0");
        Check.same("21: should be below 0", numbers(withHoles(9, 9, 0, 5, 10, 17), 3), "0 0 1 0");
    }

    private static void promise21Lacking() {
        // It should be 18, and then 16, 14, 12, 10, 8.
        int[][] sizes = {
            {19, 1}, {34, 1}, {35, 2}, {48, 2}, {49, 3}, {60, 3}, {61, 4}, {70, 4}, {71, 5}, {78, 5},
            {79, 0}, {300, 0}, {18, 0}, {17, 0}};
        for (int[] size : sizes) {
            ScrollPieces x = withHoles(2, 0, 0, 20, 20 + size[0]);
            Check.same("21: lacking in " + size[0], x.holeOf(1, 4), size[1]);
        }
        Check.same("21: the first lacks none", withHoles(2, 0, 0, 20, 54).holeOf(0, 4), 0);
        Check.same("21: the last lacks none", withHoles(2, 0, 0, 20, 54).holeOf(2, 4), 0);
        Check.same("21: not wrong, none lacking", withHoles(2, 9, 0, 20, 47).holeOf(1, 4), 0);
        Check.same("21: wrong, with slack", withHoles(2, 9, 0, 20, 48).holeOf(1, 4), 1);
        Check.same("21: behind a wrong one", numbers(withHoles(2, 0, 0, 20, 54, 54 + 62), 4), "0 1 1 0");
    }

    private static void promise21LackingNone() {
        Check.same("21: 11 and 2", withHoles(9, 0, 0, 20, 33).holeOf(1, 4), 1);
        Check.same("21: 11, 2 and one below 1", withHoles(9, 0, 0, 20, 34).holeOf(1, 4), 0);
        Check.same("21: 6 and 1", withHoles(5, 0, 0, 11, 18).holeOf(1, 4), 1);
        Check.same("21: 6, 1 and one below 1", withHoles(5, 0, 0, 11, 19).holeOf(1, 4), 0);
        Check.same("21: 5 and 0", withHoles(5, 0, 0, 10, 16).holeOf(1, 4), 0);
        Check.same("21: 1 and below", withHoles(5, 0, 0, 6, 8).holeOf(1, 4), 0);
        Check.same("21: it should be below 1", withHoles(9, 0, 0, 5, 18).holeOf(1, 4), 0);
        Check.same("21: though it is wrong", withHoles(9, 0, 0, 5, 18).holeOf(1, 3), 1);
        Check.same("21: without shrinking", withHoles(0, 0, 0, 10, 30).holeOf(1, 4), 1);
        Check.same("21: without shrinking, six", withHoles(0, 0, 0, 10, 70).holeOf(1, 4), 5);
        Check.same("21: without shrinking, more", withHoles(0, 0, 0, 10, 71).holeOf(1, 4), 0);
        Check.same("21: without shrinking, by 1", withHoles(0, 0, 0, 1, 7).holeOf(1, 4), 5);
    }

    private static void promise21Arguments() {
        ScrollPieces x = withHoles(2, 0, 0, 20, 38);
        Check.onlyLooks("21: holeOf", x, () -> x.holeOf(1, 4));
        Check.refused("21: rank below 0", x, Check.ARGUMENT, () -> x.holeOf(-1, 0));
        Check.refused("21: rank far below", x, Check.ARGUMENT, () -> x.holeOf(Check.LOW, 0));
        for (int bad : new int[] {-1, 5, Check.LOW, Check.FAR}) {
            Check.refused("21: what " + bad, x, Check.ARGUMENT, () -> x.holeOf(0, bad));
            Check.refused("21: what of no hole " + bad, x, Check.ARGUMENT, () -> x.holeOf(9, bad));
        }
    }

    private static void promise22HoleCounts() {
        ScrollPieces x = withHoles(2, 0, 0, 20, 55, 88, 150, 160);
        // Distances 20, 35 (2 lacking), 33, 62 (31 and 29 are too few: 2), 10 (too little).
        Check.same("22: distances", numbers(x, 2), "20 35 33 62 10 -1");
        Check.same("22: lacking", numbers(x, 4), "0 2 0 2 0 0");
        Check.same("22: holes", x.count(5), 6);
        Check.same("22: wrong distances", x.count(6), 3);
        Check.same("22: turns that are lacking", x.count(7), 4);
        x.hole(0, 0);
        Check.same("22: holes then", x.count(5), 5);
        // The first distance is 35 now.
        Check.same("22: wrong distances then", x.count(6), 2);
        Check.same("22: lacking then", x.count(7), 2);
    }

    private static void promise28MeanShrink() {
        Check.sameFloat("28: no hole", withHoles(2, 0).meanShrink(), 0.0f);
        Check.sameFloat("28: one hole", withHoles(2, 0, 7).meanShrink(), 0.0f);
        Check.sameFloat("28: one distance", withHoles(2, 0, 7, 30).meanShrink(), 0.0f);
        Check.sameFloat("28: two distances", withHoles(2, 0, 0, 20, 35).meanShrink(), 5.0f);
        Check.sameFloat("28: they grow", withHoles(2, 0, 0, 20, 54).meanShrink(), -14.0f);
        Check.sameFloat("28: alike", withHoles(2, 0, 0, 20, 40).meanShrink(), 0.0f);
        Check.sameFloat("28: thirds", withHoles(2, 0, 0, 10, 50, 100, 103).meanShrink(), 7.0f / 3.0f);
        Check.sameFloat("28: they grow by thirds", withHoles(2, 0, 0, 3, 50, 100, 110).meanShrink(), -7.0f / 3.0f);
        ScrollPieces x = withHoles(2, 0, 0, 20, 54);
        Check.onlyLooks("28: meanShrink", x, () -> x.meanShrink());
    }
}
