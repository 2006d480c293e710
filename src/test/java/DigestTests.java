/** Promise 30: the hash of the whole state. */
public final class DigestTests {
    private static final String TEXT = "9[01234|54329].0.8;60[11111|22222].30;7[55555|00000].1";

    public static void main(String[] args) {
        promise30NewObject();
        promise30Scrolls();
        promise30Quotients();
        promise30SmallQuotients();
        Check.end("DigestTests");
    }

    private static long of(long... values) {
        long hash = 3541;
        for (long value : values) {
            hash = 31 * hash + value;
        }
        return hash;
    }

    private static void promise30NewObject() {
        ScrollPieces x = new ScrollPieces();
        Check.same("30: new", x.digest(), of(0, 0, 0, 0, 0, 0, 0, 0, 0, 0, 1, 0, 0, 0, 0, 0, 0, 0));
        Check.onlyLooks("30: digest", x, () -> x.digest());
        x.append('a');
        x.append('~');
        x.keep(1);
        Check.same("30: buffer and slot", x.digest(),
                of(0, 0, 0, 0, 0, 0, 0, 0, 0, 0, 1, 0, 0, 0, 0, 0, 1, 2, 'a', '~'));
        x.clearBuffer();
        x.keep(0);
        x.add(9);
        long[] one = {1, 9, 0, 0, 0, 0, 0, 0, 0, 1, 1, 0,
            9, 0, 0, 0, 0, 0, 0, 0, 0, 0, 0, 0, 0, 0, -1, -1, 0,
            0, 0, 0, 0, 1, 1, 0};
        Check.same("30: a piece", x.digest(), of(one));
    }

    private static void promise30Scrolls() {
        ScrollPieces x = Check.withText(TEXT);
        checkDigest(x, TEXT);
        x.load();
        checkDigest(x, "");
        x.order();
        x.set(1, 3);
        checkDigest(x, "");
        x.move(0, 2);
        x.set(0, 0);
        checkDigest(x, "");
        for (int more = 1; more <= 4; more++) {
            checkDigest(longerScroll(more), "");
        }
    }

    /** Made anew for each digest, as an object is good for 512 calls only. */
    private static ScrollPieces longerScroll(int more) {
        ScrollPieces x = Check.withText(TEXT);
        x.load();
        x.order();
        x.move(0, 2);
        x.set(0, 0);
        for (int i = 0; i < more; i++) {
            x.add(11 + i);
            x.hole(3 + i, 5);
        }
        return x;
    }

    /** Means of many sizes, also below 0 and below 1. */
    private static void promise30Quotients() {
        for (int last = 3; last < 60; last++) {
            ScrollPieces x = Check.withWidths(60, 60, 60);
            x.hole(0, 0);
            x.hole(0, 2);
            x.hole(0, last);
            x.tear(1, 0, 0, last % 6);
            checkDigest(x, "");
            x.hole(2, last);
            checkDigest(x, "");
            x.hole(1, 7);
            x.hole(1, 8);
            x.hole(2, (last + 5) % 60);
            checkDigest(x, "");
        }
    }

    private static void promise30SmallQuotients() {
        for (int pieces = 2; pieces <= 7; pieces++) {
            for (int torn = 0; torn < 4; torn++) {
                checkDigest(rowThatCosts(torn, pieces), "");
            }
        }
        for (int distances = 2; distances <= 27; distances++) {
            for (int off = -1; off <= 1; off++) {
                ScrollPieces x = Check.withWidths(60, 60, 60, 60, 60, 60, 60);
                for (int rank = 0; rank <= distances; rank++) {
                    int stand = 15 * rank + 5 + (rank == distances ? off : 0);
                    x.hole(stand / 60, stand % 60);
                }
                Check.sameFloat("28: a small mean", x.meanShrink(), (float) -off / (distances - 1) + 0.0f);
                checkDigest(x, "");
            }
        }
    }

    /** The row costs 1 for each height that is torn. */
    private static ScrollPieces rowThatCosts(int torn, int pieces) {
        ScrollPieces x = new ScrollPieces();
        for (int piece = 0; piece < pieces; piece++) {
            x.add(60);
            Check.edge(x, piece, 1, "55550");
        }
        for (int rank = 0; rank < torn; rank++) {
            x.tear(0, 1, rank, 4);
        }
        return x;
    }

    /** The hash once more, by way of the other calls. */
    private static void checkDigest(ScrollPieces x, String buffer) {
        long hash = 3541;
        for (int what = 0; what <= 9; what++) {
            hash = 31 * hash + x.count(what);
        }
        hash = 31 * hash + x.setting(0);
        hash = 31 * hash + x.setting(1);
        for (int piece = 0; piece < x.count(0); piece++) {
            for (int what = 0; what <= 13; what++) {
                hash = 31 * hash + x.pieceOf(piece, what);
            }
            hash = 31 * hash + x.bestBehind(piece);
            hash = 31 * hash + x.sureness(piece);
            hash = 31 * hash + x.bestPlace(piece);
        }
        for (int place = 0; place < x.count(0); place++) {
            hash = 31 * hash + x.at(place);
        }
        for (int rank = 0; rank < x.count(5); rank++) {
            for (int what = 0; what <= 4; what++) {
                hash = 31 * hash + x.holeOf(rank, what);
            }
        }
        hash = 31 * hash + x.ifOrdered();
        hash = 31 * hash + Float.floatToIntBits(x.meanShrink());
        hash = 31 * hash + Double.doubleToLongBits(x.meanCost());
        hash = 31 * (31 * hash);
        hash = 31 * hash + buffer.length();
        for (char c : buffer.toCharArray()) {
            hash = 31 * hash + c;
        }
        Check.same("30: digest", x.digest(), hash);
    }
}
