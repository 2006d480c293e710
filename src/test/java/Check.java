/** What the tests share: comparing answers, catching exceptions, making pieces. */
final class Check {
    static final String INDEX = "IndexOutOfBoundsException";
    static final String ARGUMENT = "IllegalArgumentException";
    static final String STATE = "IllegalStateException";
    static final int FAR = Integer.MAX_VALUE;
    static final int LOW = Integer.MIN_VALUE;

    private static int wrong = 0;
    private static int checks = 0;

    private Check() {
    }

    interface Call {
        void run();
    }

    static void same(String what, long got, long due) {
        checks++;
        if (got != due) {
            wrong++;
            System.out.println(what + " answered " + got + ", due is " + due);
        }
    }

    static void same(String what, String got, String due) {
        checks++;
        if (!got.equals(due)) {
            wrong++;
            System.out.println(what + " answered " + got + ", due is " + due);
        }
    }

    static void sameFloat(String what, float got, float due) {
        same(what, Float.floatToRawIntBits(got), Float.floatToRawIntBits(due));
    }

    static void sameDouble(String what, double got, double due) {
        same(what, Double.doubleToRawLongBits(got), Double.doubleToRawLongBits(due));
    }

    /** The call must throw just this exception and change nothing. */
    static void refused(String what, ScrollPieces x, String exception, Call call) {
        long before = x.digest();
        String thrown = "nothing";
        try {
            call.run();
        } catch (RuntimeException e) {
            thrown = e.getClass().getSimpleName();
        }
        same(what + " throws", thrown, exception);
        same(what + " throws, and the digest behind it", x.digest(), before);
    }

    /** The call must save one state, and undo must bring all back; needs fewer than 6 saved states. */
    static void undoable(String what, ScrollPieces x, Call call) {
        long before = x.digest();
        int saved = x.count(9);
        call.run();
        same(what + ": saved states", x.count(9), saved + 1);
        same(what + ": undo", x.undo(), saved);
        same(what + ": digest behind undo", x.digest(), before);
    }

    /** The call must leave everything as it is. */
    static void onlyLooks(String what, ScrollPieces x, Call call) {
        long before = x.digest();
        call.run();
        same(what + " changes nothing: digest", x.digest(), before);
    }

    static ScrollPieces withWidths(int... widths) {
        ScrollPieces x = new ScrollPieces();
        for (int width : widths) {
            x.add(width);
        }
        return x;
    }

    /** Four heights and a fibre, as in a text. */
    static void edge(ScrollPieces x, int piece, int side, String digits) {
        for (int rank = 0; rank < 4; rank++) {
            x.tear(piece, side, rank, digits.charAt(rank) - '0');
        }
        x.fibre(piece, side, digits.charAt(4) - '0');
    }

    static void write(ScrollPieces x, String text) {
        for (int i = 0; i < text.length(); i++) {
            x.append(text.charAt(i));
        }
    }

    static ScrollPieces withText(String text) {
        ScrollPieces x = new ScrollPieces();
        write(x, text);
        return x;
    }

    static void undo(ScrollPieces x, int times) {
        for (int i = 0; i < times; i++) {
            x.undo();
        }
    }

    static String row(ScrollPieces x) {
        StringBuilder row = new StringBuilder();
        for (int place = 0; x.at(place) != ScrollPieces.NONE; place++) {
            row.append(x.at(place));
        }
        return row.toString();
    }

    /** A piece in the form of a text; told by few calls, as an object is good for 512 only. */
    static String piece(ScrollPieces x, int piece) {
        StringBuilder text = new StringBuilder();
        text.append(x.pieceOf(piece, 0)).append('[');
        for (int what = 1; what <= 10; what++) {
            text.append(what == 6 ? "|" : "").append(x.pieceOf(piece, what));
        }
        text.append(']');
        int rank = 0;
        for (int ahead = 0; ahead < x.pieceOf(piece, 12); ahead++) {
            rank += x.pieceOf(x.at(ahead), 11);
        }
        for (int left = x.pieceOf(piece, 11); left > 0; left--) {
            text.append('.').append(x.holeOf(rank, 0) - x.pieceOf(piece, 13));
            rank++;
        }
        return text.toString();
    }

    static void end(String name) {
        System.out.println(name + ": " + checks + " checks, " + wrong + " wrong");
        if (wrong != 0) {
            System.exit(1);
        }
    }
}
