/**
 * "Exceptions": a call that throws changes nothing, and of several exceptions the one that is named
 * first is thrown; each call of the face that can be refused, on an empty, a middling and a full scroll.
 */
public final class RefusalTests {
    private static final String[] EMPTY = {};
    private static final String[] MIDDLING = {
        "write 9[12345|54321].0.8;60[00000|00000]", "load", "move 1 0", "keep 1", "set 1 4", "write 9[1"};
    /** Seven pieces, one with four holes, both slots, six saved states, and a buffer that is a text. */
    private static final String[] FULL = {
        "add 9", "add 60", "add 1", "add 5", "add 5", "add 5", "keep 0", "add 5", "hole 1 0", "hole 1 59", "hole 1 7",
        "hole 1 8", "move 6 0", "keep 1", "order", "set 0 9", "set 1 9", "move 3 1",
        "write 1[00000|00000];1[00000|00000];1[00000|00000];12[00000|00000]"};

    private static final String NO_PIECE = " throws IndexOutOfBounds";
    private static final String ARGUMENT = " throws IllegalArgument";
    private static final String STATE = " throws IllegalState";

    public static void main(String[] args) {
        noSuchPiece("an empty scroll", EMPTY, 0);
        noSuchPiece("a middling scroll", MIDDLING, 2);
        noSuchPiece("a full scroll", FULL, 7);
        arguments("an empty scroll", EMPTY);
        arguments("a middling scroll", MIDDLING);
        arguments("a full scroll", FULL);
        argumentsOfPieces("a middling scroll", MIDDLING);
        argumentsOfPieces("a full scroll", FULL);
        states();
        severalApply();
        refusedManyTimes();
        Check.end("RefusalTests");
    }

    private static void noSuchPiece(String name, String[] made, int pieces) {
        Script script = new Script("there is no such piece, " + name, made);
        for (String bad : new String[] {"-1", "" + pieces, "" + (pieces + 1), "MIN", "MAX"}) {
            script.says("tear " + bad + " 0 0 0" + NO_PIECE, "fibre " + bad + " 0 0" + NO_PIECE,
                    "hole " + bad + " 0" + NO_PIECE, "remove " + bad + NO_PIECE, "move " + bad + " 0" + NO_PIECE,
                    "pieceOf " + bad + " 0" + NO_PIECE, "isHole " + bad + " 0" + NO_PIECE,
                    "cost " + bad + " 0" + NO_PIECE, "cost 0 " + bad + NO_PIECE, "cost " + bad + " " + bad + NO_PIECE,
                    "bestBehind " + bad + NO_PIECE, "sureness " + bad + NO_PIECE, "bestPlace " + bad + NO_PIECE);
        }
    }

    private static void arguments(String name, String[] made) {
        Script script = new Script("out of range, " + name, made);
        for (String bad : new String[] {"-1", "MIN"}) {
            script.says("at " + bad + ARGUMENT, "holeOf " + bad + " 0" + ARGUMENT);
        }
        for (String bad : new String[] {"-1", "2", "MIN", "MAX"}) {
            script.says("keep " + bad + ARGUMENT, "goBack " + bad + ARGUMENT, "set " + bad + " 0" + NO_PIECE,
                    "setting " + bad + NO_PIECE);
        }
        for (String bad : new String[] {"-1", "10", "MIN", "MAX"}) {
            script.says("set 0 " + bad + ARGUMENT, "set 1 " + bad + ARGUMENT, "count " + bad + ARGUMENT);
        }
        for (String bad : new String[] {"-1", "5", "MIN", "MAX"}) {
            script.says("holeOf 0 " + bad + ARGUMENT, "holeOf MAX " + bad + ARGUMENT);
        }
        for (String bad : new String[] {"-1", "0", "61", "MIN", "MAX"}) {
            script.says("add " + bad + ARGUMENT);
        }
        for (String bad : new String[] {"-1", "32", "127", "MIN", "MAX"}) {
            script.says("append " + bad + ARGUMENT);
        }
    }

    /** Piece 0 is 9 wide. */
    private static void argumentsOfPieces(String name, String[] made) {
        Script script = new Script("out of range for a piece, " + name, made);
        for (String bad : new String[] {"-1", "2", "MIN", "MAX"}) {
            script.says("tear 0 " + bad + " 0 0" + ARGUMENT, "fibre 0 " + bad + " 0" + ARGUMENT);
        }
        for (String bad : new String[] {"-1", "4", "MIN", "MAX"}) {
            script.says("tear 0 0 " + bad + " 0" + ARGUMENT, "tear 0 1 " + bad + " 0" + ARGUMENT);
        }
        for (String bad : new String[] {"-1", "6", "MIN", "MAX"}) {
            script.says("tear 0 0 0 " + bad + ARGUMENT, "tear 0 1 3 " + bad + ARGUMENT);
        }
        for (String bad : new String[] {"-1", "10", "MIN", "MAX"}) {
            script.says("fibre 0 0 " + bad + ARGUMENT, "fibre 0 1 " + bad + ARGUMENT);
        }
        for (String bad : new String[] {"-1", "9", "MIN", "MAX"}) {
            script.says("hole 0 " + bad + ARGUMENT, "isHole 0 " + bad + ARGUMENT, "move 0 " + bad + ARGUMENT);
        }
        for (String bad : new String[] {"-1", "14", "MIN", "MAX"}) {
            script.says("pieceOf 0 " + bad + ARGUMENT);
        }
        script.says("cost 0 0" + ARGUMENT, "cost 1 1" + ARGUMENT);
    }

    private static void states() {
        new Script("a call that throws, an empty scroll", EMPTY).says("load" + ARGUMENT, "goBack 0" + STATE,
                "goBack 1" + STATE, "undo" + STATE);
        new Script("a call that throws, a middling scroll", MIDDLING).says("load" + ARGUMENT, "goBack 0" + STATE,
                "move 0 2" + ARGUMENT, "clearBuffer = 3");
        new Script("a call that throws, a full scroll", FULL).says("append 33" + STATE, "load" + STATE,
                "add 60" + STATE, "hole 1 1" + STATE, "hole 1 58" + STATE, "move 0 7" + ARGUMENT, "firstError = 60",
                "count 9 = 6", "clearBuffer = 60");
    }

    private static void severalApply() {
        String sentence = "the one that is named first in the throws clause is thrown";
        new Script(sentence, EMPTY).says("goBack 2" + ARGUMENT, "goBack -1" + ARGUMENT, "tear 0 2 4 6" + NO_PIECE,
                "fibre 0 2 10" + NO_PIECE, "hole 0 -1" + NO_PIECE, "move 0 0" + NO_PIECE, "move 0 -1" + NO_PIECE,
                "set 2 10" + NO_PIECE, "set -1 -1" + NO_PIECE, "pieceOf 0 14" + NO_PIECE, "isHole 0 -1" + NO_PIECE,
                "cost 0 0" + NO_PIECE, "holeOf -1 5" + ARGUMENT);
        new Script(sentence, FULL).says("add 0" + ARGUMENT, "add 61" + ARGUMENT, "append 32" + ARGUMENT,
                "append 127" + ARGUMENT, "tear 7 2 4 6" + NO_PIECE, "tear -1 -1 -1 -1" + NO_PIECE,
                "fibre 7 2 10" + NO_PIECE, "hole 7 MAX" + NO_PIECE, "hole 1 60" + ARGUMENT, "hole 1 -1" + ARGUMENT,
                "move 7 7" + NO_PIECE, "pieceOf 7 14" + NO_PIECE, "isHole 7 60" + NO_PIECE, "cost 7 7" + NO_PIECE,
                "clearBuffer", "write 1[00000|00000];1[00000|00000];", "load" + ARGUMENT);
    }

    /** What is refused again and again changes as little as what is refused once. */
    private static void refusedManyTimes() {
        Script script = new Script("A call that throws an exception changes nothing", FULL);
        for (int i = 0; i < 20; i++) {
            script.says("add 5" + STATE, "load" + STATE, "hole 1 1" + STATE, "append 33" + STATE);
        }
        script.says("count 9 = 6", "count 0 = 7", "pieceOf 1 11 = 4", "clearBuffer = 60", "undo = 5", "undo = 4",
                "undo = 3", "undo = 2", "undo = 1", "undo = 0", "undo" + STATE, "goBack 0 = 6", "goBack 1 = 7");
    }
}
