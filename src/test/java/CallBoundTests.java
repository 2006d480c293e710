/** Each sentence of the promises 1 to 9 and 17 to 20 and 23 that names a bound. */
public final class CallBoundTests {
    private static final String NEW_PIECE = "[00000|00000]";
    private static final String[] NONE = {};
    private static final String[] ONE = {"add 9"};
    private static final String[] THREE = {"add 9", "add 60", "add 1"};
    private static final String[] SEVEN = {"add 1", "add 2", "add 3", "add 4", "add 5", "add 6", "add 7"};

    public static void main(String[] args) {
        promise1();
        promise2();
        promise3();
        promise4();
        promise5();
        promise6();
        promise7();
        promise8();
        promise8OfSeveralTheFirst();
        promise9And23();
        promise17();
        promise18And19();
        promise20();
        Check.end("CallBoundTests");
    }

    private static void promise1() {
        new Script("Creates a row without pieces", "count 0 = 0", "count 1 = 0", "count 2 = 0", "count 3 = 0",
                "count 4 = 0", "count 5 = 0", "count 6 = 0", "count 7 = 0", "count 8 = 0", "at 0 = -1", "row = ",
                "pieceOf 0 0 throws IndexOutOfBounds");
        new Script("with empty slots", "goBack 0 throws IllegalState", "goBack 1 throws IllegalState");
        new Script("with an empty buffer", "firstError = 0", "load throws IllegalArgument", "clearBuffer = 0");
        new Script("a new object has no saved states", "count 9 = 0", "undo throws IllegalState");
        Check.same("NONE", ScrollPieces.NONE, -1);
    }

    private static void promise2() {
        Script.range("add: `width`: 1 to 60", NONE, "add #", 1, 60, "IllegalArgument");
        new Script("heights and fibres of 0, without holes", "add 60", "piece 0 = 60" + NEW_PIECE, "pieceOf 0 11 = 0",
                "write 9[55559|55559].0.8", "load", "remove 1", "add 9 = 1", "piece 1 = 9" + NEW_PIECE);
        new Script("add: at the end of the row", SEVEN).says("move 6 0", "remove 0", "row = 501234", "add 8 = 6",
                "row = 5012346");
        new Script("add: returns its number", "add 9 = 0", "add 9 = 1", "remove 0", "add 9 = 1", "undo", "add 9 = 1");
        new Script("add: if there are 7", SEVEN).says("add 1 throws IllegalState", "add 60 throws IllegalState",
                "undo", "add 8 = 6", "add 1 throws IllegalState");
        new Script("add: both", SEVEN).says("add 0 throws IllegalArgument", "add 61 throws IllegalArgument");
        new Script("add: undoable", NONE).isUndoable("add 1").says("add 5", "add 5", "add 5", "add 5", "add 5", "add 5")
                .isUndoable("add 60");
    }

    private static void promise3() {
        String[] made = {"add 9", "write 60[12345|51234]", "load"};
        Script.range("tear: `piece`: its number", THREE, "tear # 0 0 0", 0, 2, "IndexOutOfBounds");
        Script.range("tear: `side`: 0 the left edge, 1 the right edge", ONE, "tear 0 # 0 0", 0, 1, "IllegalArgument");
        Script.range("tear: `rank`: 0 to 3", ONE, "tear 0 0 # 0", 0, 3, "IllegalArgument");
        Script.range("tear: `height`: 0 to 5", ONE, "tear 0 0 0 #", 0, 5, "IllegalArgument");
        new Script("tear: the left edge, from the top down", made).says("tear 1 0 0 5 = 1", "tear 1 0 3 0 = 4",
                "piece 1 = 60[52305|51234]", "piece 0 = 9" + NEW_PIECE);
        new Script("tear: the right edge, from the top down", made).says("tear 1 1 0 0 = 5", "tear 1 1 3 5 = 3",
                "piece 1 = 60[12345|01254]", "piece 0 = 9" + NEW_PIECE);
        new Script("tear: returns the height before", ONE).says("tear 0 0 0 5 = 0", "tear 0 0 0 5 = 5",
                "tear 0 0 0 0 = 5", "tear 0 0 0 1 = 0");
        new Script("tear: both", ONE).says("tear 1 2 4 6 throws IndexOutOfBounds",
                "tear -1 0 0 -1 throws IndexOutOfBounds");
        new Script("tear: undoable", made).isUndoable("tear 1 1 3 0").isUndoable("tear 1 1 3 3");
    }

    private static void promise4() {
        String[] made = {"add 9", "write 60[12345|51234]", "load"};
        Script.range("fibre: `piece`: its number", THREE, "fibre # 0 0", 0, 2, "IndexOutOfBounds");
        Script.range("fibre: `side`: 0 at the left edge, 1 at the right edge", ONE, "fibre 0 # 0", 0, 1,
                "IllegalArgument");
        Script.range("fibre: `fibre`: 0 to 9", ONE, "fibre 0 0 #", 0, 9, "IllegalArgument");
        Script.range("fibre: `fibre`: 0 to 9", ONE, "fibre 0 1 #", 0, 9, "IllegalArgument");
        new Script("fibre: returns the fibre before", made).says("fibre 1 0 9 = 5", "fibre 1 1 0 = 4", "fibre 1 0 0 = 9",
                "fibre 1 0 0 = 0", "piece 1 = 60[12340|51230]", "piece 0 = 9" + NEW_PIECE);
        new Script("fibre: both", ONE).says("fibre 1 2 10 throws IndexOutOfBounds", "fibre 1 0 -1 throws IndexOutOfBounds");
        new Script("fibre: undoable", made).isUndoable("fibre 1 1 9").isUndoable("fibre 1 1 4");
    }

    private static void promise5() {
        String[] full = {"add 9", "write 60" + NEW_PIECE + ".0.20.58.59", "load"};
        Script.range("hole: `piece`: its number", THREE, "hole # 0", 0, 2, "IndexOutOfBounds");
        Script.range("hole: `place`: 0 to its width less 1", THREE, "hole 0 #", 0, 8, "IllegalArgument");
        Script.range("hole: `place`: of a piece as narrow as can be", THREE, "hole 2 #", 0, 0, "IllegalArgument");
        new Script("takes it away, if there is one", full).says("hole 1 59 = 3", "hole 1 0 = 2", "hole 1 58 = 1",
                "hole 1 20 = 0", "piece 1 = 60" + NEW_PIECE, "hole 1 20 = 1", "hole 0 0 = 1", "hole 0 0 = 0");
        new Script("there is none at the place, and the piece has 4", full).says("hole 1 1 throws IllegalState",
                "hole 1 57 throws IllegalState", "hole 1 20 = 3", "hole 1 1 = 4", "hole 1 20 throws IllegalState",
                "piece 1 = 60" + NEW_PIECE + ".0.1.58.59", "hole 0 8 = 1");
        new Script("hole: several", full).says("hole 1 60 throws IllegalArgument", "hole 1 -1 throws IllegalArgument",
                "hole 2 60 throws IndexOutOfBounds", "hole 2 0 throws IndexOutOfBounds");
        new Script("hole: undoable", full).isUndoable("hole 1 0").isUndoable("hole 1 59").isUndoable("hole 0 0");
    }

    private static void promise6() {
        Script.range("remove: `piece`: its number", THREE, "remove #", 0, 2, "IndexOutOfBounds");
        Script.range("remove: `piece`: its number", SEVEN, "remove #", 0, 6, "IndexOutOfBounds");
        String numbers = "those behind it get numbers that are 1 less";
        new Script(numbers, "write 9[12345|51234].8;8[23450|12345].0.7;7[34501|23450].6", "load").says("remove 0 = 2",
                "piece 0 = 8[23450|12345].0.7", "piece 1 = 7[34501|23450].6", "pieceOf 2 0 throws IndexOutOfBounds");
        new Script(numbers + ": the last one", "write 9[12345|51234].8;8[23450|12345].0.7", "load").says("remove 1 = 1",
                "piece 0 = 9[12345|51234].8", "row = 0", "pieceOf 1 0 throws IndexOutOfBounds");
        new Script(numbers + ": in the row", SEVEN).says("move 6 0", "move 0 6", "row = 6123450", "remove 3 = 6",
                "row = 512340", "remove 5 = 5", "row = 12340", "remove 0 = 4", "row = 0123");
        new Script("remove: how many are left", ONE).says("remove 0 = 0", "remove 0 throws IndexOutOfBounds",
                "count 0 = 0", "row = ", "add 5 = 0");
        new Script("remove: undoable", SEVEN).isUndoable("remove 0").isUndoable("remove 6").isUndoable("remove 3");
        new Script("remove: undoable", ONE).isUndoable("remove 0");
    }

    private static void promise7() {
        Script.range("move: `piece`: its number", THREE, "move # 0", 0, 2, "IndexOutOfBounds");
        Script.range("move: `place`: 0 to the number of pieces less 1", THREE, "move 1 #", 0, 2, "IllegalArgument");
        Script.range("move: `place`: of one piece", ONE, "move 0 #", 0, 0, "IllegalArgument");
        Script.range("move: `place`: of seven", SEVEN, "move 3 #", 0, 6, "IllegalArgument");
        new Script("put in so that it stands at a place", SEVEN).says("move 0 6", "row = 1234560", "at 6 = 0",
                "move 0 0", "row = 0123456", "move 3 4", "row = 0124356", "move 3 3", "row = 0123456", "move 2 5",
                "row = 0134526", "move 2 2", "row = 0123456", "move 6 6", "row = 0123456", "move 0 0", "row = 0123456");
        new Script("move: returns the cost of the row then", THREE).says("fibre 2 0 9", "move 2 2 = 58", "move 2 0 = 40",
                "move 2 1 = 58");
        new Script("move: both", ONE).says("move 1 1 throws IndexOutOfBounds", "move -1 -1 throws IndexOutOfBounds");
        new Script("move: undoable", SEVEN).isUndoable("move 0 6").isUndoable("move 6 6");
    }

    private static void promise8() {
        new Script("order: no pieces", NONE).says("order = 0", "row = ", "count 8 = 1", "count 9 = 1");
        new Script("order: one piece", ONE).says("order = 0", "row = 0", "count 8 = 1", "count 9 = 2");
        new Script("order: returns the cost of the row then", "write 1[00000|55550];1[00009|55559];1[00009|00000]",
                "load", "count 2 = 18", "move 2 0 = 38", "order = 18", "row = 012");
        new Script("order: undoable", SEVEN).isUndoable("order").says("move 6 0").isUndoable("order");
        new Script("order: undoable", NONE).isUndoable("order");
    }

    private static void promise8OfSeveralTheFirst() {
        String sentence = "of several the first one, as rows are compared by the number at the place 0, then 1";
        new Script(sentence, SEVEN).says("move 6 0", "move 0 6", "order = 120", "row = 0123456", "order = 120",
                "row = 0123456");
        // 1 fits behind 2, 0 behind 1, and 2 behind 0: the cheapest rows are 021, 102 and 210.
        new Script(sentence + ": place 0", "write 1[00003|55556];1[00009|55553];1[00006|55559]", "load",
                "cost 1 0 = 0", "cost 0 2 = 0", "cost 2 1 = 0", "order = 0", "row = 021");
        // Both 0231 and 0312 cost nothing.
        new Script(sentence + ": place 1",
                "write 1[00009|55550];1[00005|55550];1[00000|55550];1[00000|55555]", "load",
                "cost 0 2 = 0", "cost 2 3 = 0", "cost 3 1 = 0", "cost 0 3 = 0", "cost 1 2 = 0",
                "move 3 1", "order = 0", "row = 0231");
        // The piece that is dear behind any other one stands first; the others are alike.
        new Script(sentence + ": behind the first", "write 1[00000|55550];1[00000|55550];1[00000|55550]", "load",
                "order = 0", "row = 012", "fibre 0 0 9", "order = 0", "row = 012", "fibre 0 0 0", "fibre 1 0 9",
                "order = 0", "row = 102", "fibre 1 0 0", "fibre 2 0 9", "order = 0", "row = 201");
    }

    private static void promise9And23() {
        Script.range("set: `setting`: 0 or 1", NONE, "set # 0", 0, 1, "IndexOutOfBounds");
        Script.range("set: `value`: 0 to 9", NONE, "set 0 #", 0, 9, "IllegalArgument");
        Script.range("set: `value`: 0 to 9", NONE, "set 1 #", 0, 9, "IllegalArgument");
        Script.range("setting: `setting`: 0 or 1", NONE, "setting #", 0, 1, "IndexOutOfBounds");
        new Script("Returns the previous value", "set 0 9 = 1", "set 0 9 = 9", "set 0 0 = 9", "setting 0 = 0",
                "setting 1 = 0", "set 1 9 = 0", "set 1 1 = 9", "setting 1 = 1", "setting 0 = 0");
        new Script("set: both", "set 2 10 throws IndexOutOfBounds", "set -1 -1 throws IndexOutOfBounds");
        new Script("set: undoable", NONE).isUndoable("set 0 0").isUndoable("set 0 1").isUndoable("set 1 9");
        new Script("setting: nothing is changed", NONE).onlyLooks("setting 1");
    }

    private static void promise17() {
        Script.range("pieceOf: `piece`: its number", THREE, "pieceOf # 13", 0, 2, "IndexOutOfBounds");
        Script.range("pieceOf: what is not 0 to 13", THREE, "pieceOf 2 #", 0, 13, "IllegalArgument");
        new Script("pieceOf: both", ONE).says("pieceOf 1 14 throws IndexOutOfBounds", "pieceOf -1 -1 throws IndexOutOfBounds");
        new Script("pieceOf: of the last of seven", SEVEN).says("write x", "tear 6 0 0 1", "tear 6 0 3 2", "fibre 6 0 3",
                "tear 6 1 0 4", "tear 6 1 3 5", "fibre 6 1 9", "hole 6 6", "pieceOf 6 0 = 7", "pieceOf 6 1 = 1",
                "pieceOf 6 2 = 0", "pieceOf 6 4 = 2", "pieceOf 6 5 = 3", "pieceOf 6 6 = 4", "pieceOf 6 9 = 5",
                "pieceOf 6 10 = 9", "pieceOf 6 11 = 1", "pieceOf 6 12 = 6", "pieceOf 6 13 = 21").onlyLooks("pieceOf 6 13");
    }

    private static void promise18And19() {
        Script.range("isHole: `piece`: its number", THREE, "isHole # 0", 0, 2, "IndexOutOfBounds");
        Script.range("isHole: `place`: 0 to its width less 1", THREE, "isHole 0 #", 0, 8, "IllegalArgument");
        new Script("Returns 1 if there is, otherwise 0", "write 60" + NEW_PIECE + ".0.1.58.59", "load", "isHole 0 0 = 1",
                "isHole 0 1 = 1", "isHole 0 2 = 0", "isHole 0 57 = 0", "isHole 0 58 = 1", "isHole 0 59 = 1",
                "hole 0 59", "isHole 0 59 = 0").onlyLooks("isHole 0 0");
        new Script("isHole: both", ONE).says("isHole 1 9 throws IndexOutOfBounds", "isHole -1 -1 throws IndexOutOfBounds");
        Script.refusesAll("at: place is below 0", SEVEN, "at #", "IllegalArgument", "-1", "-2", "MIN");
        new Script("NONE if there are not so many", NONE).says("at 0 = -1", "at 6 = -1", "at MAX = -1");
        new Script("NONE if there are not so many", THREE).says("at 0 = 0", "at 2 = 2", "at 3 = -1", "at MAX = -1",
                "remove 2", "at 2 = -1");
        new Script("NONE if there are not so many", SEVEN).says("at 6 = 6", "at 7 = -1", "at 8 = -1").onlyLooks("at 7");
    }

    private static void promise20() {
        Script.refusesAll("cost: there is no such piece", THREE, "cost # 0", "IndexOutOfBounds", "-1", "3", "MIN", "MAX");
        Script.refusesAll("cost: there is no such piece", THREE, "cost 0 #", "IndexOutOfBounds", "-1", "3", "MIN", "MAX");
        Script.refusesAll("cost: both are the same", THREE, "cost # #", "IllegalArgument", "0", "1", "2");
        Script.refusesAll("cost: both", THREE, "cost # #", "IndexOutOfBounds", "-1", "3", "MIN", "MAX");
        new Script("Tells what a join costs", THREE).says("cost 0 1 = 20", "cost 2 0 = 20", "fibre 2 0 9",
                "cost 0 2 = 38", "cost 2 0 = 20").onlyLooks("cost 0 2");
    }
}
