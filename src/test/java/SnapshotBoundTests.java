/** Each sentence of "Snapshots, undo" that names a bound, and the promises 14 to 16. */
public final class SnapshotBoundTests {
    private static final String[] NONE = {};
    /** Five states are saved behind these calls, and nothing is as in a new object. */
    private static final String[] SOME = {
        "write 9[12345|54321].0.8;5[00000|00000];60[55555|00000].59", "load", "move 2 0", "set 0 3", "set 1 2", "order"};
    private static final String[] UNDOABLE = {
        "add 7", "tear 0 1 2 5", "tear 0 1 2 3", "fibre 1 0 9", "fibre 1 0 0", "hole 0 3", "hole 0 8", "remove 0",
        "remove 2", "move 0 2", "move 0 0", "move 1 1", "move 2 2", "order", "set 0 9", "set 0 3", "set 1 9", "set 1 2",
        "goBack 0"};
    private static final String[] NOT_UNDOABLE = {
        "append 48", "clearBuffer", "firstError", "keep 0", "keep 1", "pieceOf 0 13", "isHole 0 0", "at 0", "cost 0 1",
        "holeOf 0 4", "count 9", "setting 0", "bestBehind 0", "sureness 0", "bestPlace 0", "ifOrdered", "meanShrink",
        "meanCost", "digest", "row"};
    private static final String[] REFUSED = {
        "add 0 throws IllegalArgument", "tear 3 0 0 0 throws IndexOutOfBounds", "fibre 0 2 0 throws IllegalArgument",
        "hole 0 9 throws IllegalArgument", "remove 3 throws IndexOutOfBounds", "move 0 3 throws IllegalArgument",
        "set 2 0 throws IndexOutOfBounds", "set 0 10 throws IllegalArgument", "append 32 throws IllegalArgument",
        "load throws IllegalArgument", "keep 2 throws IllegalArgument", "goBack 2 throws IllegalArgument",
        "goBack 1 throws IllegalState", "pieceOf 0 14 throws IllegalArgument", "isHole 0 9 throws IllegalArgument",
        "at -1 throws IllegalArgument", "cost 1 1 throws IllegalArgument", "holeOf -1 0 throws IllegalArgument",
        "count 10 throws IllegalArgument", "setting 2 throws IndexOutOfBounds", "bestBehind 3 throws IndexOutOfBounds",
        "sureness 3 throws IndexOutOfBounds", "bestPlace 3 throws IndexOutOfBounds"};

    public static void main(String[] args) {
        twoSlots();
        whatASnapshotHolds();
        undoableSavesOneState();
        othersSaveNone();
        atMostSixStates();
        whatAStateHolds();
        promise14();
        promise15();
        promise16();
        fullScrollsComeBack();
        fiveHundredAndTwelveCalls();
        Check.end("SnapshotBoundTests");
    }

    private static void twoSlots() {
        String sentence = "There are two slots";
        Script.range(sentence, NONE, "keep #", 0, 1, "IllegalArgument");
        Script.range(sentence, new String[] {"keep 0", "keep 1"}, "goBack #", 0, 1, "IllegalArgument");
        new Script(sentence, "add 1", "keep 0 = 1", "add 2", "keep 1 = 2", "add 3", "goBack 0 = 1", "goBack 1 = 2",
                "pieceOf 1 0 = 2", "goBack 0 = 1", "pieceOf 0 0 = 1");
    }

    private static void whatASnapshotHolds() {
        String sentence = "a snapshot is all";
        new Script(sentence + ": pieces", SOME).says("keep 0", "tear 0 0 0 0", "fibre 0 1 0", "hole 0 4", "hole 2 59",
                "remove 1", "add 44", "goBack 0 = 3", "piece 0 = 9[12345|54321].0.8", "piece 1 = 5[00000|00000]",
                "piece 2 = 60[55555|00000].59");
        new Script(sentence + ": the row", SOME).says("move 1 0", "row = 102", "keep 0", "move 2 0",
                "order", "goBack 0", "row = 102");
        new Script(sentence + ": settings", SOME).says("keep 0", "set 0 9", "set 1 9", "goBack 0", "setting 0 = 3",
                "setting 1 = 2");
        new Script(sentence + ": moves so far", SOME).says("count 8 = 2", "keep 0", "order", "move 0 0", "count 8 = 4",
                "goBack 0", "count 8 = 2");
        new Script(sentence + " but the buffer", SOME).says("write abc", "keep 0", "write de", "goBack 0",
                "append 33 = 6", "clearBuffer = 6", "goBack 0", "append 33 = 1");
        new Script(sentence + " but the slots", SOME).says("keep 0", "add 8", "keep 1 = 4", "goBack 0 = 3",
                "goBack 1 = 4");
        new Script(sentence + " but the slots: an empty one is not emptied", SOME).says("keep 0", "keep 1",
                "goBack 0", "goBack 1 = 3");
        new Script(sentence + " but the saved states", "add 5", "keep 0", "add 6", "add 7", "count 9 = 3",
                "goBack 0 = 1", "count 9 = 4", "undo = 3", "count 0 = 3", "undo = 2", "count 0 = 2");
        new Script(sentence + ": also of an empty scroll", "keep 0 = 0", "add 5", "set 0 8", "goBack 0 = 0",
                "row = ", "setting 0 = 1", "count 8 = 0");
    }

    private static void undoableSavesOneState() {
        String sentence = "Each method that is marked \"undoable\" saves the state from before it";
        for (String call : UNDOABLE) {
            Script script = new Script(sentence + " (also if it changes nothing)", SOME);
            script.says("keep 0").isUndoable(call);
            script.says("set 0 3", "count 9 = 6").isUndoable(call);
        }
        new Script(sentence, SOME).says("write 4[00000|00000].3").isUndoable("load").says("set 1 1").isUndoable("load");
        new Script(sentence, NONE).isUndoable("add 5").isUndoable("order").isUndoable("set 0 1");
        new Script(sentence + ": on an empty scroll", "keep 1").isUndoable("goBack 1");
    }

    private static void othersSaveNone() {
        for (String call : NOT_UNDOABLE) {
            new Script("no state is saved by what is not marked", SOME).says(call, "count 9 = 5", "undo = 4",
                    "count 8 = 1");
            new Script("no state is saved by what is not marked: six", SOME).says("set 1 7", call, "count 9 = 6");
        }
        for (String refused : REFUSED) {
            new Script("and does not throw an exception", SOME).says(refused, "count 9 = 5", "set 1 7", refused,
                    "count 9 = 6", "undo = 5", "setting 1 = 2");
        }
    }

    private static void atMostSixStates() {
        String sentence = "At most 6 states are saved; the oldest one is dropped first";
        Script script = new Script(sentence);
        for (int round = 0; round < 5; round++) {
            // Each round begins at another place of those in which six states can stand.
            for (int value = 0; value < 7 + round; value++) {
                script.says("set 1 " + value % 10, "count 9 = " + Math.min(6, value + 1));
            }
            for (int left = 5; left >= 0; left--) {
                script.says("undo = " + left, "setting 1 = " + (left + round) % 10);
            }
            script.says("undo throws IllegalState", "count 9 = 0");
        }
        Script mixed = new Script(sentence);
        for (int value = 1; value <= 9; value++) {
            mixed.says("set 0 " + value, "set 1 " + value, "undo", "setting 1 = 0", "setting 0 = " + value,
                    "count 9 = " + Math.min(value, 5));
        }
        mixed.says("undo = 4", "setting 0 = 8", "undo = 3", "undo = 2", "undo = 1", "undo = 0", "setting 0 = 4",
                "undo throws IllegalState");
    }

    private static void whatAStateHolds() {
        String sentence = "all, also what is counted so far";
        new Script(sentence, "add 5", "move 0 0", "order", "count 8 = 2", "undo = 2", "count 8 = 1", "undo = 1",
                "count 8 = 0", "order", "count 8 = 1");
        new Script("a state is all but the buffer", "add 5", "write abc", "undo = 0", "append 33 = 4", "clearBuffer = 4");
        new Script("a state is all but the slots", "add 5", "keep 0", "add 6", "keep 0 = 2", "keep 1 = 2", "undo = 1",
                "undo = 0", "goBack 0 = 2", "undo = 0", "goBack 1 = 2");
        new Script("a state is all but the saved states", "set 0 2", "set 0 3", "set 0 4", "undo = 2", "count 9 = 2",
                "set 0 5", "count 9 = 3", "undo = 2", "undo = 1", "undo = 0", "setting 0 = 1");
    }

    // ---- the promises

    private static void promise14() {
        Script.range("keep: `slot`: 0 or 1", SOME, "keep #", 0, 1, "IllegalArgument");
        new Script("in place of the one in the slot", "keep 0 = 0", "add 5", "keep 0 = 1", "add 6", "goBack 0 = 1",
                "remove 0", "keep 0 = 0", "goBack 0 = 0");
        new Script("keep: returns how many pieces there are", "keep 1 = 0", "add 5", "add 5", "add 5", "add 5", "add 5",
                "add 5", "add 5", "keep 1 = 7", "remove 0", "goBack 1 = 7", "add 5 throws IllegalState");
    }

    private static void promise15() {
        Script.refusesAll("goBack: `slot`: 0 or 1", SOME, "goBack #", "IllegalArgument", "-1", "2", "MIN", "MAX");
        Script.refusesAll("there is no snapshot in it", NONE, "goBack #", "IllegalState", "0", "1");
        new Script("there is no snapshot in it: but in the other", "keep 0", "goBack 1 throws IllegalState", "goBack 0 = 0");
        new Script("there is no snapshot in it: but in the other", "keep 1", "goBack 0 throws IllegalState", "goBack 1 = 0");
        new Script("Goes back to a snapshot, which stays", "add 5", "keep 1", "add 6", "goBack 1 = 1", "tear 0 0 0 5",
                "hole 0 4", "add 7", "order", "goBack 1 = 1", "piece 0 = 5[00000|00000]", "undo", "count 0 = 2");
    }

    private static void promise16() {
        new Script("undo: IllegalStateException if there is none", "undo throws IllegalState", "keep 0", "write ab",
                "undo throws IllegalState", "add 5", "undo = 0", "undo throws IllegalState", "append 33 = 3");
        new Script("Restores the latest saved state, and drops it", "add 5", "add 6", "undo = 1", "count 0 = 1",
                "undo = 0", "count 0 = 0");
        new Script("Restores: a full scroll", "write 4[00000|00000].0.1.2.3;4[12345|12345].0.1.2.3", "load", "remove 0",
                "remove 0", "undo = 2", "undo = 1", "piece 0 = 4[00000|00000].0.1.2.3", "piece 1 = 4[12345|12345].0.1.2.3",
                "row = 01");
    }

    /** Seven pieces with four holes each come back by undo(), and by goBack(). */
    private static void fullScrollsComeBack() {
        String[] first = {"write 60[12345|54321].0.1.2.3;60[23450|43215].4.5.6.7", "load",
            "write 60[34501|32154].8.9.10.11;60[45012|21543].12.13.14.15", "load",
            "write 60[50123|15432].16.17.18.19;60[01239|15439].20.21.22.23", "load",
            "write 60[44448|33337].56.57.58.59", "load", "move 0 6"};
        String[] last = {"row = 1234560", "piece 0 = 60[12345|54321].0.1.2.3", "piece 3 = 60[45012|21543].12.13.14.15",
            "piece 5 = 60[01239|15439].20.21.22.23", "piece 6 = 60[44448|33337].56.57.58.59", "count 5 = 28"};
        new Script("Restores: as full as can be", first).says("remove 0", "count 5 = 24", "undo").says(last);
        new Script("Goes back: as full as can be", first).says("keep 1", "remove 0", "remove 0", "hole 0 8", "order",
                "goBack 1 = 7").says(last);
        new Script("Goes back: as full as can be, in a scroll that was empty", first).says("keep 0", "remove 0",
                "remove 0", "remove 0", "remove 0", "remove 0", "remove 0", "remove 0 = 0", "add 1", "undo",
                "goBack 0 = 7").says(last);
    }

    private static void fiveHundredAndTwelveCalls() {
        Script script = new Script("An object is used for at most 512 calls");
        script.says("add 5", "keep 0");
        for (int call = 3; call <= 508; call++) {
            script.says("move 0 0 = 0");
        }
        script.says("count 8 = 506", "count 9 = 6", "goBack 0 = 1", "count 8 = 0");
    }
}
