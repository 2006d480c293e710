/** Each sentence of "Input text" that names a bound, and the promises 10 to 13. */
public final class TextBoundTests {
    private static final String EDGES = "[00000|00000]";
    private static final String SIXTY = "60" + EDGES;
    private static final String[] NONE = {};

    public static void main(String[] args) {
        buffer();
        oneOrMorePieces();
        widths();
        edges();
        manyHoles();
        places();
        placesThatGrow();
        readFromTheLeft();
        ofAnyLength();
        promise10();
        promise11And12();
        promise13();
        promise13Together();
        Check.end("TextBoundTests");
    }

    /** Each character of the text is fine, and it can be loaded. */
    private static void whole(String sentence, String text, int pieces) {
        new Script(sentence, "write " + text, "firstError = " + text.length(), "load = " + pieces,
                "count 0 = " + pieces, "clearBuffer = 0");
    }

    /** Each character of the text is fine, but it tells no pieces yet. */
    private static void begun(String sentence, String text) {
        new Script(sentence, "write " + text, "firstError = " + text.length(), "load throws IllegalArgument");
    }

    /** The characters of the text are fine, and each of the others behind it is the first error. */
    private static void errors(String sentence, String text, String others) {
        for (char other : others.toCharArray()) {
            Script script = new Script(sentence);
            if (!text.isEmpty()) {
                script.says("write " + text);
            }
            script.says("firstError = " + text.length(), "append " + (int) other, "firstError = " + text.length(),
                    "load throws IllegalArgument", "append 48", "firstError = " + text.length());
        }
    }

    private static void buffer() {
        String full = "~".repeat(30) + "!".repeat(29);
        new Script("The buffer has at most 60 characters", "write " + full, "append 49 = 60",
                "append 49 throws IllegalState", "append 126 throws IllegalState", "clearBuffer = 60",
                "append 49 = 1", "firstError = 1");
    }

    private static void oneOrMorePieces() {
        String sentence = "one or more of these with \";\" between them";
        new Script(sentence + ": an empty buffer", "firstError = 0", "load throws IllegalArgument");
        whole(sentence, "1" + EDGES, 1);
        whole(sentence, "1" + EDGES + ";1" + EDGES, 2);
        whole(sentence, "1" + EDGES + ";2" + EDGES + ";3" + EDGES + ";4" + EDGES, 4);
        whole(sentence, "2" + EDGES + ".0.1;2" + EDGES + ".1", 2);
        begun(sentence, "1" + EDGES + ";");
        begun(sentence, "1" + EDGES + ".0;");
        errors(sentence, "", ";");
        errors(sentence, "1" + EDGES + ";", ";");
        errors(sentence, "1" + EDGES, "012345678969,:[]|!~");
        errors(sentence, "2" + EDGES + ".1", ",:[]|!~");
    }

    private static void widths() {
        String range = "a width, 1 to 60";
        String zeros = "a width, without leading zeros";
        for (int width = 1; width <= 60; width++) {
            whole(range, width + EDGES, 1);
            begun(range, "" + width);
        }
        errors(range, "6", "123456789");
        errors(range, "7", "0123456789");
        errors(range, "9", "0123456789");
        errors(range, "10", "0123456789");
        errors(range, "60", "0123456789");
        errors(range + ": none at all", "", "[]|.:/!~a");
        errors(range, "5", "]|.;:/!~a");
        errors(range, "1" + EDGES + ";6", "123456789");
        errors(zeros, "", "0");
        errors(zeros, "1" + EDGES + ";", "0");
    }

    private static void edges() {
        String sentence = "\"[\", four heights, a fibre, \"|\", four heights, a fibre, \"]\"";
        String text = "1[05059|50509]";
        for (int length = 1; length < text.length(); length++) {
            begun(sentence, text.substring(0, length));
        }
        whole(sentence, text, 1);
        new Script("those of the left edge, then those of the right edge", "write 1[01234|54329]", "load",
                "pieceOf 0 1 = 0", "pieceOf 0 4 = 3", "pieceOf 0 5 = 4", "pieceOf 0 6 = 5", "pieceOf 0 9 = 2",
                "pieceOf 0 10 = 9");
        for (int edge = 2; edge <= 8; edge += 6) {
            for (int rank = 0; rank < 4; rank++) {
                errors("a height, 0 to 5", text.substring(0, edge + rank), "6789/:[]|.;!~a");
            }
            errors("a fibre, 0 to 9", text.substring(0, edge + 4), "/:[]|.;!~a");
        }
        errors("four heights, a fibre, and then \"|\"", text.substring(0, 7), "05[].;!~a{}");
        errors("four heights, a fibre, and then \"]\"", text.substring(0, 13), "05[|.;!~a{}");
    }

    private static void manyHoles() {
        String most = "any number of holes, at most 4";
        whole(most, SIXTY, 1);
        whole(most, SIXTY + ".0", 1);
        whole(most, SIXTY + ".0.1.2.3", 1);
        errors(most, SIXTY + ".0.1.2.3", ".");
        errors(most, SIXTY + ".1.2.3.44", ".");
        errors(most, SIXTY + ".0.1.2.3;" + SIXTY + ".0.1.2.3", ".");
        String behind = "none behind one at the width less 1";
        for (int width = 1; width <= 60; width++) {
            whole(behind, width + EDGES + "." + (width - 1), 1);
            errors(behind, width + EDGES + "." + (width - 1), ".");
            if (width > 1) {
                begun(behind, width + EDGES + "." + (width - 2) + ".");
                whole(behind, width + EDGES + "." + (width - 2) + "." + (width - 1), 1);
            }
        }
        errors(behind, "7" + EDGES + ".2.5.6", ".");
        errors(behind, "60" + EDGES + ".2;3" + EDGES + ".2", ".");
    }

    private static void places() {
        String less = "a place, less than the width";
        errors(less, "1" + EDGES + ".", "123456789");
        errors(less, "9" + EDGES + ".", "9");
        errors(less, "10" + EDGES + ".1", "0123456789");
        errors(less, "11" + EDGES + ".1", "123456789");
        errors(less, SIXTY + ".6", "0123456789");
        errors(less, SIXTY + ".59", "0123456789");
        errors(less, "59" + EDGES + ".5", "9");
        whole(less, "59" + EDGES + ".58", 1);
        errors(less, SIXTY + ";9" + EDGES + ".", "9");
        errors("\".\" and a place", SIXTY + ".", ".;[]|/:!~a");
        begun("\".\" and a place", SIXTY + ".");
        begun("\".\" and a place", SIXTY + ".0.");
        String zeros = "a place, without leading zeros";
        whole(zeros, SIXTY + ".0", 1);
        whole(zeros, SIXTY + ".10", 1);
        errors(zeros, SIXTY + ".0", "0123456789");
        errors(zeros, SIXTY + ";" + SIXTY + ".0", "0123456789");
    }

    private static void placesThatGrow() {
        String greater = "each greater than the one ahead of it";
        errors(greater, "9" + EDGES + ".4.", "01234");
        whole(greater, "9" + EDGES + ".4.5", 1);
        errors(greater, SIXTY + ".0.", "0");
        errors(greater, SIXTY + ".10.1", "0;.");
        whole(greater, SIXTY + ".10.11", 1);
        begun(greater, SIXTY + ".58.5");
        errors(greater, SIXTY + ".58.5", "012345678;.");
        errors(greater, SIXTY + ".58.", "012346789");
        begun(greater, SIXTY + ".6.5");
        errors(greater, SIXTY + ".6.5", ".;");
        whole(greater, SIXTY + ".6.50", 1);
        for (int tens = 1; tens <= 4; tens++) {
            errors(greater, SIXTY + "." + tens + "9.", "1234".substring(0, tens));
            begun(greater, SIXTY + "." + tens + "8." + tens);
            errors(greater, SIXTY + "." + tens + "8." + tens, "012345678");
            whole(greater, SIXTY + "." + tens + "8." + tens + "9", 1);
        }
        errors(greater, "50" + EDGES + ".6.", "056");
        errors(greater, "50" + EDGES + ".49;50" + EDGES + ".48.", "012356789");
        whole(greater + "; a piece begins anew", "9" + EDGES + ".8;9" + EDGES + ".0", 2);
    }

    private static void readFromTheLeft() {
        new Script("The buffer is read from left to right", "write x", "firstError = 0",
                "write 1" + EDGES, "firstError = 0", "load throws IllegalArgument", "clearBuffer = 15",
                "write 1" + EDGES + "x", "firstError = 14", "write xx;;", "firstError = 14");
    }

    private static void ofAnyLength() {
        String sentence = "no pieces as a text, of any length, begin with the characters";
        String four = ("1" + EDGES + ";").repeat(4);
        new Script(sentence, "write " + four, "clearBuffer = 60");
        begun(sentence + ": a full buffer that would go on", four);
        begun(sentence + ": a full buffer that ends in a piece", (SIXTY + ";").repeat(4).substring(0, 60));
        whole(sentence + ": a full buffer that is a text", "60" + four.substring(1, 59), 4);
        new Script(sentence + ": more pieces than there is room for", "add 1", "add 1", "add 1", "add 1", "add 1",
                "add 1", "add 1", "write 1" + EDGES, "firstError = 14", "append 59", "firstError = 15");
    }

    // ---- the promises

    private static void promise10() {
        Script.range("`code`: 33 to 126", NONE, "append #", 33, 126, "IllegalArgument");
        Script.refusesAll("`code`: 33 to 126", NONE, "append #", "IllegalArgument", "0", "65584", "-65487");
        new Script("Returns the new length of the buffer", "append 33 = 1", "append 126 = 2", "append 48 = 3");
        String full = "1".repeat(60);
        new Script("IllegalStateException if the buffer has 60 characters", "write " + full,
                "append 33 throws IllegalState", "append 126 throws IllegalState");
        new Script("append: the one that is named first", "write " + full, "append 32 throws IllegalArgument",
                "append 127 throws IllegalArgument", "append MAX throws IllegalArgument");
    }

    private static void promise11And12() {
        new Script("Returns the length that it had", "clearBuffer = 0", "append 40 = 1", "clearBuffer = 1",
                "write " + "z".repeat(60), "clearBuffer = 60", "clearBuffer = 0");
        new Script("the length of the buffer if there is none", "firstError = 0", "write 1", "firstError = 1")
                .onlyLooks("firstError");
        new Script("the index of the first character", "write " + "x".repeat(60), "firstError = 0")
                .onlyLooks("firstError");
        new Script("the index of the first character", "write 1" + EDGES + ";1" + EDGES + ";1" + EDGES + ";1" + EDGES + "x",
                "firstError = 59");
    }

    private static void promise13() {
        String order = "in their order, at the end of the row, and clears the buffer";
        new Script(order, "add 9", "add 8", "move 1 0", "write 7[12345|00000].0.6;6[00000|12345]", "load = 4",
                "row = 1023", "piece 2 = 7[12345|00000].0.6", "piece 3 = 6[00000|12345]", "clearBuffer = 0");
        new Script("Undoable, as one call", "add 9", "write 7" + EDGES + ";6" + EDGES + ";5" + EDGES, "load = 4",
                "count 9 = 2", "undo = 1", "count 0 = 1", "clearBuffer = 0");
        new Script("Undoable, as one call", "write 7" + EDGES + ".3;6" + EDGES).isUndoable("load");
        String six = "IllegalStateException if there would be more than 7";
        String[] made = {"add 1", "add 1", "add 1", "add 1", "add 1"};
        new Script(six, made).says("write 1" + EDGES + ";1" + EDGES, "load = 7");
        new Script(six, made).says("write 1" + EDGES + ";1" + EDGES + ";1" + EDGES, "load throws IllegalState",
                "firstError = 44", "clearBuffer = 44", "write 1" + EDGES + ";1" + EDGES, "load = 7",
                "write 1" + EDGES, "load throws IllegalState", "clearBuffer = 14");
        new Script("load: the one that is named first", made).says("add 1", "add 1", "load throws IllegalArgument",
                "write 1" + EDGES + ";", "load throws IllegalArgument", "clearBuffer = 15");
    }

    /** The fullest text of each kind, and nothing of what stood in the numbers before. */
    private static void promise13Together() {
        String most = "60[55559|55559].0.1.58.59;60[55559|55559].56.57.58.59";
        new Script("load: the most of all", "write " + most, "load = 2",
                "piece 0 = 60[55559|55559].0.1.58.59", "piece 1 = 60[55559|55559].56.57.58.59", "count 5 = 8");
        new Script("load: nothing of a removed piece is left", "write " + most, "load = 2", "remove 0", "remove 0",
                "write 60" + EDGES + ";1" + EDGES, "load = 2", "piece 0 = 60" + EDGES, "piece 1 = 1" + EDGES);
    }
}
