import java.math.BigInteger;

/** Each sentence of the promises 21, 22 and 24 to 30 that names a bound. */
public final class TellingBoundTests {
    private static final String NEW_PIECE = "[00000|00000]";
    private static final String[] NONE = {};
    private static final String[] ONE = {"add 9"};
    private static final String[] TWO = {"add 9", "add 8"};
    private static final String[] THREE = {"add 9", "add 60", "add 1"};
    private static final String[] SEVEN = {"add 60", "add 60", "add 60", "add 60", "add 60", "add 60", "add 60"};

    public static void main(String[] args) {
        promise21();
        promise21OfManyHoles();
        promise22();
        promise22Moves();
        promise24();
        promise25();
        promise26();
        promise27();
        promise28();
        promise29();
        promise30();
        promise30Overflow();
        promise30OfAPiece();
        Check.end("TellingBoundTests");
    }

    private static Script sevenWithFourHoles(String sentence) {
        Script script = new Script(sentence, SEVEN);
        for (int piece = 0; piece < 7; piece++) {
            for (int place = 3; place >= 0; place--) {
                script.says("hole " + piece + " " + place);
            }
        }
        return script;
    }

    private static void promise21() {
        Script.refusesAll("holeOf: rank is below 0", THREE, "holeOf # 0", "IllegalArgument", "-1", "-2", "MIN");
        String[] made = {"add 60", "hole 0 0", "hole 0 20", "hole 0 54"};
        Script.range("holeOf: what is not 0 to 4", made, "holeOf 1 #", 0, 4, "IllegalArgument");
        Script.range("holeOf: what is not 0 to 4", NONE, "holeOf 0 #", 0, 4, "IllegalArgument");
        for (int what = 0; what <= 4; what++) {
            new Script("NONE if there are not so many holes", NONE).says("holeOf 0 " + what + " = -1",
                    "holeOf MAX " + what + " = -1");
            new Script("NONE if there are not so many holes", made).says("holeOf 3 " + what + " = -1",
                    "holeOf MAX " + what + " = -1").onlyLooks("holeOf 1 " + what);
        }
        new Script("the distance to the next one, NONE for the last one", made).says("holeOf 0 2 = 20",
                "holeOf 1 2 = 34", "holeOf 2 2 = -1");
        new Script("1 if this distance is wrong, otherwise 0", made).says("holeOf 0 3 = 0", "holeOf 1 3 = 1",
                "holeOf 2 3 = 0", "set 0 0", "set 1 9", "holeOf 1 3 = 1", "hole 0 54", "hole 0 49", "holeOf 1 3 = 0");
        new Script("0 if it is not wrong, or none are told", made).says("holeOf 0 4 = 0", "holeOf 1 4 = 1",
                "holeOf 2 4 = 0", "hole 0 54", "hole 0 30", "holeOf 1 3 = 1", "holeOf 1 4 = 0", "hole 0 30",
                "hole 0 39", "holeOf 1 3 = 0", "holeOf 1 4 = 0");
    }

    private static void promise21OfManyHoles() {
        sevenWithFourHoles("from 0, from the left to the right").says("holeOf 0 0 = 0", "holeOf 3 0 = 3",
                "holeOf 4 0 = 60", "holeOf 27 0 = 363", "holeOf 27 1 = 6", "holeOf 27 2 = -1", "holeOf 27 3 = 0",
                "holeOf 27 4 = 0", "holeOf 28 0 = -1", "holeOf 28 1 = -1", "holeOf 26 2 = 1", "holeOf 23 2 = 57");
        sevenWithFourHoles("from 0, from the left to the right").says("move 6 0", "holeOf 0 1 = 6", "holeOf 3 1 = 6",
                "holeOf 4 1 = 0", "holeOf 27 1 = 5", "remove 6", "holeOf 0 1 = 0", "holeOf 24 0 = -1");
    }

    private static void promise22() {
        Script.range("count: what is not 0 to 9", NONE, "count #", 0, 9, "IllegalArgument");
        Script.range("count: what is not 0 to 9", SEVEN, "count #", 0, 9, "IllegalArgument");
        new Script("count: the most of all", SEVEN).says("count 0 = 7", "count 1 = 420", "count 2 = 120", "count 9 = 6");
        sevenWithFourHoles("count 5: holes").says("count 5 = 28", "hole 3 0", "count 5 = 27");
        sevenWithFourHoles("count 6: wrong distances, behind the first one").says("set 0 9", "count 6 = 26",
                "set 0 0", "count 6 = 12", "set 1 9", "count 6 = 12", "count 7 = 0");
        new Script("count 7: turns that are lacking, together", "add 60", "add 60", "set 0 0", "hole 0 0", "hole 0 2",
                "hole 0 14", "count 7 = 5", "hole 0 54", "count 7 = 8", "hole 1 0", "hole 1 36", "count 7 = 13",
                "hole 1 36", "hole 1 37", "count 7 = 8");
        for (String[] made : new String[][] {NONE, ONE}) {
            new Script("count: no joins", made).says("count 2 = 0", "count 3 = 0", "count 4 = 0");
        }
        String least = "the least cost of all rows";
        new Script(least, TWO).says("fibre 1 0 9", "count 2 = 38", "count 3 = 20", "count 4 = 20", "row = 01");
        new Script(least, SEVEN).says("fibre 6 0 9", "count 2 = 138", "count 3 = 120", "count 4 = 120", "fibre 3 1 9",
                "fibre 3 0 9", "count 2 = 174", "count 3 = 120", "count 4 = 120", "fibre 1 0 9", "count 2 = 192",
                "count 3 = 138", "count 4 = 138").onlyLooks("count 3").onlyLooks("count 4");
        String[] changes = {"fibre 1 0 9", "remove 2", "add 5", "undo", "move 0 1"};
        int[] costs = {20 + 20, 20, 40, 20, 20};
        for (int way = 3; way <= 4; way++) {
            Script script = new Script(least + ", each told by itself", THREE);
            for (int i = 0; i < changes.length; i++) {
                script.says(changes[i], "count " + way + " = " + costs[i]);
            }
            script.says("fibre 0 0 9", "count " + way + " = 38", "fibre 0 1 8", "count " + way + " = 22");
        }
        new Script("count 9: saved states", "count 9 = 0", "add 1", "count 9 = 1", "add 1", "add 1", "add 1", "add 1",
                "count 9 = 5", "add 1", "count 9 = 6", "add 1", "count 9 = 6", "undo", "count 9 = 5");
    }

    private static void promise22Moves() {
        new Script("moves so far, by move() and order()", TWO).says("count 8 = 0", "move 0 1", "count 8 = 1", "order",
                "count 8 = 2", "move 0 0", "move 0 0", "order", "count 8 = 5", "move 0 2 throws IllegalArgument",
                "move 2 0 throws IndexOutOfBounds", "count 8 = 5", "bestPlace 0", "ifOrdered", "remove 0",
                "write 5" + NEW_PIECE, "load", "keep 0", "goBack 0", "count 8 = 5");
    }

    private static void promise24() {
        Script.range("bestBehind: `piece`: its number", THREE, "bestBehind #", 0, 2, "IndexOutOfBounds");
        Script.refusesAll("bestBehind: no piece at all", NONE, "bestBehind #", "IndexOutOfBounds", "0", "-1", "MAX");
        new Script("NONE if there is no other piece", ONE).says("bestBehind 0 = -1", "add 5", "bestBehind 0 = 1",
                "bestBehind 1 = 0", "remove 1", "bestBehind 0 = -1");
        new Script("bestBehind: of several the lowest", SEVEN).says("bestBehind 0 = 1", "bestBehind 1 = 0",
                "bestBehind 6 = 0", "tear 5 0 0 1", "tear 6 0 0 1", "bestBehind 0 = 5", "bestBehind 5 = 6",
                "bestBehind 6 = 5", "tear 6 0 1 1", "bestBehind 0 = 6").onlyLooks("bestBehind 0");
    }

    private static void promise25() {
        Script.range("sureness: `piece`: its number", THREE, "sureness #", 0, 2, "IndexOutOfBounds");
        Script.refusesAll("sureness: no piece at all", NONE, "sureness #", "IndexOutOfBounds", "0", "-1", "MAX");
        String few = "NONE if there are not two other pieces";
        new Script(few, ONE).says("sureness 0 = -1");
        new Script(few, TWO).says("sureness 0 = -1", "sureness 1 = -1", "add 7", "sureness 0 = 0", "remove 0",
                "sureness 0 = -1");
        new Script("0, if both are alike", SEVEN).says("sureness 3 = 0", "tear 5 0 0 1", "sureness 3 = 1",
                "sureness 5 = 0", "tear 6 0 0 1", "sureness 3 = 0", "sureness 5 = 1", "tear 6 0 1 5", "sureness 3 = 5")
                .onlyLooks("sureness 3");
        new Script("the second least one is that of the first piece", SEVEN).says("tear 0 0 0 3", "tear 6 0 0 5",
                "sureness 3 = 2", "sureness 6 = 3", "sureness 0 = 5");
        new Script("the second least one is that of the last piece", SEVEN).says("tear 6 0 0 3", "tear 0 0 0 5",
                "sureness 3 = 2", "sureness 0 = 3", "sureness 6 = 5");
        new Script("sureness: the greatest", THREE).says("fibre 0 1 9", "fibre 1 0 9", "tear 1 0 0 5", "tear 1 0 1 5",
                "tear 1 0 2 5", "tear 1 0 3 5", "sureness 0 = 38");
    }

    private static void promise26() {
        Script.range("bestPlace: `piece`: its number", THREE, "bestPlace #", 0, 2, "IndexOutOfBounds");
        Script.refusesAll("bestPlace: no piece at all", NONE, "bestPlace #", "IndexOutOfBounds", "0", "-1", "MAX");
        new Script("bestPlace: of one piece", ONE).says("bestPlace 0 = 0");
        new Script("bestPlace: of several the lowest", SEVEN).says("bestPlace 0 = 0", "bestPlace 6 = 0", "bestPlace 3 = 0",
                "tear 3 0 0 5", "bestPlace 3 = 1", "tear 4 0 0 5", "bestPlace 3 = 1", "bestPlace 0 = 0", "move 3 0",
                "bestPlace 3 = 1").onlyLooks("bestPlace 3");
        new Script("bestPlace: the last place", SEVEN).says("fibre 6 1 1", "fibre 0 0 2", "bestPlace 0 = 0", "fibre 0 0 1",
                "fibre 5 0 1", "bestPlace 0 = 0", "fibre 5 0 0", "tear 0 0 0 5", "bestPlace 0 = 6");
    }

    private static void promise27() {
        new Script("ifOrdered: of no pieces", NONE).says("ifOrdered = 0");
        new Script("ifOrdered: of one piece", "write 60" + NEW_PIECE + ".0.20.39.57", "load", "ifOrdered = 0", "set 0 2",
                "ifOrdered = 2", "order", "count 6 = 2");
        // Alike in cost, so the row 01 is the one: distances 8, 9, 8.
        new Script("ifOrdered: of several the first one", "write 9" + NEW_PIECE + ".0.8;60" + NEW_PIECE + ".8.16", "load",
                "move 1 0", "count 6 = 2", "ifOrdered = 1", "row = 10", "order", "count 6 = 1").onlyLooks("ifOrdered");
    }

    private static void promise28() {
        String few = "0.0f with fewer than two distances";
        new Script(few, "meanShrink = 0.0", "add 60", "meanShrink = 0.0", "hole 0 9", "meanShrink = 0.0", "hole 0 40",
                "meanShrink = 0.0", "hole 0 45", "meanShrink = 26.0", "hole 0 40", "meanShrink = 0.0");
        new Script("the first distance less the last one", "add 60", "hole 0 0", "hole 0 5", "hole 0 10",
                "meanShrink = 0.0", "hole 0 59", "meanShrink = -22.0", "hole 0 0", "meanShrink = -44.0")
                .onlyLooks("meanShrink");
        sevenWithFourHoles("divided by the distances less 1").says("meanShrink = 0.0", "hole 6 3", "hole 6 5",
                "meanShrink = " + (1 - 3) / 26.0f, "hole 0 1", "hole 0 59", "meanShrink = " + (2 - 3) / 26.0f);
    }

    private static void promise29() {
        new Script("0.0 with fewer than two pieces", "meanCost = 0.0", "add 5", "meanCost = 0.0", "add 5",
                "meanCost = 20.0", "remove 1", "meanCost = 0.0", "remove 0", "meanCost = 0.0");
        new Script("divided by the pieces less 1", SEVEN).says("meanCost = 20.0", "tear 1 0 0 1",
                "meanCost = " + 119 / 6.0, "move 1 0", "meanCost = 20.0").onlyLooks("meanCost");
        new Script("a row that costs nothing", "write 5[00000|55550];5[00000|55550]", "load", "meanCost = 0.0");
    }

    // ---- the hash

    private static String hash(long... values) {
        BigInteger hash = BigInteger.valueOf(3541);
        for (long value : values) {
            hash = hash.multiply(BigInteger.valueOf(31)).add(BigInteger.valueOf(value));
        }
        return "" + hash.longValue();
    }

    private static void promise30() {
        new Script("The hash of a new object", "digest = " + hash(0, 0, 0, 0, 0, 0, 0, 0, 0, 0, 1, 0, 0, 0, 0, 0, 0, 0));
        String slots = "for each slot 1 if it has a snapshot, otherwise 0";
        new Script(slots, "keep 0", "digest = " + hash(0, 0, 0, 0, 0, 0, 0, 0, 0, 0, 1, 0, 0, 0, 0, 1, 0, 0));
        new Script(slots, "keep 1", "digest = " + hash(0, 0, 0, 0, 0, 0, 0, 0, 0, 0, 1, 0, 0, 0, 0, 0, 1, 0), "keep 0",
                "digest = " + hash(0, 0, 0, 0, 0, 0, 0, 0, 0, 0, 1, 0, 0, 0, 0, 1, 1, 0)).onlyLooks("digest");
        new Script("the length of the buffer and each of its character codes", "write !~",
                "digest = " + hash(0, 0, 0, 0, 0, 0, 0, 0, 0, 0, 1, 0, 0, 0, 0, 0, 0, 2, 33, 126), "clearBuffer",
                "digest = " + hash(0, 0, 0, 0, 0, 0, 0, 0, 0, 0, 1, 0, 0, 0, 0, 0, 0, 0));
        new Script("the settings 0 and 1", "set 0 7", "set 1 9",
                "digest = " + hash(0, 0, 0, 0, 0, 0, 0, 0, 0, 2, 7, 9, 0, 0, 0, 0, 0, 0));
    }

    private static void promise30Overflow() {
        long[] values = new long[78];
        values[10] = 1;
        values[17] = 60;
        for (int i = 18; i < 78; i++) {
            values[i] = 126;
        }
        new Script("in long arithmetic with overflow", "write " + "~".repeat(60), "digest = " + hash(values));
    }

    /** The distances are 1 and 3, so the bits of the mean are those of a negative number. */
    private static void promise30OfAPiece() {
        new Script("the bits of meanShrink, for each hole its numbers", "add 9", "hole 0 0", "hole 0 1", "hole 0 4",
                "digest = " + hash(1, 9, 0, 0, 0, 3, 1, 0, 0, 4, 1, 0,
                        9, 0, 0, 0, 0, 0, 0, 0, 0, 0, 0, 3, 0, 0, -1, -1, 0, 0,
                        0, 0, 1, 0, 0, 1, 0, 3, 1, 0, 4, 0, -1, 0, 0,
                        1, Float.floatToIntBits(-2.0f), 0, 0, 0, 0));
        new Script("the bits of meanCost, for each piece, the row", "add 9", "add 8", "move 1 0",
                "digest = " + hash(2, 17, 20, 20, 20, 0, 0, 0, 1, 3, 1, 0,
                        9, 0, 0, 0, 0, 0, 0, 0, 0, 0, 0, 0, 1, 8, 1, -1, 0,
                        8, 0, 0, 0, 0, 0, 0, 0, 0, 0, 0, 0, 0, 0, 0, -1, 0,
                        1, 0, 0, 0, Double.doubleToLongBits(20.0), 0, 0, 0));
        // The row stays 10, though the cheapest one is 01: distances 10 and 3 here, and 3 and 8 there.
        new Script("meanShrink is that of the row, behind ifOrdered", "add 9", "add 8", "hole 0 2", "hole 0 5", "move 1 0",
                "hole 1 0", "meanShrink = 7.0", "ifOrdered = 1",
                "digest = " + hash(2, 17, 20, 20, 20, 3, 1, 0, 1, 6, 1, 0,
                        9, 0, 0, 0, 0, 0, 0, 0, 0, 0, 0, 2, 1, 8, 1, -1, 0,
                        8, 0, 0, 0, 0, 0, 0, 0, 0, 0, 0, 1, 0, 0, 0, -1, 0,
                        1, 0, 0, 1, 10, 0, 0, 10, 0, 3, 1, 0, 13, 0, -1, 0, 0,
                        1, Float.floatToIntBits(7.0f), Double.doubleToLongBits(20.0), 0, 0, 0));
    }
}
