/** Long runs of calls, the same each time, on a new object and on the model side by side. */
public final class ModelTests {
    private static final int RUNS = 400;
    private static final int CALLS = 512;
    private static final String[] CALL_NAMES = {
        "add", "tear", "fibre", "hole", "remove", "move", "order", "set", "append", "clearBuffer",
        "firstError", "load", "keep", "goBack", "undo", "pieceOf", "isHole", "at", "cost", "holeOf",
        "count", "setting", "bestBehind", "sureness", "bestPlace", "ifOrdered", "meanShrink",
        "meanCost", "digest"};
    /** How often each call comes, so that rows fill up and stay full for a while. */
    private static final int[] WEIGHTS = {
        12, 24, 12, 24, 1, 8, 2, 4, 10, 1, 8, 8, 2, 1, 3, 8, 4, 3, 4, 10, 8, 2, 4, 4, 4, 3, 4, 2, 12};

    private static final int APPEND = 8;
    private static final int CLEAR_BUFFER = 9;
    private static final int FIRST_ERROR = 10;
    private static final int LOAD = 11;

    private static long seed;
    private static int wrong = 0;

    public static void main(String[] args) {
        for (int run = 0; run < RUNS; run++) {
            seed = 7919L * run + 17;
            compareRun(run);
        }
        System.out.println(wrong == 0 ? "all runs are as the model's" : wrong + " answers are not the model's");
        if (wrong != 0) {
            System.exit(1);
        }
    }

    private static int below(int bound) {
        seed = seed * 6364136223846793005L + 1442695040888963407L;
        return (int) ((seed >>> 33) % bound);
    }

    /** Mostly from low to high, now and then beside them or far away. */
    private static int about(int low, int high) {
        int way = below(40);
        if (way == 0) {
            return low - 1;
        }
        if (way == 1) {
            return high + 1;
        }
        if (way == 2) {
            int[] far = {Integer.MIN_VALUE, Integer.MAX_VALUE, -100, 1000};
            return far[below(4)];
        }
        return low + below(high - low + 1);
    }

    private static String text() {
        StringBuilder text = new StringBuilder();
        int pieces = 1 + below(below(2) == 0 ? 4 : 2);
        for (int i = 0; i < pieces; i++) {
            int width = 1 + below(60);
            text.append(i > 0 ? ";" : "").append(width).append('[');
            for (int k = 0; k < 10; k++) {
                text.append(k == 5 ? "|" : "").append(below(k % 5 == 4 ? 10 : 6));
            }
            text.append(']');
            int place = -1;
            for (int k = below(6); k > 0 && place < width; k--) {
                place += 1 + below(1 + width / 3);
                text.append('.').append(place);
            }
        }
        for (int k = below(3); k > 0; k--) {
            String signs = "0123456789[]|.;a~!";
            text.setCharAt(below(text.length()), signs.charAt(below(signs.length())));
        }
        text.setLength(Math.min(60, below(4) == 0 ? below(text.length()) : text.length()));
        return text.toString();
    }

    private static int pick() {
        int sum = 0;
        for (int weight : WEIGHTS) {
            sum += weight;
        }
        int left = below(sum);
        int call = 0;
        while (left >= WEIGHTS[call]) {
            left -= WEIGHTS[call];
            call++;
        }
        return call;
    }

    private static void compareRun(int run) {
        ScrollPieces real = new ScrollPieces();
        Model model = new Model();
        String text = "";
        int textDone = 0;
        for (int i = 0; i < CALLS; i++) {
            int call = pick();
            int[] a = arguments(call, model);
            if (textDone < text.length()) {
                call = APPEND;
                a[0] = text.charAt(textDone);
                textDone++;
            } else if (textDone == text.length() && below(3) > 0) {
                call = below(2) == 0 ? FIRST_ERROR : LOAD;
                textDone += call == LOAD ? 1 : 0;
            } else if (call == APPEND && below(2) == 0) {
                text = text();
                textDone = 0;
                call = CLEAR_BUFFER;
            }
            String due = answer(null, model, call, a);
            String got = answer(real, null, call, a);
            if (!due.equals(got)) {
                wrong++;
                System.out.println("run " + run + ", call " + i + ": " + CALL_NAMES[call]
                        + java.util.Arrays.toString(a) + " answered " + got + ", the model " + due);
                return;
            }
        }
    }

    private static int[] arguments(int call, Model model) {
        int last = Math.max(0, model.now.pieces.size() - 1);
        int piece = about(0, last);
        int width = piece >= 0 && piece < model.now.pieces.size() ? model.now.pieces.get(piece).width : 5;
        int[] a = {piece, 0, 0, 0};
        switch (CALL_NAMES[call]) {
            case "add": a[0] = below(2) == 0 ? about(1, 60) : about(1, 12); break;
            case "tear": a[1] = about(0, 1); a[2] = about(0, 3); a[3] = about(0, 5); break;
            case "fibre": a[1] = about(0, 1); a[2] = about(0, 9); break;
            case "hole":
            case "isHole": a[1] = about(0, width - 1); break;
            case "move":
            case "cost": a[1] = about(0, last); break;
            case "set": a[0] = about(0, 1); a[1] = about(0, 9); break;
            case "append": a[0] = about(33, 126); break;
            case "keep":
            case "goBack":
            case "setting": a[0] = about(0, 1); break;
            case "pieceOf": a[1] = about(0, 13); break;
            case "at": a[0] = about(0, last + 1); break;
            case "holeOf": a[0] = about(0, Math.max(1, model.count(5))); a[1] = about(0, 4); break;
            case "count": a[0] = about(0, 9); break;
            default: break;
        }
        return a;
    }

    private static String answer(ScrollPieces x, Model m, int call, int[] a) {
        try {
            switch (CALL_NAMES[call]) {
                case "meanShrink": return "" + Float.floatToRawIntBits(x != null ? x.meanShrink() : m.meanShrink());
                case "meanCost": return "" + Double.doubleToRawLongBits(x != null ? x.meanCost() : m.meanCost());
                case "digest": return "" + (x != null ? x.digest() : m.digest());
                default: return "" + (x != null ? ask(x, call, a) : ask(m, call, a));
            }
        } catch (RuntimeException e) {
            return e.getClass().getName();
        }
    }

    private static int ask(ScrollPieces x, int call, int[] a) {
        switch (CALL_NAMES[call]) {
            case "add": return x.add(a[0]);
            case "tear": return x.tear(a[0], a[1], a[2], a[3]);
            case "fibre": return x.fibre(a[0], a[1], a[2]);
            case "hole": return x.hole(a[0], a[1]);
            case "remove": return x.remove(a[0]);
            case "move": return x.move(a[0], a[1]);
            case "order": return x.order();
            case "set": return x.set(a[0], a[1]);
            case "append": return x.append(a[0]);
            case "clearBuffer": return x.clearBuffer();
            case "firstError": return x.firstError();
            case "load": return x.load();
            case "keep": return x.keep(a[0]);
            case "goBack": return x.goBack(a[0]);
            case "undo": return x.undo();
            case "pieceOf": return x.pieceOf(a[0], a[1]);
            case "isHole": return x.isHole(a[0], a[1]);
            case "at": return x.at(a[0]);
            case "cost": return x.cost(a[0], a[1]);
            case "holeOf": return x.holeOf(a[0], a[1]);
            case "count": return x.count(a[0]);
            case "setting": return x.setting(a[0]);
            case "bestBehind": return x.bestBehind(a[0]);
            case "sureness": return x.sureness(a[0]);
            case "bestPlace": return x.bestPlace(a[0]);
            default: return x.ifOrdered();
        }
    }

    private static int ask(Model x, int call, int[] a) {
        switch (CALL_NAMES[call]) {
            case "add": return x.add(a[0]);
            case "tear": return x.tear(a[0], a[1], a[2], a[3]);
            case "fibre": return x.fibre(a[0], a[1], a[2]);
            case "hole": return x.hole(a[0], a[1]);
            case "remove": return x.remove(a[0]);
            case "move": return x.move(a[0], a[1]);
            case "order": return x.order();
            case "set": return x.set(a[0], a[1]);
            case "append": return x.append(a[0]);
            case "clearBuffer": return x.clearBuffer();
            case "firstError": return x.firstError();
            case "load": return x.load();
            case "keep": return x.keep(a[0]);
            case "goBack": return x.goBack(a[0]);
            case "undo": return x.undo();
            case "pieceOf": return x.pieceOf(a[0], a[1]);
            case "isHole": return x.isHole(a[0], a[1]);
            case "at": return x.at(a[0]);
            case "cost": return x.cost(a[0], a[1]);
            case "holeOf": return x.holeOf(a[0], a[1]);
            case "count": return x.count(a[0]);
            case "setting": return x.setting(a[0]);
            case "bestBehind": return x.bestBehind(a[0]);
            case "sureness": return x.sureness(a[0]);
            case "bestPlace": return x.bestPlace(a[0]);
            default: return x.ifOrdered();
        }
    }
}
