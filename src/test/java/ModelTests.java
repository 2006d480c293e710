import java.lang.reflect.InvocationTargetException;
import java.lang.reflect.Method;
import java.lang.reflect.Modifier;
import java.util.Arrays;
import java.util.HashMap;
import java.util.Map;

/** Long runs of calls, the same each time, on a new object and on the model side by side. */
public final class ModelTests {
    private static final int RUNS = 400;
    private static final int CALLS = 512;
    private static final String[] CALL_NAMES = {
        "add", "tear", "fibre", "hole", "remove", "move", "order", "set", "append", "clearBuffer",
        "firstError", "load", "keep", "goBack", "undo", "pieceOf", "isHole", "at", "cost", "holeOf",
        "count", "setting", "bestBehind", "sureness", "bestPlace", "ifOrdered", "meanShrink",
        "meanCost", "digest"};
    /** How often each call comes, so that rows fill up and stay full for a while. */
    private static final int[] WEIGHTS = {
        12, 24, 12, 24, 1, 8, 2, 4, 10, 1, 8, 8, 2, 1, 3, 8, 4, 3, 4, 10, 8, 2, 4, 4, 4, 3, 4, 2, 12};

    private static final int APPEND = 8;
    private static final int CLEAR_BUFFER = 9;
    private static final int FIRST_ERROR = 10;
    private static final int LOAD = 11;

    private static final Map<String, Method> REAL = methodsOf(ScrollPieces.class);
    private static final Map<String, Method> MODEL = methodsOf(Model.class);

    private static long seed;
    private static int wrong = 0;

    public static void main(String[] args) throws ReflectiveOperationException {
        for (int run = 0; run < RUNS; run++) {
            seed = 7919L * run + 17;
            compareRun(run);
        }
        System.out.println(wrong == 0 ? "all runs are as the model's" : wrong + " answers are not the model's");
        if (wrong != 0) {
            System.exit(1);
        }
    }

    private static int below(int bound) {
        seed = seed * 6364136223846793005L + 1442695040888963407L;
        return (int) ((seed >>> 33) % bound);
    }

    /** Mostly from low to high, now and then beside them or far away. */
    private static int about(int low, int high) {
        int way = below(40);
        if (way == 0) {
            return low - 1;
        }
        if (way == 1) {
            return high + 1;
        }
        if (way == 2) {
            int[] far = {Integer.MIN_VALUE, Integer.MAX_VALUE, -100, 1000};
            return far[below(4)];
        }
        return low + below(high - low + 1);
    }

    private static String text() {
        StringBuilder text = new StringBuilder();
        int pieces = 1 + below(below(2) == 0 ? 4 : 2);
        for (int i = 0; i < pieces; i++) {
            int width = 1 + below(60);
            text.append(i > 0 ? ";" : "").append(width).append('[');
            for (int k = 0; k < 10; k++) {
                text.append(k == 5 ? "|" : "").append(below(k % 5 == 4 ? 10 : 6));
            }
            text.append(']');
            int place = -1;
            for (int k = below(6); k > 0 && place < width; k--) {
                place += 1 + below(1 + width / 3);
                text.append('.').append(place);
            }
        }
        for (int k = below(3); k > 0; k--) {
            String signs = "0123456789[]|.;a~!";
            text.setCharAt(below(text.length()), signs.charAt(below(signs.length())));
        }
        text.setLength(Math.min(60, below(4) == 0 ? below(text.length()) : text.length()));
        return text.toString();
    }

    private static int pick() {
        int sum = 0;
        for (int weight : WEIGHTS) {
            sum += weight;
        }
        int left = below(sum);
        int call = 0;
        while (left >= WEIGHTS[call]) {
            left -= WEIGHTS[call];
            call++;
        }
        return call;
    }

    private static void compareRun(int run) throws ReflectiveOperationException {
        ScrollPieces real = new ScrollPieces();
        Model model = new Model();
        String text = "";
        int textDone = 0;
        for (int i = 0; i < CALLS; i++) {
            int call = pick();
            int[] a = arguments(call, model);
            if (textDone < text.length()) {
                call = APPEND;
                a[0] = text.charAt(textDone);
                textDone++;
            } else if (textDone == text.length() && below(3) > 0) {
                call = below(2) == 0 ? FIRST_ERROR : LOAD;
                textDone += call == LOAD ? 1 : 0;
            } else if (call == APPEND && below(2) == 0) {
                text = text();
                textDone = 0;
                call = CLEAR_BUFFER;
            }
            String due = answer(model, CALL_NAMES[call], a);
            String got = answer(real, CALL_NAMES[call], a);
            if (!due.equals(got)) {
                wrong++;
                System.out.println("run " + run + ", call " + i + ": " + CALL_NAMES[call]
                        + Arrays.toString(a) + " answered " + got + ", the model " + due);
                return;
            }
        }
    }

    private static int[] arguments(int call, Model model) {
        int last = Math.max(0, model.now.pieces.size() - 1);
        int piece = about(0, last);
        int width = piece >= 0 && piece < model.now.pieces.size() ? model.now.pieces.get(piece).width : 5;
        int[] a = {piece, 0, 0, 0};
        switch (CALL_NAMES[call]) {
            case "add": a[0] = below(2) == 0 ? about(1, 60) : about(1, 12); break;
            case "tear": a[1] = about(0, 1); a[2] = about(0, 3); a[3] = about(0, 5); break;
            case "fibre": a[1] = about(0, 1); a[2] = about(0, 9); break;
            case "hole":
            case "isHole": a[1] = about(0, width - 1); break;
            case "move":
            case "cost": a[1] = about(0, last); break;
            case "set": a[0] = about(0, 1); a[1] = about(0, 9); break;
            case "append": a[0] = about(33, 126); break;
            case "keep":
            case "goBack":
            case "setting": a[0] = about(0, 1); break;
            case "pieceOf": a[1] = about(0, 13); break;
            case "at": a[0] = about(0, last + 1); break;
            case "holeOf": a[0] = about(0, Math.max(1, model.count(5))); a[1] = about(0, 4); break;
            case "count": a[0] = about(0, 9); break;
            default: break;
        }
        return a;
    }

    /** The same call by its name, on the object or on the model; an exception answers with its class. */
    private static String answer(Object target, String name, int[] a) throws ReflectiveOperationException {
        Method method = target instanceof Model ? MODEL.get(name) : REAL.get(name);
        Object[] arguments = new Object[method.getParameterCount()];
        for (int i = 0; i < arguments.length; i++) {
            arguments[i] = a[i];
        }
        try {
            Object answer = method.invoke(target, arguments);
            if (answer instanceof Float) {
                return "float " + Float.floatToRawIntBits((Float) answer);
            }
            return answer instanceof Double ? "double " + Double.doubleToRawLongBits((Double) answer) : "" + answer;
        } catch (InvocationTargetException e) {
            return e.getCause().getClass().getName();
        }
    }

    private static Map<String, Method> methodsOf(Class<?> type) {
        Map<String, Method> methods = new HashMap<>();
        for (Method method : type.getDeclaredMethods()) {
            if (!Modifier.isPrivate(method.getModifiers())) {
                methods.put(method.getName(), method);
            }
        }
        return methods;
    }
}
