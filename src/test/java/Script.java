import java.lang.reflect.InvocationTargetException;
import java.lang.reflect.Method;
import java.lang.reflect.Modifier;
import java.util.ArrayList;
import java.util.HashMap;
import java.util.List;
import java.util.Map;

/**
 * A run of calls on a new object, told by lines: "add 20", with the answer that is due "add 20 = 0",
 * or "add 61 throws IllegalArgument". Two more looks are "row" and "piece 0", and "write abc" appends
 * each character. Behind a call that throws, the object is compared with one that never had that call.
 */
final class Script {
    private static final Map<String, Method> METHODS = methods();

    private final String sentence;
    private final ScrollPieces x = new ScrollPieces();
    private final List<String> said = new ArrayList<>();

    /** The sentence is the document's, as far as the test needs it; it stands ahead of what is wrong. */
    Script(String sentence, String... lines) {
        this.sentence = sentence;
        says(lines);
    }

    private static Map<String, Method> methods() {
        Map<String, Method> methods = new HashMap<>();
        for (Method method : ScrollPieces.class.getDeclaredMethods()) {
            if (Modifier.isPublic(method.getModifiers())) {
                methods.put(method.getName(), method);
            }
        }
        return methods;
    }

    Script says(String... lines) {
        for (String line : lines) {
            say(line);
        }
        return this;
    }

    private void say(String line) {
        String[] refused = line.split(" throws ");
        String[] due = line.split(" = ", -1);
        if (refused.length == 2) {
            refuses(refused[0], refused[1] + "Exception");
        } else {
            String got = answer(x, due[0]);
            String wanted = due.length == 2 ? due[1] : got.endsWith("Exception") ? "no exception" : got;
            Check.same(sentence + ": " + due[0], got, wanted);
            said.add(due[0]);
        }
    }

    private void refuses(String call, String exception) {
        Check.same(sentence + ": " + call, answer(x, call), exception);
        ScrollPieces with = again();
        answer(with, call);
        Check.same(sentence + ": what stands behind " + call, whole(with), whole(again()));
    }

    /** The call must change nothing, though it does not throw. */
    Script onlyLooks(String call) {
        ScrollPieces with = again();
        answer(with, call);
        Check.same(sentence + ": what stands behind " + call, whole(with), whole(again()));
        return this;
    }

    /**
     * The call must save one state, which undo brings back; as a saved state may have been dropped for
     * it, the object is compared with one that saved and undid a change that is no change.
     */
    Script isUndoable(String call) {
        ScrollPieces with = again();
        ScrollPieces without = again();
        int saved = Math.min(6, with.count(9) + 1);
        answer(with, call);
        Check.same(sentence + ": saved states behind " + call, with.count(9), saved);
        Check.same(sentence + ": undo behind " + call, with.undo(), saved - 1);
        without.set(0, without.setting(0));
        without.undo();
        with.clearBuffer();
        without.clearBuffer();
        Check.same(sentence + ": what stands behind undo of " + call, whole(with), whole(without));
        return this;
    }

    private ScrollPieces again() {
        ScrollPieces y = new ScrollPieces();
        for (String call : said) {
            answer(y, call);
        }
        return y;
    }

    /** All that can be told, also of the saved states and the slots; it takes them out of the object. */
    private static String whole(ScrollPieces y) {
        StringBuilder all = new StringBuilder();
        all.append(y.digest());
        for (int left = y.count(9); left > 0; left--) {
            all.append(' ').append(answer(y, "undo")).append(' ').append(y.digest());
        }
        for (int slot = 0; slot < 2; slot++) {
            all.append(' ').append(answer(y, "goBack " + slot)).append(' ').append(y.digest());
        }
        return all.toString();
    }

    private static int number(String word) {
        return word.equals("MAX") ? Integer.MAX_VALUE : word.equals("MIN") ? Integer.MIN_VALUE : Integer.parseInt(word);
    }

    /** What the call returns, or the name of the exception that it throws. */
    private static String answer(ScrollPieces y, String call) {
        String[] words = call.split(" ");
        if (words[0].equals("row")) {
            return Check.row(y);
        }
        if (words[0].equals("piece")) {
            return Check.piece(y, number(words[1]));
        }
        if (words[0].equals("write")) {
            Check.write(y, words[1]);
            return "";
        }
        Object[] arguments = new Object[words.length - 1];
        for (int i = 0; i < arguments.length; i++) {
            arguments[i] = number(words[i + 1]);
        }
        try {
            return "" + METHODS.get(words[0]).invoke(y, arguments);
        } catch (InvocationTargetException e) {
            return e.getCause().getClass().getSimpleName();
        } catch (IllegalAccessException e) {
            return "no call " + words[0];
        }
    }

    /** Each number from low to high stands in the place of "#"; those beside them are refused. */
    static void range(String sentence, String[] made, String call, int low, int high, String exception) {
        for (int value = low; value <= high; value++) {
            new Script(sentence, made).says(call.replace("#", "" + value));
        }
        refusesAll(sentence, made, call, exception, "" + (low - 1), "" + (high + 1), "MIN", "MAX");
    }

    static void refusesAll(String sentence, String[] made, String call, String exception, String... values) {
        Script script = new Script(sentence, made);
        for (String value : values) {
            script.says(call.replace("#", value) + " throws " + exception);
        }
    }
}
