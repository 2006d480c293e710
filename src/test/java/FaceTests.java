import java.lang.reflect.Constructor;
import java.lang.reflect.Field;
import java.lang.reflect.Method;
import java.lang.reflect.Modifier;
import java.nio.file.Files;
import java.nio.file.Path;
import java.util.Arrays;
import java.util.Set;
import java.util.TreeSet;

/** The face of the class is the document's, and what stands beside it is as LANGUAGE.md wants it. */
public final class FaceTests {
    private static final String[] FACE = {
        "int add(int) IllegalArgument IllegalState",
        "int tear(int,int,int,int) IndexOutOfBounds IllegalArgument",
        "int fibre(int,int,int) IndexOutOfBounds IllegalArgument",
        "int hole(int,int) IndexOutOfBounds IllegalArgument IllegalState",
        "int remove(int) IndexOutOfBounds",
        "int move(int,int) IndexOutOfBounds IllegalArgument",
        "int order()",
        "int set(int,int) IndexOutOfBounds IllegalArgument",
        "int append(int) IllegalArgument IllegalState",
        "int clearBuffer()",
        "int firstError()",
        "int load() IllegalArgument IllegalState",
        "int keep(int) IllegalArgument",
        "int goBack(int) IllegalArgument IllegalState",
        "int undo() IllegalState",
        "int pieceOf(int,int) IndexOutOfBounds IllegalArgument",
        "int isHole(int,int) IndexOutOfBounds IllegalArgument",
        "int at(int) IllegalArgument",
        "int cost(int,int) IndexOutOfBounds IllegalArgument",
        "int holeOf(int,int) IllegalArgument",
        "int count(int) IllegalArgument",
        "int setting(int) IndexOutOfBounds",
        "int bestBehind(int) IndexOutOfBounds",
        "int sureness(int) IndexOutOfBounds",
        "int bestPlace(int) IndexOutOfBounds",
        "int ifOrdered()",
        "float meanShrink()",
        "double meanCost()",
        "long digest()"};

    public static void main(String[] args) throws Exception {
        methods();
        otherMembers();
        classesInside();
        sections(Files.readString(Path.of("src/main/java/ScrollPieces.java")));
        Check.end("FaceTests");
    }

    private static void methods() {
        Set<String> due = new TreeSet<>(Arrays.asList(FACE));
        Set<String> got = new TreeSet<>();
        Set<String> hidden = new TreeSet<>();
        Set<String> open = new TreeSet<>();
        for (Method method : ScrollPieces.class.getDeclaredMethods()) {
            if (Modifier.isPrivate(method.getModifiers())) {
                hidden.add(method.getName());
                continue;
            }
            open.add(method.getName());
            StringBuilder line = new StringBuilder(method.getReturnType().getSimpleName());
            line.append(' ').append(method.getName()).append('(');
            for (Class<?> type : method.getParameterTypes()) {
                line.append(line.charAt(line.length() - 1) == '(' ? "" : ",").append(type.getSimpleName());
            }
            line.append(')');
            for (Class<?> type : method.getExceptionTypes()) {
                line.append(' ').append(type.getSimpleName().replace("Exception", ""));
            }
            got.add(line.toString());
            Check.same("public, not static: " + line, method.getModifiers(), Modifier.PUBLIC);
        }
        Check.same("the methods", got.toString(), due.toString());
        hidden.retainAll(open);
        Check.same("private methods with the name of a public one", hidden.toString(), "[]");
    }

    private static void otherMembers() {
        Check.same("public final class", ScrollPieces.class.getModifiers(), Modifier.PUBLIC | Modifier.FINAL);
        for (Constructor<?> made : ScrollPieces.class.getDeclaredConstructors()) {
            Check.same("constructor " + made, made.toString(), "public ScrollPieces()");
        }
        for (Field field : ScrollPieces.class.getDeclaredFields()) {
            if (!Modifier.isPrivate(field.getModifiers())) {
                Check.same("field", field.toString(), "public static final int ScrollPieces.NONE");
            }
            if (Modifier.isStatic(field.getModifiers())) {
                Check.same("final: " + field, Modifier.isFinal(field.getModifiers()) ? 1 : 0, 1);
            }
        }
    }

    private static void classesInside() {
        Class<?>[] inside = ScrollPieces.class.getDeclaredClasses();
        Check.same("twelve classes at most", inside.length < 12 ? 1 : 0, 1);
        fewFields(ScrollPieces.class);
        for (Class<?> one : inside) {
            int modifiers = one.getModifiers();
            boolean fine = Modifier.isStatic(modifiers) && !Modifier.isPublic(modifiers);
            Check.same("static and not public: " + one, fine ? 1 : 0, 1);
            fewFields(one);
        }
    }

    private static void fewFields(Class<?> one) {
        int fields = 0;
        for (Field field : one.getDeclaredFields()) {
            fields += Modifier.isStatic(field.getModifiers()) ? 0 : 1;
        }
        Check.same("twenty fields at most: " + one, fields <= 20 ? 1 : 0, 1);
    }

    /** Ahead of which calls the interface says what. */
    private static void sections(String text) {
        String[] due = {
            "// ---- pieces", "int add(", "int remove(", "// ---- the row", "int move(", "int set(",
            "// ---- texts, snapshots", "int append(", "int undo(", "// ---- looks; nothing is changed", "int pieceOf(",
            "int setting(", "// ---- what would be; nothing is changed", "int bestBehind(", "long digest("};
        int last = -1;
        for (String part : due) {
            int at = text.indexOf(part);
            Check.same("the order of the face, " + part, at > last ? 1 : 0, 1);
            last = at;
        }
    }
}
