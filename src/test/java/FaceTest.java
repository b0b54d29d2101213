import java.lang.reflect.Constructor;
import java.lang.reflect.Field;
import java.lang.reflect.Method;
import java.lang.reflect.Modifier;
import java.util.ArrayList;
import java.util.List;
import java.util.Set;
import java.util.TreeSet;
import java.util.regex.Matcher;
import java.util.regex.Pattern;

/** The class's face, as the document's code block and the heads of its promises have it. */
public final class FaceTest {
    private static final String CONSTANTS = "public static final int ";
    private static final Due due = new Due();

    /** The types of "int glass, boolean upper", as "int, boolean"; names are left out. */
    private static String types(String parameters) {
        return parameters.replaceAll("(\\w+) \\w+", "$1");
    }

    private static String types(Class<?>[] parameters) {
        List<String> names = new ArrayList<>();
        for (Class<?> type : parameters) {
            names.add(type.getName());
        }
        return String.join(", ", names);
    }

    /** How many constants a line has. */
    private static int constants(String line) throws ReflectiveOperationException {
        int many = 0;
        Matcher matcher = Pattern.compile("(\\w+) = (-?\\d+)").matcher(line);
        while (matcher.find()) {
            Field field = LoveGlass.class.getDeclaredField(matcher.group(1));
            due.due("how " + field.getName() + " is", Modifier.toString(field.getModifiers()) + " " + field.getType() + " ",
                CONSTANTS);
            due.due(field.getName(), field.getInt(null), Long.parseLong(matcher.group(2)));
            many++;
        }
        return many;
    }

    private static String method(Method method) {
        return Modifier.toString(method.getModifiers()) + " " + method.getReturnType().getName() + " " + method.getName() + "("
            + types(method.getParameterTypes()) + ")";
    }

    private static int open(Field[] fields) {
        int many = 0;
        for (Field field : fields) {
            many += Modifier.isPrivate(field.getModifiers()) ? 0 : 1;
        }
        return many;
    }

    private static void codeBlock(String source) throws Exception {
        due.under("The public face");
        Set<String> wanted = new TreeSet<>();
        int constants = 0;
        int constructors = 0;
        for (String line : Document.face()) {
            String head = line.replaceAll(";$", "");
            if (line.startsWith(CONSTANTS)) {
                constants += constants(line);
                due.due("in the source: " + line, source.contains("\n    " + line + "\n") ? 1 : 0, 1);
                continue;
            }
            due.due("in the source: " + head, source.contains("\n    " + head + " {\n") ? 1 : 0, 1);
            if (head.equals("public LoveGlass()")) {
                constructors++;
            } else {
                int open = head.indexOf('(');
                wanted.add(head.substring(0, open + 1) + types(head.substring(open + 1, head.length() - 1)) + ")");
            }
        }
        Set<String> seen = new TreeSet<>();
        for (Method method : LoveGlass.class.getDeclaredMethods()) {
            if (!Modifier.isPrivate(method.getModifiers())) {
                seen.add(method(method));
                due.due(method.getName() + " says that it throws", method.getExceptionTypes().length, 0);
            }
        }
        due.due("the methods", seen.toString(), wanted.toString());
        due.due("as many methods", wanted.size(), 31);
        due.due("fields that are not private", open(LoveGlass.class.getDeclaredFields()), constants);
        due.due("as many constants", constants, 5);
        Constructor<?>[] made = LoveGlass.class.getDeclaredConstructors();
        due.due("constructors", made.length, constructors);
        due.due("the constructor", made[0].toString(), "public LoveGlass()");
        due.due("the class", Modifier.toString(LoveGlass.class.getModifiers()) + " " + LoveGlass.class, "public final class LoveGlass");
        due.due("what it is made from", LoveGlass.class.getSuperclass() == Object.class
            && LoveGlass.class.getInterfaces().length == 0 ? 1 : 0, 1);
    }

    private static void promises() throws Exception {
        due.under("Promise 1 to Promise 32");
        List<String> face = Document.face();
        face.removeIf(line -> line.startsWith(CONSTANTS));
        List<Document.Promise> promises = Document.promises();
        due.due("as many promises", promises.size(), 32);
        for (int i = 0; i < promises.size(); i++) {
            Document.Promise promise = promises.get(i);
            due.due("the number", promise.number, i + 1);
            due.due("the head of promise " + promise.number, "public " + promise.head + ";", face.get(i));
        }
    }

    public static void main(String[] args) throws Exception {
        codeBlock(Document.read("src/main/java/LoveGlass.java"));
        promises();
        due.end();
    }
}
