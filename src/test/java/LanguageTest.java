import java.lang.reflect.Constructor;
import java.lang.reflect.Field;
import java.lang.reflect.Method;
import java.lang.reflect.Modifier;
import java.nio.charset.StandardCharsets;
import java.nio.file.Files;
import java.nio.file.Path;
import java.util.Arrays;
import java.util.Set;
import java.util.TreeSet;
import java.util.regex.Matcher;
import java.util.regex.Pattern;

/** The class's face, and those rules of LANGUAGE.md that can be seen from the file's words. Runs in the project's folder. */
public final class LanguageTest {
    private static final Due due = new Due();
    private static final String[] FACE = {"write(int):int", "wipe():int", "fault():int", "port():int", "about(int):int",
        "glass(int,int):int", "suitor(int,int):int", "saying(int,int):int", "said(int):int", "takes(int,int,int,int):int",
        "turn(int,int):int", "say(int):int", "pause():int", "draw(int):int", "undo():int", "warmest(boolean):int",
        "shortest(boolean):int", "can(int):int", "does(int):int", "matched(boolean):int", "judge(int,int):int",
        "share(int,boolean):int", "time(int,int,int,int):int", "untime():int", "kinds():int", "rests(int,int,int):int",
        "misheard(int,boolean):int", "seed(long):long", "weeks(int):int", "keep(int):int", "again(int):int"};

    private static String signature(Method method) {
        StringBuilder s = new StringBuilder(method.getName()).append('(');
        for (Class<?> type : method.getParameterTypes()) {
            s.append(s.charAt(s.length() - 1) == '(' ? "" : ",").append(type.getName());
        }
        return s.append("):").append(method.getReturnType().getName()).toString();
    }

    private static void face() {
        Set<String> seen = new TreeSet<>();
        Set<String> open = new TreeSet<>();
        for (Method method : LoveGlass.class.getDeclaredMethods()) {
            if (Modifier.isPublic(method.getModifiers())) {
                seen.add(signature(method));
                open.add(method.getName());
            } else {
                due.due("private: " + method.getName(), Modifier.isPrivate(method.getModifiers()) ? 1 : 0, 1);
            }
        }
        due.due("the public methods", seen.toString(), new TreeSet<>(Arrays.asList(FACE)).toString());
        for (Method method : LoveGlass.class.getDeclaredMethods()) {
            boolean twice = !Modifier.isPublic(method.getModifiers()) && open.contains(method.getName());
            due.due("a private method with a public one's name: " + method.getName(), twice ? 1 : 0, 0);
        }
        Set<String> constants = new TreeSet<>();
        for (Field field : LoveGlass.class.getDeclaredFields()) {
            if (!Modifier.isPrivate(field.getModifiers())) {
                constants.add(field.toString());
            } else if (Modifier.isStatic(field.getModifiers())) {
                due.due("final: " + field.getName(), Modifier.isFinal(field.getModifiers()) ? 1 : 0, 1);
            }
        }
        due.due("the constants", constants.size(), 5);
        for (Constructor<?> made : LoveGlass.class.getDeclaredConstructors()) {
            due.due("the constructor", made.toString(), "public LoveGlass()");
        }
        due.due("public and final", LoveGlass.class.getModifiers(), Modifier.PUBLIC | Modifier.FINAL);
        for (Class<?> inside : LoveGlass.class.getDeclaredClasses()) {
            int how = inside.getModifiers();
            due.due("static and private: " + inside, Modifier.isStatic(how) && Modifier.isPrivate(how) ? 1 : 0, 1);
            methodsInside(inside, open);
        }
        due.due("at most twelve classes", LoveGlass.class.getDeclaredClasses().length + 1 <= 12 ? 1 : 0, 1);
        fields(LoveGlass.class);
        for (Class<?> inside : LoveGlass.class.getDeclaredClasses()) {
            fields(inside);
        }
    }

    /** At most twenty fields beside constants; constants are final numbers, texts or rows of numbers. */
    private static void fields(Class<?> of) {
        Set<String> constants = Set.of("int", "long", "boolean", "char", "java.lang.String", "[I", "[J", "[C", "[B");
        int many = 0;
        for (Field field : of.getDeclaredFields()) {
            if (Modifier.isStatic(field.getModifiers())) {
                boolean may = Modifier.isFinal(field.getModifiers()) && constants.contains(field.getType().getName());
                due.due("a constant: " + field, may ? 1 : 0, 1);
            } else {
                many++;
            }
        }
        due.due("at most twenty fields: " + of, many <= 20 ? 1 : 0, 1);
    }

    private static void methodsInside(Class<?> inside, Set<String> open) {
        for (Method method : inside.getDeclaredMethods()) {
            due.due("a face's name inside: " + method, open.contains(method.getName()) ? 1 : 0, 0);
            due.due("at most seven parameters: " + method, method.getParameterCount() <= 7 ? 1 : 0, 1);
        }
    }

    private static void words(String source) {
        String code = source.replaceAll("(?s)/\\*.*?\\*/", "").replaceAll("//[^\n]*", "");
        Matcher matcher = Pattern.compile("\\b(throw|throws|try|catch|finally|synchronized|assert|instanceof|while|equals|hashCode"
            + "|toString|float|double|Object|System|Random|Thread|package|Exact)\\b|->|::|\\w+Exact\\b").matcher(code);
        due.due("a word that is ruled out", matcher.find() ? matcher.group() : "none", "none");
        matcher = Pattern.compile("(?m)^import .*$").matcher(code);
        while (matcher.find()) {
            due.due("an import", matcher.group(), "import java.util.Arrays;");
        }
        matcher = Pattern.compile("\\b(Arrays|Math|Integer|Long)\\.\\w+").matcher(code);
        Set<String> library = Set.of("Arrays.fill", "Math.max", "Math.min", "Integer.bitCount");
        while (matcher.find()) {
            due.due("of the library: " + matcher.group(), library.contains(matcher.group()) ? 1 : 0, 1);
        }
    }

    /** Methods stay short, and objects are made by fields and constructors alone, so that no call makes any. */
    private static void methods(String source) {
        String head = "";
        int length = 0;
        for (String line : source.split("\n")) {
            if (line.matches("( {4}| {8})(?!.*class)[^ *].*\\) \\{")) {
                head = line.trim();
                length = 0;
            }
            length++;
            due.due("a method's length, " + head, length <= 60 || line.startsWith("    /") ? 1 : 0, 1);
            if (line.contains("new ") && !line.trim().startsWith("*") && !line.trim().startsWith("/")) {
                boolean field = line.matches(" +private (final )?\\w+(\\[\\])? \\w+ = new .*;|        final Row \\w+ = new Row.*;");
                boolean made = head.matches("(Row|Shelf)\\(.*");
                due.due("made in a call: " + line, field || made ? 1 : 0, 1);
            }
            if (line.equals("    }") || line.equals("        }")) {
                length = 0;
            }
        }
    }

    public static void main(String[] args) throws Exception {
        String source = Files.readString(Path.of("src/main/java/LoveGlass.java"), StandardCharsets.US_ASCII);
        face();
        words(source);
        methods(source);
        due.end();
    }
}
