import java.io.IOException;
import java.lang.reflect.Constructor;
import java.lang.reflect.Field;
import java.lang.reflect.Method;
import java.lang.reflect.Modifier;
import java.nio.file.Files;
import java.nio.file.Path;
import java.util.Set;
import java.util.TreeSet;
import java.util.regex.Matcher;
import java.util.regex.Pattern;

/** What LANGUAGE.md rules out and can be seen from outside: in the source's words, and in the class's face. */
public final class LanguageTest {
    private static final Due D = Due.begin();
    private static final Set<String> FACE = Set.of(
        "int write(int)", "int erase()", "int fault()", "int house()", "int person(int,int)", "int grief(int,int)",
        "int as(int,int)", "int pair(int,int)", "int unpair()", "int lent(int)", "int grieve(int,int)",
        "int comfort(int)", "int undo()", "int keep(int)", "int back(int)", "int behind(int,int,int)",
        "int enters(int,int)", "int ahead(int,int)", "int wrong()", "int ranked(int)", "int lines()", "int next()",
        "int rooms(int,int)", "int misread(int,int,int,int)", "int seen(int,int,int)", "int forget()",
        "int kinds(int,int)", "int drawer(int,int)", "int put(int,int,int,int)", "int take(int,int,int)",
        "int tidy(int)", "int copy(int,int,int,int,int)", "int drop(int)", "int count(int)");
    private static final Set<String> CONSTANTS = Set.of(
        "NONE -1", "UNKNOWN -2", "OUTSIDE -3", "NOT -4", "FULL -5", "NULL -11", "INDEX -12", "EMPTY -13", "CAST -14", "SIZE -15");

    public static void main(String[] args) throws IOException, IllegalAccessException {
        face();
        fields(GriefDoors.class);
        Class<?>[] inside = GriefDoors.class.getDeclaredClasses();
        D.isSo("some twelve classes at most", inside.length <= 12);
        for (Class<?> one : inside) {
            inside(one);
            fields(one);
        }
        String code = codeAlone(Files.readString(Path.of("src/main/java/GriefDoors.java")));
        words(code);
        lengthOfMethods(code);
        D.end("LanguageTest");
    }

    private static void face() throws IllegalAccessException {
        Set<String> methods = new TreeSet<>();
        Set<String> names = new TreeSet<>();
        for (Method method : GriefDoors.class.getDeclaredMethods()) {
            boolean isPrivate = Modifier.isPrivate(method.getModifiers());
            if (!isPrivate) {
                D.isSo(method + " is public", Modifier.isPublic(method.getModifiers()));
                methods.add(signature(method));
                names.add(method.getName());
            }
        }
        D.due(0, "methods", methods.toString(), new TreeSet<>(FACE).toString());
        for (Method method : GriefDoors.class.getDeclaredMethods()) {
            boolean isPrivate = Modifier.isPrivate(method.getModifiers());
            D.isSo(method + " bears its own name", !isPrivate || !names.contains(method.getName()));
        }
        Constructor<?>[] constructors = GriefDoors.class.getDeclaredConstructors();
        D.due(0, "constructors", constructors.length, 1);
        D.isSo("it is public, and asks nothing", constructors[0].toString().equals("public GriefDoors()"));
        Set<String> constants = new TreeSet<>();
        for (Field field : GriefDoors.class.getDeclaredFields()) {
            if (Modifier.isPublic(field.getModifiers())) {
                constants.add(field.getName() + " " + field.getInt(null));
            } else {
                D.isSo(field + " is private", Modifier.isPrivate(field.getModifiers()));
            }
        }
        D.due(0, "constants", constants.toString(), new TreeSet<>(CONSTANTS).toString());
        D.isSo("the class is final", Modifier.isFinal(GriefDoors.class.getModifiers()));
    }

    private static String signature(Method method) {
        StringBuilder all = new StringBuilder(method.getReturnType() + " " + method.getName() + "(");
        for (Class<?> type : method.getParameterTypes()) {
            all.append(all.charAt(all.length() - 1) == '(' ? "" : ",").append(type);
        }
        return all.append(')').toString();
    }

    private static boolean isOfTheFace(String name) {
        return FACE.stream().anyMatch(one -> one.startsWith("int " + name + "("));
    }

    private static void inside(Class<?> one) {
        int modifiers = one.getModifiers();
        D.isSo(one + " is static", Modifier.isStatic(modifiers));
        D.isSo(one + " is not public", !Modifier.isPublic(modifiers) && !Modifier.isProtected(modifiers));
        for (Method method : one.getDeclaredMethods()) {
            D.isSo(method + " takes seven at most", method.getParameterCount() <= 7);
            D.isSo(method + " bears its own name", !Modifier.isPrivate(method.getModifiers()) || !isOfTheFace(method.getName()));
        }
    }

    private static void fields(Class<?> one) {
        int own = 0;
        for (Field field : one.getDeclaredFields()) {
            boolean isStatic = Modifier.isStatic(field.getModifiers());
            D.isSo(field + " is final, if static", !isStatic || Modifier.isFinal(field.getModifiers()));
            own += isStatic ? 0 : 1;
        }
        D.isSo(one + " has some twenty fields at most", own <= 20);
    }

    /** Without comments and the insides of texts. */
    private static String codeAlone(String source) {
        String code = source.replaceAll("(?s)/\\*.*?\\*/", "").replaceAll("//[^\n]*", "");
        return code.replaceAll("\"[^\"\n]*\"", "\"\"").replaceAll("'.'", "' '");
    }

    private static void words(String code) {
        String[] ruledOut = {
            "throw", "throws", "try", "catch", "finally", "synchronized", "assert", "import", "package", "native",
            "volatile", "transient", "equals", "hashCode", "toString", "Object", "Thread", "Random", "Runtime",
            "Scanner", "var", "yield", "goto", "float", "double", "out", "err", "currentTimeMillis", "nanoTime", "exit"
        };
        for (String word : ruledOut) {
            D.isSo("no word " + word, !Pattern.compile("\\b" + word + "\\b").matcher(code).find());
        }
        D.isSo("no lambda", !code.contains("->"));
        D.isSo("no method reference", !code.contains("::"));
        D.isSo("no annotation", !code.contains("@"));
        D.isSo("no name that ends in Exact", !Pattern.compile("Exact\\b").matcher(code).find());
        D.isSo("no static block", !Pattern.compile("\\bstatic\\s*\\{").matcher(code).find());
        D.isSo("no joining by +", !Pattern.compile("\"\\s*\\+|\\+\\s*\"").matcher(code).find());
        Matcher library = Pattern.compile("\\b(System|Math|Integer|Long|Arrays)\\.(\\w+)").matcher(code);
        while (library.find()) {
            D.isSo(library.group() + " is listed", Set.of("System.arraycopy", "Math.max", "Math.min").contains(library.group()));
        }
    }

    private static void lengthOfMethods(String code) {
        int begun = -1;
        String[] rows = code.split("\n");
        for (int row = 0; row < rows.length; row++) {
            if (rows[row].matches(" {4}(?: {4})?[^ =;]+ [^=;]*\\) \\{") && !rows[row].contains(" new ")) {
                begun = row;
            } else if (rows[row].matches(" {4}(?: {4})?\\}") && begun >= 0) {
                D.isSo("the method at row " + begun + " is short", row - begun < 60);
                begun = -1;
            }
        }
    }
}
