import java.lang.reflect.Constructor;
import java.lang.reflect.Field;
import java.lang.reflect.Method;
import java.lang.reflect.Modifier;
import java.nio.charset.StandardCharsets;
import java.nio.file.Files;
import java.nio.file.Path;
import java.util.Set;
import java.util.TreeSet;

/** The document's public face, and the rules of LANGUAGE.md that a program can look for. */
public final class FaceTest {
    private static final Set<String> FACE = Set.of(
            "boolean kind(int,int,int)", "boolean start(int,int)", "boolean feed(int,int,int)",
            "boolean rate(int,int)", "boolean bound(int)", "boolean room(int)", "int rank(int,int)",
            "int run(int)", "long at(int)", "long given(int)", "long gone(int)", "long balance(int)",
            "int acid()", "int sour(long)", "boolean load(int,int,int,int)", "int plan(int)",
            "int planned(int)", "int serve()");
    private static final String[] RULED_OUT = {
        "->", "::", "try", "catch", "finally", "throw", "synchronized", "assert", "Exact(", "Object",
        "System.nanoTime", "currentTimeMillis", "Random", "Thread", "protected", "static {", "double", "float"};

    public static void main(String[] args) throws Exception {
        Due due = new Due();
        due.same("NONE", DigesterRates.NONE, -1);
        due.same("NONE is a constant", DigesterRates.class.getField("NONE").getModifiers(),
                Modifier.PUBLIC | Modifier.STATIC | Modifier.FINAL);
        due.same("the class", DigesterRates.class.getModifiers(), Modifier.PUBLIC | Modifier.FINAL);
        methodsAreTheFace(due);
        fieldsArePrivate(due, DigesterRates.class, true);
        constructorIsTheFaces(due);
        for (Class<?> inside : DigesterRates.class.getDeclaredClasses()) {
            due.yes(inside + " is static", Modifier.isStatic(inside.getModifiers()));
            fieldsArePrivate(due, inside, false);
        }
        due.yes("at most twelve classes", DigesterRates.class.getDeclaredClasses().length <= 11);
        textKeepsTheRules(due);
        due.end();
    }

    private static void methodsAreTheFace(Due due) {
        Set<String> found = new TreeSet<>();
        Set<String> names = new TreeSet<>();
        for (Method method : DigesterRates.class.getDeclaredMethods()) {
            if (!Modifier.isPrivate(method.getModifiers())) {
                found.add(told(method));
                names.add(method.getName());
            }
        }
        for (String method : FACE) {
            due.yes(method + " is there", found.contains(method));
        }
        due.same("no more methods", found.size(), FACE.size());
        for (Method method : DigesterRates.class.getDeclaredMethods()) {
            if (Modifier.isPrivate(method.getModifiers())) {
                due.no(method + " bears a public name", names.contains(method.getName()));
            }
        }
    }

    private static String told(Method method) {
        StringBuilder text = new StringBuilder();
        text.append(method.getReturnType().getName()).append(' ').append(method.getName()).append('(');
        String between = "";
        for (Class<?> type : method.getParameterTypes()) {
            text.append(between).append(type.getName());
            between = ",";
        }
        return text.append(')').toString();
    }

    private static void fieldsArePrivate(Due due, Class<?> type, boolean isFace) {
        int fields = 0;
        for (Field field : type.getDeclaredFields()) {
            boolean isNone = isFace && field.getName().equals("NONE");
            due.yes(field + " is private", isNone || Modifier.isPrivate(field.getModifiers()));
            if (Modifier.isStatic(field.getModifiers())) {
                due.yes(field + " is final", Modifier.isFinal(field.getModifiers()));
            } else {
                fields++;
            }
        }
        due.yes(type + " has few fields", fields <= 20);
    }

    private static void constructorIsTheFaces(Due due) {
        Constructor<?>[] constructors = DigesterRates.class.getDeclaredConstructors();
        due.same("one constructor", constructors.length, 1);
        due.yes("it is public", Modifier.isPublic(constructors[0].getModifiers()));
        due.same("it takes nothing", constructors[0].getParameterCount(), 0);
    }

    private static void textKeepsTheRules(Due due) throws Exception {
        String place = System.getProperty("digester.source", "src/main/java/DigesterRates.java");
        String text = Files.readString(Path.of(place), StandardCharsets.ISO_8859_1);
        for (String word : RULED_OUT) {
            due.same("'" + word + "' in the text", text.indexOf(word), -1);
        }
        due.no("a package line", text.startsWith("package") || text.contains("\npackage"));
        for (String line : text.split("\n")) {
            due.yes(line, !line.startsWith("import ") || line.equals("import java.util.Arrays;"));
        }
    }
}
