import java.lang.reflect.Constructor;
import java.lang.reflect.Field;
import java.lang.reflect.Method;
import java.lang.reflect.Modifier;
import java.util.ArrayList;
import java.util.List;
import java.util.Set;
import java.util.TreeSet;

/** "The public face": the class has what the document writes there, word by word, and no more. */
public final class FaceTest {
    private static final int METHODS = 18;

    public static void main(String[] args) throws Exception {
        Due due = new Due();
        List<String> face = Project.javaBlocks(Project.document());
        everyLineIsInTheSource(due, face);
        classIsTheFaces(due);
        fieldsAreTheFaces(due);
        constructorIsTheFaces(due);
        methodsAreTheFaces(due, face);
        noPrivateMethodBearsAPublicName(due);
        due.end();
    }

    private static void everyLineIsInTheSource(Due due, List<String> face) throws Exception {
        List<String> source = new ArrayList<>();
        for (String line : Project.source()) {
            source.add(line.strip());
        }
        for (String line : face) {
            // A constant ends with its value; all else that ends there has a body in the source.
            String wanted = line.endsWith(");") ? line.substring(0, line.length() - 1) + " {" : line;
            due.yes("the source has '" + wanted + "'", source.contains(wanted.strip()));
        }
    }

    private static void classIsTheFaces(Due due) {
        due.same("public final class", DigesterRates.class.getModifiers(), Modifier.PUBLIC | Modifier.FINAL);
        due.yes("of no class above it", DigesterRates.class.getSuperclass() == Object.class);
        due.same("of no interfaces", DigesterRates.class.getInterfaces().length, 0);
    }

    private static void fieldsAreTheFaces(Due due) throws Exception {
        due.same("NONE", DigesterRates.NONE, -1);
        due.same("NONE is a constant", DigesterRates.class.getField("NONE").getModifiers(),
                Modifier.PUBLIC | Modifier.STATIC | Modifier.FINAL);
        due.yes("NONE is an int", DigesterRates.class.getField("NONE").getType() == int.class);
        for (Field field : DigesterRates.class.getDeclaredFields()) {
            due.yes(field + " is private", field.getName().equals("NONE") || Modifier.isPrivate(field.getModifiers()));
        }
    }

    private static void constructorIsTheFaces(Due due) {
        Constructor<?>[] constructors = DigesterRates.class.getDeclaredConstructors();
        due.same("one constructor", constructors.length, 1);
        due.same("it is public", constructors[0].getModifiers(), Modifier.PUBLIC);
        due.same("it takes nothing", constructors[0].getParameterCount(), 0);
        due.same("it declares no exception", constructors[0].getExceptionTypes().length, 0);
    }

    private static void methodsAreTheFaces(Due due, List<String> face) {
        Set<String> wanted = new TreeSet<>();
        for (String line : face) {
            if (line.endsWith(");") && !line.strip().equals("public DigesterRates();")) {
                wanted.add(withoutNames(line.strip()));
            }
        }
        due.same("methods of the document", wanted.size(), METHODS);
        Set<String> found = new TreeSet<>();
        for (Method method : DigesterRates.class.getDeclaredMethods()) {
            if (!Modifier.isPrivate(method.getModifiers())) {
                found.add(told(method));
            }
        }
        for (String method : wanted) {
            due.yes("the class has " + method, found.contains(method));
        }
        for (String method : found) {
            due.yes("the document has " + method, wanted.contains(method));
        }
    }

    /** "public int rank(int r, int need);" becomes "public int rank(int,int)". */
    private static String withoutNames(String line) {
        int open = line.indexOf('(');
        StringBuilder text = new StringBuilder(line.substring(0, open + 1));
        String between = "";
        for (String parameter : line.substring(open + 1, line.indexOf(')')).split(", ")) {
            text.append(between).append(parameter.split(" ")[0]);
            between = ",";
        }
        return text.append(')').toString();
    }

    private static String told(Method method) {
        StringBuilder text = new StringBuilder(Modifier.toString(method.getModifiers()));
        text.append(' ').append(method.getReturnType().getName()).append(' ').append(method.getName()).append('(');
        String between = "";
        for (Class<?> type : method.getParameterTypes()) {
            text.append(between).append(type.getName());
            between = ",";
        }
        return text.append(')').toString();
    }

    private static void noPrivateMethodBearsAPublicName(Due due) {
        Set<String> names = new TreeSet<>();
        for (Method method : DigesterRates.class.getMethods()) {
            names.add(method.getName());
        }
        List<Class<?>> all = new ArrayList<>(List.of(DigesterRates.class.getDeclaredClasses()));
        all.add(DigesterRates.class);
        for (Class<?> each : all) {
            for (Method method : each.getDeclaredMethods()) {
                due.no(method + " bears a public name",
                        !Modifier.isPublic(method.getModifiers()) && names.contains(method.getName()));
            }
        }
    }
}
