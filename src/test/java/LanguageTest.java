import java.io.IOException;
import java.lang.reflect.Field;
import java.lang.reflect.Method;
import java.lang.reflect.Modifier;
import java.nio.file.Files;
import java.nio.file.Path;
import java.util.ArrayList;
import java.util.HashMap;
import java.util.List;
import java.util.Map;
import java.util.Set;
import java.util.stream.Stream;

/** The rules of LANGUAGE.md, by their numbers, in the source and in what javac makes of it. */
public final class LanguageTest {
    /** Of all that rule 4 lists, what the class needs: a new name here is looked up there first. */
    private static final Set<String> LIBRARY = Set.of("java/lang/Object.<init>()V", "java/lang/Math.max(II)I",
            "java/lang/Math.max(JJ)J", "java/lang/Math.min(II)I", "java/lang/Math.min(JJ)J",
            "java/util/Arrays.copyOf([JI)[J");
    private static final Set<Class<?>> NUMBERS = Set.of(int.class, long.class, short.class, byte.class, char.class,
            boolean.class);
    private static final Set<Class<?>> CONSTANTS = Set.of(int.class, long.class, boolean.class, char.class,
            String.class, int[].class, long[].class, char[].class, byte[].class);
    private static final String[] RULED_OUT = {"->", "::", "while (true)", "for (;;)", "finally", "synchronized",
        "assert", "static {", "protected", "double", "float", "Exact(", "@"};

    private final Due due = new Due();
    private final List<Class<?>> types = new ArrayList<>();
    private final List<ClassFile> files = new ArrayList<>();
    private final Map<String, ClassFile.Code> own = new HashMap<>();

    public static void main(String[] args) throws Exception {
        LanguageTest test = new LanguageTest();
        test.collect(DigesterRates.class);
        test.oneFileWithoutAPackage();
        test.classesInside();
        test.typesAndFields();
        test.methods();
        test.libraryCalls();
        test.noExceptions();
        test.objectsAreMadeInConstructors();
        test.callsGoNotDeep();
        test.words();
        test.due.end();
    }

    private void collect(Class<?> type) throws IOException {
        types.add(type);
        ClassFile file = ClassFile.of(type);
        files.add(file);
        for (ClassFile.Code code : file.methods) {
            own.put(code.name, code);
        }
        for (Class<?> inside : type.getDeclaredClasses()) {
            collect(inside);
        }
    }

    private void oneFileWithoutAPackage() throws IOException {
        due.same("no package", DigesterRates.class.getPackageName().length(), 0);
        try (Stream<Path> all = Files.walk(Project.home().resolve("src/main"))) {
            due.same("one file", all.filter(Files::isRegularFile).count(), 1);
        }
        for (String line : Project.source()) {
            due.no(line, line.startsWith("package"));
            due.no(line, line.startsWith("import ") && !line.equals("import java.util.Arrays;"));
        }
    }

    /** Rules 1, 2 and 11: static, private or package-visible; some twelve; none without a name. */
    private void classesInside() throws IOException {
        due.yes("rule 11: classes", types.size() <= 12);
        for (Class<?> type : types) {
            boolean isFace = type == DigesterRates.class;
            int seen = type.getModifiers() & (Modifier.PUBLIC | Modifier.PROTECTED);
            due.yes("rule 1: " + type, isFace || seen == 0 && Modifier.isStatic(type.getModifiers()));
        }
        Path made = Path.of(DigesterRates.class.getProtectionDomain().getCodeSource().getLocation().getPath());
        try (Stream<Path> all = Files.list(made)) {
            due.same("rule 2: all classes have names", types.size(), all.map(file -> file.getFileName().toString())
                    .filter(file -> file.equals("DigesterRates.class") || file.startsWith("DigesterRates$")).count());
        }
    }

    /** Rules 3, 5 and 11. */
    private void typesAndFields() {
        for (Class<?> type : types) {
            int fields = 0;
            for (Field field : type.getDeclaredFields()) {
                due.yes("rule 3: " + field, isAllowed(field.getType()));
                if (Modifier.isStatic(field.getModifiers())) {
                    due.yes("rule 5: " + field, Modifier.isFinal(field.getModifiers())
                            && CONSTANTS.contains(field.getType()));
                } else {
                    fields++;
                }
            }
            due.yes("rule 11: fields of " + type, fields <= 20);
        }
        for (ClassFile file : files) {
            due.no("rule 5: static initialiser of " + file.name, own.containsKey(file.name + ".<clinit>()V"));
        }
    }

    private boolean isAllowed(Class<?> type) {
        Class<?> each = type.isArray() ? type.getComponentType() : type;
        return NUMBERS.contains(each) || types.contains(each) || each == void.class;
    }

    /** Rules 3, 6 and 11. */
    private void methods() {
        for (Class<?> type : types) {
            for (Method method : type.getDeclaredMethods()) {
                due.yes("rule 11: parameters of " + method, method.getParameterCount() <= 7);
                due.yes("rule 3: answer of " + method, isAllowed(method.getReturnType()));
                for (Class<?> parameter : method.getParameterTypes()) {
                    due.yes("rule 3: parameters of " + method, isAllowed(parameter));
                }
                due.no("rule 6: own " + method,
                        Set.of("equals", "hashCode", "toString", "finalize").contains(method.getName()));
            }
        }
        for (ClassFile.Code code : own.values()) {
            due.yes("rule 11: lines of " + code.name, code.lines() <= 60);
        }
    }

    /** Rules 2, 4 and 13. */
    private void libraryCalls() {
        for (ClassFile.Code code : own.values()) {
            due.same("rule 2: lambdas and joined texts in " + code.name, code.dynamic, 0);
            for (String call : code.calls) {
                due.yes("rule 4: " + code.name + " calls " + call, own.containsKey(call) || LIBRARY.contains(call));
            }
        }
    }

    /** Rule 6: the document asks for no exception, so that none is thrown or caught. */
    private void noExceptions() {
        for (ClassFile.Code code : own.values()) {
            due.same("rule 6: throws in " + code.name, code.thrown, 0);
            due.same("rule 6: catches in " + code.name, code.caught, 0);
        }
        for (ClassFile file : files) {
            for (String named : file.classes) {
                due.no("rule 6: " + file.name + " names " + named,
                        named.endsWith("Exception") || named.endsWith("Error") || named.endsWith("Throwable"));
            }
        }
    }

    /** Rule 12, and the one room: rows are made once, but for the acid's, which grows. */
    private void objectsAreMadeInConstructors() {
        for (ClassFile.Code code : own.values()) {
            boolean isConstructor = code.name.contains(".<init>");
            due.yes("rule 12: " + code.name + " makes " + code.made, isConstructor || code.made == 0);
            for (String call : code.calls) {
                due.yes("rule 12: " + code.name + " calls " + call, !isConstructor || call.contains(".<init>"));
                due.yes("rule 12: " + code.name + " copies", !call.contains(".copyOf")
                        || code.name.startsWith("DigesterRates$AcidPeaks.makeRoomFor"));
            }
        }
    }

    /** Rules 8 and 11: no method comes to itself again, and eight are open at most. */
    private void callsGoNotDeep() {
        Map<String, Integer> depths = new HashMap<>();
        for (String method : own.keySet()) {
            due.yes("rule 11: depth of " + method, depth(method, depths, new ArrayList<>()) <= 8);
        }
    }

    private int depth(String method, Map<String, Integer> depths, List<String> open) {
        if (open.contains(method)) {
            due.yes("rule 8: " + open + " comes again to " + method, false);
            return 0;
        }
        if (!depths.containsKey(method)) {
            open.add(method);
            int deepest = 0;
            for (String call : own.get(method).calls) {
                deepest = Math.max(deepest, own.containsKey(call) ? depth(call, depths, open) : 1);
            }
            open.remove(method);
            depths.put(method, deepest + 1);
        }
        return depths.get(method);
    }

    private void words() throws IOException {
        for (String line : Project.source()) {
            for (String word : RULED_OUT) {
                due.no("'" + word + "' in: " + line, line.contains(word));
            }
            due.yes("rule 3: characters of: " + line, line.chars().allMatch(each -> each <= 255));
        }
    }
}
