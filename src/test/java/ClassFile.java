import java.io.DataInputStream;
import java.io.IOException;
import java.io.InputStream;
import java.nio.ByteBuffer;
import java.util.ArrayList;
import java.util.List;
import java.util.Set;
import java.util.TreeSet;

/** What javac made of a class, as far as the rules of LANGUAGE.md ask for it. Its format is the JVM's own. */
final class ClassFile {
    private static final int INVOKE_VIRTUAL = 182;
    private static final int INVOKE_INTERFACE = 185;
    private static final int INVOKE_DYNAMIC = 186;
    private static final int NEW = 187;
    private static final int NEW_ARRAY = 188;
    private static final int A_NEW_ARRAY = 189;
    private static final int THROW = 191;
    private static final int MULTI_NEW_ARRAY = 197;

    /** One method: what it calls ("Math.max(JJ)J" of its class), and what it makes, throws and catches. */
    static final class Code {
        final String name;
        final List<String> calls = new ArrayList<>();
        int made;
        int thrown;
        int caught;
        int dynamic;
        int firstLine = Integer.MAX_VALUE;
        int lastLine;

        Code(String name) {
            this.name = name;
        }

        int lines() {
            return lastLine < firstLine ? 0 : lastLine - firstLine + 1;
        }
    }

    final String name;
    final List<Code> methods = new ArrayList<>();
    /** All other classes that are named, those of which an object is never made too. */
    final Set<String> classes = new TreeSet<>();
    private final Object[] pool;

    static ClassFile of(Class<?> type) throws IOException {
        String file = type.getName() + ".class";
        try (InputStream in = type.getResourceAsStream(file)) {
            return new ClassFile(new DataInputStream(in));
        }
    }

    private ClassFile(DataInputStream in) throws IOException {
        in.readInt();
        in.readInt();
        pool = readPool(in);
        in.readUnsignedShort();
        name = className(in.readUnsignedShort());
        in.readUnsignedShort();
        in.skipBytes(2 * in.readUnsignedShort());
        for (int fields = in.readUnsignedShort(); fields > 0; fields--) {
            in.skipBytes(6);
            skipAttributes(in);
        }
        for (int count = in.readUnsignedShort(); count > 0; count--) {
            methods.add(readMethod(in));
        }
        for (Object each : pool) {
            if (each instanceof int[] pair && pair[0] == 7) {
                classes.add((String) pool[pair[1]]);
            }
        }
        classes.remove(name);
    }

    /** Texts stay texts; all else becomes its tag and what it points to. */
    private static Object[] readPool(DataInputStream in) throws IOException {
        Object[] pool = new Object[in.readUnsignedShort()];
        for (int i = 1; i < pool.length; i++) {
            int tag = in.readUnsignedByte();
            switch (tag) {
                case 1 -> pool[i] = in.readUTF();
                case 3, 4 -> in.readInt();
                case 5, 6 -> {
                    in.readLong();
                    i++;
                }
                case 7, 8, 16, 19, 20 -> pool[i] = new int[] {tag, in.readUnsignedShort()};
                case 15 -> pool[i] = new int[] {tag, in.readUnsignedByte(), in.readUnsignedShort()};
                default -> pool[i] = new int[] {tag, in.readUnsignedShort(), in.readUnsignedShort()};
            }
        }
        return pool;
    }

    private String text(int index) {
        return (String) pool[index];
    }

    private String className(int index) {
        return text(((int[]) pool[index])[1]);
    }

    /** Of a method that is called: its class, its name and what it takes. */
    private String member(int index) {
        int[] member = (int[]) pool[index];
        int[] nameAndType = (int[]) pool[member[2]];
        return className(member[1]) + "." + text(nameAndType[1]) + text(nameAndType[2]);
    }

    private static void skipAttributes(DataInputStream in) throws IOException {
        for (int count = in.readUnsignedShort(); count > 0; count--) {
            in.readUnsignedShort();
            in.skipBytes(in.readInt());
        }
    }

    private Code readMethod(DataInputStream in) throws IOException {
        in.readUnsignedShort();
        Code code = new Code(name + "." + text(in.readUnsignedShort()) + text(in.readUnsignedShort()));
        for (int count = in.readUnsignedShort(); count > 0; count--) {
            String attribute = text(in.readUnsignedShort());
            byte[] bytes = in.readNBytes(in.readInt());
            if (attribute.equals("Code")) {
                readCode(code, ByteBuffer.wrap(bytes));
            }
        }
        return code;
    }

    private void readCode(Code code, ByteBuffer bytes) {
        bytes.getInt();
        int length = bytes.getInt();
        int end = bytes.position() + length;
        ByteBuffer steps = bytes.slice(bytes.position(), length);
        while (steps.hasRemaining()) {
            readStep(code, steps);
        }
        bytes.position(end);
        code.caught = bytes.getShort();
        bytes.position(bytes.position() + 8 * code.caught);
        for (int count = bytes.getShort(); count > 0; count--) {
            String attribute = text(bytes.getShort());
            int next = bytes.getInt() + bytes.position();
            if (attribute.equals("LineNumberTable")) {
                readLines(code, bytes);
            }
            bytes.position(next);
        }
    }

    private static void readLines(Code code, ByteBuffer bytes) {
        for (int count = bytes.getShort(); count > 0; count--) {
            bytes.getShort();
            int line = bytes.getShort();
            code.firstLine = Math.min(code.firstLine, line);
            code.lastLine = Math.max(code.lastLine, line);
        }
    }

    private void readStep(Code code, ByteBuffer steps) {
        int start = steps.position();
        int step = steps.get() & 255;
        switch (step) {
            case NEW, NEW_ARRAY, A_NEW_ARRAY, MULTI_NEW_ARRAY -> code.made++;
            case THROW -> code.thrown++;
            case INVOKE_DYNAMIC -> code.dynamic++;
            default -> {
                if (step >= INVOKE_VIRTUAL && step <= INVOKE_INTERFACE) {
                    code.calls.add(member(steps.getShort(start + 1) & 0xffff));
                }
            }
        }
        steps.position(start + stepLength(steps, start, step));
    }

    private static int stepLength(ByteBuffer steps, int start, int step) {
        int table = start + 4 - start % 4;
        switch (step) {
            case 170: return table + 12 + 4 * (steps.getInt(table + 8) - steps.getInt(table + 4) + 1) - start;
            case 171: return table + 8 + 8 * steps.getInt(table + 4) - start;
            case 196: return (steps.get(start + 1) & 255) == 132 ? 6 : 4;
            case 16, 18, 169, 188: return 2;
            case 17, 19, 20, 132, 187, 189, 192, 193, 198, 199: return 3;
            case 197: return 4;
            case 185, 186, 200, 201: return 5;
            default: return step >= 21 && step <= 25 || step >= 54 && step <= 58 ? 2
                    : step >= 153 && step <= 168 || step >= 178 && step <= 184 ? 3 : 1;
        }
    }
}
