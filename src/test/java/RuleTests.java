import java.io.ByteArrayInputStream;
import java.io.DataInputStream;
import java.io.File;
import java.nio.ByteBuffer;
import java.nio.file.Files;
import java.util.ArrayList;
import java.util.LinkedHashMap;
import java.util.List;
import java.util.Map;
import java.util.Set;
import java.util.TreeMap;
import java.util.TreeSet;

/**
 * The rules of LANGUAGE.md that can be seen in what javac makes of the source: which library is used, how deep calls
 * go, where objects are made, and that the machine finds nothing to throw for: no index but within Row, which looks at
 * each, no divisor but a constant, no cast, no catch.
 */
public final class RuleTests {
    private static final Due due = new Due("RuleTests");
    private static final int DEEPEST = 8;
    private static final int MOST_PARAMETERS = 7;
    private static final Set<String> LIBRARY = Set.of(
            "java/lang/Object.<init>()V", "java/lang/System.arraycopy(Ljava/lang/Object;ILjava/lang/Object;II)V",
            "java/lang/Math.max(II)I", "java/lang/Math.min(II)I",
            "java/lang/String.length()I", "java/lang/String.charAt(I)C",
            "java/lang/StringBuilder.<init>()V", "java/lang/StringBuilder.append(C)Ljava/lang/StringBuilder;",
            "java/lang/StringBuilder.append(I)Ljava/lang/StringBuilder;", "java/lang/StringBuilder.charAt(I)C",
            "java/lang/StringBuilder.setLength(I)V", "java/lang/StringBuilder.length()I",
            "java/lang/StringBuilder.toString()Ljava/lang/String;",
            "java/lang/IllegalArgumentException.<init>(Ljava/lang/String;)V",
            "java/lang/IllegalStateException.<init>(Ljava/lang/String;)V",
            "java/lang/IndexOutOfBoundsException.<init>(Ljava/lang/String;)V");

    /** One instruction, with what it names. */
    private record Step(int code, int number, String name) {
    }

    private record Method(String name, List<Step> steps, int catches) {
    }

    private static final Map<String, Method> METHODS = new LinkedHashMap<>();
    private static final Map<String, Integer> DEPTHS = new TreeMap<>();

    /** Argument: where the class was compiled to. */
    public static void main(String[] args) throws Exception {
        for (File file : new File(args[0]).listFiles()) {
            if (file.getName().matches("Heapkeep.*\\.class")) {
                read(Files.readAllBytes(file.toPath()));
            }
        }
        due.is(1, "there are many methods", METHODS.size() > 150, true);
        for (Method method : METHODS.values()) {
            look(method);
        }
        for (String name : METHODS.keySet()) {
            int depth = depth(name, new ArrayList<>());
            due.is(1, "the calls below " + name + " go at most eight deep (" + depth + ")", depth <= DEEPEST, true);
        }
        due.end();
    }

    private static void look(Method method) {
        boolean isConstructor = method.name.contains(".<init>");
        boolean isOfRow = method.name.startsWith("Heapkeep$Row.");
        due.is(1, method.name + " has no catch", method.catches, 0);
        due.is(1, method.name + " takes few", java.lang.invoke.MethodType.fromMethodDescriptorString(
                method.name.substring(method.name.indexOf('(')), RuleTests.class.getClassLoader()).parameterCount()
                <= MOST_PARAMETERS, true);
        for (int i = 0; i < method.steps.size(); i++) {
            Step step = method.steps.get(i);
            Step before = i > 0 ? method.steps.get(i - 1) : step;
            String where = " in " + method.name;
            switch (step.code) {
                case 0x2e, 0x4f, 0xbc, 0xbe ->
                        due.is(1, "an array" + where + ", within Row alone", isOfRow, true);
                case 0x6c, 0x6d, 0x70, 0x71 ->
                        due.is(1, "a divisor" + where + " is a constant", before.number != 0, true);
                case 0xbb ->
                        due.is(1, step.name + " is made" + where, isConstructor || step.name.endsWith("Exception"), true);
                case 0xbf -> due.is(1, "a throw" + where + ", no constructor", isConstructor, false);
                case 0xb6, 0xb7, 0xb8 ->
                        due.is(1, step.name + " is called" + where, METHODS.containsKey(step.name) || LIBRARY.contains(step.name), true);
                default -> due.is(1, "the instruction " + step.code + where + " is plain", isPlain(step.code), true);
            }
        }
    }

    /** Nothing of doubles and floats, other arrays, casts, locks, interfaces, and what a lambda or a joining by + needs. */
    private static boolean isPlain(int code) {
        boolean isFraction = code >= 0x0b && code <= 0x0f || code == 0x17 || code == 0x18 || code >= 0x22 && code <= 0x29
                || code >= 0x86 && code <= 0x90 || code >= 0x95 && code <= 0x98;
        boolean isOtherArray = code >= 0x2f && code <= 0x35 || code >= 0x50 && code <= 0x56 || code == 0xbd || code == 0xc5;
        boolean isOfLong = code == 0x85 || code == 0x88;
        return isOfLong || !isFraction && !isOtherArray && (code <= 0xb5 || code >= 0xc6 && code <= 0xc8) && code != 0xa8 && code != 0xa9;
    }

    /** How many methods of the program's own stand open at once at most, constructors apart. */
    private static int depth(String name, List<String> open) {
        due.is(1, name + " does not call itself", open.contains(name), false);
        Integer known = DEPTHS.get(name);
        if (known != null || open.contains(name)) {
            return known == null ? 0 : known;
        }
        open.add(name);
        int deepest = 0;
        for (Step step : METHODS.get(name).steps) {
            if (step.code >= 0xb6 && step.code <= 0xb8 && METHODS.containsKey(step.name)) {
                deepest = Math.max(deepest, depth(step.name, open));
            }
        }
        open.remove(name);
        DEPTHS.put(name, deepest + 1);
        return deepest + 1;
    }

    // ---- reading a class file

    private static void read(byte[] bytes) throws Exception {
        DataInputStream in = new DataInputStream(new ByteArrayInputStream(bytes));
        in.readLong();
        String[] names = constants(in);
        in.readShort();
        String owner = names[in.readUnsignedShort()];
        in.readShort();
        in.skipBytes(2 * in.readUnsignedShort());
        for (int fields = in.readUnsignedShort(); fields > 0; fields--) {
            in.skipBytes(6);
            skipAttributes(in);
        }
        for (int methods = in.readUnsignedShort(); methods > 0; methods--) {
            in.readShort();
            String name = owner + "." + names[in.readUnsignedShort()] + names[in.readUnsignedShort()];
            for (int attributes = in.readUnsignedShort(); attributes > 0; attributes--) {
                String attribute = names[in.readUnsignedShort()];
                byte[] content = new byte[in.readInt()];
                in.readFully(content);
                if (attribute.equals("Code")) {
                    METHODS.put(name, method(name, ByteBuffer.wrap(content), names));
                }
            }
        }
    }

    private static void skipAttributes(DataInputStream in) throws Exception {
        for (int attributes = in.readUnsignedShort(); attributes > 0; attributes--) {
            in.readShort();
            in.skipBytes(in.readInt());
        }
    }

    /** Each constant's text: a class's name, a member's owner, name and kind, a number. */
    private static String[] constants(DataInputStream in) throws Exception {
        int many = in.readUnsignedShort();
        String[] texts = new String[many];
        int[][] parts = new int[many][];
        for (int i = 1; i < many; i++) {
            int tag = in.readUnsignedByte();
            switch (tag) {
                case 1 -> texts[i] = in.readUTF();
                case 3 -> texts[i] = "" + in.readInt();
                case 5 -> texts[i++] = "" + in.readLong();
                case 7, 8, 16, 19, 20 -> parts[i] = new int[] {in.readUnsignedShort()};
                case 9, 10, 11, 12, 17, 18 -> parts[i] = new int[] {in.readUnsignedShort(), in.readUnsignedShort(), tag};
                default -> throw new IllegalStateException("a constant of the kind " + tag);
            }
        }
        for (int i = 1; i < many; i++) {
            texts[i] = text(i, texts, parts);
        }
        return texts;
    }

    private static String text(int at, String[] texts, int[][] parts) {
        int[] part = parts[at];
        if (part == null) {
            return texts[at];
        }
        String first = text(part[0], texts, parts);
        return part.length == 1 ? first : first + (part[2] == 12 ? "" : ".") + text(part[1], texts, parts);
    }

    private static Method method(String name, ByteBuffer content, String[] names) {
        content.getInt();
        int end = content.getInt() + 8;
        List<Step> steps = new ArrayList<>();
        while (content.position() < end) {
            steps.add(step(content, names));
        }
        return new Method(name, steps, content.getShort());
    }

    private static Step step(ByteBuffer content, String[] names) {
        int begin = content.position();
        int code = content.get() & 0xff;
        int length = lengthOf(code, content, begin);
        int number = code >= 2 && code <= 10 ? 1 : 0;
        String name = "";
        if (code == 0x03 || code == 0x09) {
            number = 0;
        } else if (code == 0x10) {
            number = content.get();
        } else if (code == 0x11) {
            number = content.getShort();
        } else if (code == 0x12 || code == 0x13 || code == 0x14 || code >= 0xb2 && code <= 0xbb) {
            name = names[code == 0x12 ? content.get() & 0xff : content.getShort() & 0xffff];
        }
        content.position(begin + length);
        return new Step(code, number, name);
    }

    private static int lengthOf(int code, ByteBuffer content, int begin) {
        int padded = (begin - 8) / 4 * 4 + 4 + 8;
        if (code == 0xaa) {
            return padded + 12 + 4 * (content.getInt(padded + 8) - content.getInt(padded + 4) + 1) - begin;
        }
        if (code == 0xab) {
            return padded + 8 + 8 * content.getInt(padded + 4) - begin;
        }
        if (code == 0xb9 || code == 0xba || code == 0xc8 || code == 0xc9) {
            return 5;
        }
        boolean isOfThree = code == 0x11 || code == 0x13 || code == 0x14 || code == 0x84 || code >= 0x99 && code <= 0xa8
                || code >= 0xb2 && code <= 0xb8 || code == 0xbb || code == 0xbd || code == 0xc0 || code == 0xc1
                || code == 0xc6 || code == 0xc7;
        boolean isOfTwo = code == 0x10 || code == 0x12 || code >= 0x15 && code <= 0x19 || code >= 0x36 && code <= 0x3a
                || code == 0xa9 || code == 0xbc;
        return isOfThree ? 3 : isOfTwo ? 2 : 1;
    }
}
