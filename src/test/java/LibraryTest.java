import java.io.DataInputStream;
import java.io.IOException;
import java.io.InputStream;
import java.util.ArrayList;
import java.util.List;
import java.util.Map;
import java.util.Set;

/** Reads the constants of the compiled classes: what they call outside VowRope must stand in LANGUAGE.md, rule 4. */
public final class LibraryTest {
    private static final Map<String, Set<String>> ALLOWED = Map.of(
        "java/lang/Object", Set.of("<init>"),
        "java/lang/Enum", Set.of("<init>", "valueOf", "ordinal"),
        "java/lang/Record", Set.of("<init>"),
        "java/lang/String", Set.of("length", "charAt", "isEmpty", "equals", "indexOf", "substring", "toCharArray", "<init>"),
        "java/lang/StringBuilder", Set.of("<init>", "append", "charAt", "setCharAt", "setLength", "deleteCharAt", "reverse",
            "length", "toString"),
        "java/lang/Math", Set.of("max", "min", "abs", "floorDiv", "floorMod"),
        "java/lang/Integer", Set.of("compare", "max", "min", "bitCount", "valueOf", "intValue"),
        "java/lang/Long", Set.of("compare", "max", "min", "bitCount"),
        "java/lang/System", Set.of("arraycopy"),
        "java/util/Arrays", Set.of("copyOf", "copyOfRange", "fill"));
    private static final int UTF8 = 1, INT = 3, LONG = 5, CLASS = 7, STRING = 8, FIELD = 9, METHOD = 10,
        INTERFACE_METHOD = 11, NAME_AND_TYPE = 12;

    private static int wrong = 0;

    public static void main(String[] args) throws IOException {
        List<Class<?>> classes = new ArrayList<>(List.of(VowRope.class.getDeclaredClasses()));
        classes.add(VowRope.class);
        for (Class<?> c : classes) {
            String name = c.getName().replace('.', '/');
            try (InputStream in = VowRope.class.getResourceAsStream("/" + name + ".class")) {
                look(name, new DataInputStream(in));
            }
        }
        if (wrong > 0) {
            System.exit(1);
        }
    }

    private static void look(String name, DataInputStream in) throws IOException {
        in.skipBytes(8);
        int n = in.readUnsignedShort();
        int[] tags = new int[n];
        int[][] refers = new int[n][2];
        String[] texts = new String[n];
        for (int k = 1; k < n; k++) {
            tags[k] = in.readUnsignedByte();
            switch (tags[k]) {
                case UTF8: texts[k] = in.readUTF(); break;
                case INT: in.readInt(); break;
                case LONG: in.readLong(); k++; break;
                case CLASS: case STRING: refers[k][0] = in.readUnsignedShort(); break;
                case FIELD: case METHOD: case INTERFACE_METHOD: case NAME_AND_TYPE:
                    refers[k][0] = in.readUnsignedShort();
                    refers[k][1] = in.readUnsignedShort();
                    break;
                // floats, doubles, and what lambdas and texts joined by + are made with
                default: say(name + " has a constant of tag " + tags[k]); return;
            }
        }
        for (int k = 1; k < n; k++) {
            if (tags[k] == FIELD || tags[k] == METHOD || tags[k] == INTERFACE_METHOD) {
                String owner = texts[refers[refers[k][0]][0]];
                allow(name, tags[k], owner, texts[refers[refers[k][1]][0]]);
            }
        }
    }

    private static void allow(String name, int tag, String owner, String member) {
        if (owner.equals("VowRope") || owner.startsWith("VowRope$")) {
            return;
        }
        boolean cloned = owner.startsWith("[") && member.equals("clone");
        boolean listed = tag == METHOD && ALLOWED.getOrDefault(owner, Set.of()).contains(member);
        if (!cloned && !listed) {
            say(name + " uses " + owner + "." + member);
        }
    }

    private static void say(String what) {
        wrong++;
        System.out.println(what);
    }
}
