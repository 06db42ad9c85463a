import java.io.ByteArrayInputStream;
import java.io.DataInputStream;
import java.io.IOException;
import java.io.InputStream;
import java.lang.invoke.MethodType;
import java.lang.reflect.Constructor;
import java.lang.reflect.Method;
import java.util.ArrayList;
import java.util.HashMap;
import java.util.List;
import java.util.Map;
import java.util.Set;
import java.util.TreeMap;
import java.util.TreeSet;

/** LANGUAGE.md's rules 3, 4, 6 and 11, as far as they can be seen in what javac made: the library, the calls' depth. */
public final class ClassFileTest {
    private static final Set<String> LIBRARY = Set.of("java/lang/Object.<init>()V", "java/lang/Math.min(II)I",
        "java/lang/Math.max(II)I", "java/lang/Math.abs(I)I", "java/lang/String.length()I", "java/lang/String.charAt(I)C",
        "java/util/Arrays.copyOf([II)[I", "java/lang/System.arraycopy(Ljava/lang/Object;ILjava/lang/Object;II)V");
    private static final int INVOKE_VIRTUAL = 182, INVOKE_SPECIAL = 183, INVOKE_STATIC = 184, INVOKE_INTERFACE = 185;
    private static final int INVOKE_DYNAMIC = 186, NEW_ARRAY = 188, THROW = 191, CAST = 192, LOCK = 194, UNLOCK = 195;
    private static final int TABLE_SWITCH = 170, LOOKUP_SWITCH = 171, WIDE = 196, DEEPEST = 8;

    private static final Map<String, String> ABOVE = new HashMap<>();
    private static final Set<String> METHODS = new TreeSet<>();
    private static final Map<String, Set<String>> CALLS = new TreeMap<>();

    public static void main(String[] args) throws IOException {
        List<Class<?>> classes = new ArrayList<>(List.of(HoneyWinds.class.getDeclaredClasses()));
        classes.add(HoneyWinds.class);
        for (Class<?> c : classes) {
            ABOVE.put(c.getName(), c.getSuperclass().getName());
            for (Method m : c.getDeclaredMethods()) {
                MethodType type = MethodType.methodType(m.getReturnType(), m.getParameterTypes());
                METHODS.add(c.getName() + "." + m.getName() + type.toMethodDescriptorString());
            }
            for (Constructor<?> m : c.getDeclaredConstructors()) {
                MethodType type = MethodType.methodType(void.class, m.getParameterTypes());
                METHODS.add(c.getName() + ".<init>" + type.toMethodDescriptorString());
            }
        }
        for (Class<?> c : classes) {
            try (InputStream in = c.getResourceAsStream(c.getName() + ".class")) {
                new Look(c.getName(), in.readAllBytes()).all();
            }
        }
        Due.due("methods that were looked at", CALLS.size(), METHODS.size());
        depths();
        Due.end();
    }

    // ---- how deep the calls go

    private static void depths() {
        Due.sentence("calls that are no recursion go at most eight deep");
        int deepest = 0;
        for (String method : CALLS.keySet()) {
            int depth = depth(method, new ArrayList<>());
            Due.due(method + ": deeper than " + DEEPEST, Math.max(DEEPEST, depth), DEEPEST);
            deepest = Math.max(deepest, depth);
        }
        Due.due("the deepest is an act's, at least five", deepest >= 5 ? 1 : 0, 1);
    }

    // Calls within a round of calls are recursion: they count as one.
    private static int depth(String method, List<String> open) {
        int deepest = 0;
        open.add(method);
        for (String callee : CALLS.get(method)) {
            if (CALLS.containsKey(callee) && !open.contains(callee)) {
                boolean recursion = reaches(callee, method, new TreeSet<>());
                deepest = Math.max(deepest, depth(callee, open) - (recursion ? 1 : 0));
            }
        }
        open.remove(method);
        return deepest + 1;
    }

    private static boolean reaches(String from, String to, Set<String> seen) {
        if (from.equals(to)) {
            return true;
        }
        if (!seen.add(from) || !CALLS.containsKey(from)) {
            return false;
        }
        for (String callee : CALLS.get(from)) {
            if (reaches(callee, to, seen)) {
                return true;
            }
        }
        return false;
    }

    private static boolean isUnder(String name, String above) {
        String n = name;
        while (n != null && !n.equals(above)) {
            n = ABOVE.get(n);
        }
        return n != null;
    }

    /** One class file. */
    private static final class Look {
        private final String name;
        private final DataInputStream in;
        private int[] tags;
        private int[] ones;
        private int[] others;
        private String[] texts;

        Look(String name, byte[] bytes) {
            this.name = name;
            in = new DataInputStream(new ByteArrayInputStream(bytes));
        }

        void all() throws IOException {
            in.skipBytes(8);
            pool();
            library();
            in.skipBytes(6);
            in.skipBytes(2 * in.readUnsignedShort());
            members(false);
            members(true);
        }

        private void pool() throws IOException {
            int many = in.readUnsignedShort();
            tags = new int[many];
            ones = new int[many];
            others = new int[many];
            texts = new String[many];
            for (int i = 1; i < many; i++) {
                tags[i] = in.readUnsignedByte();
                switch (tags[i]) {
                    case 1: texts[i] = in.readUTF(); break;
                    case 3: in.readInt(); break;
                    case 5: in.readLong(); i++; break;
                    case 7: case 8: case 16: ones[i] = in.readUnsignedShort(); break;
                    case 9: case 10: case 11: case 12:
                        ones[i] = in.readUnsignedShort();
                        others[i] = in.readUnsignedShort();
                        break;
                    default: throw new IllegalStateException(name + ": a constant of tag " + tags[i]);
                }
            }
        }

        private void library() {
            Due.sentence("The library: only what stands here.");
            for (int i = 1; i < tags.length; i++) {
                if (tags[i] == 9 || tags[i] == 10 || tags[i] == 11) {
                    String owner = texts[ones[ones[i]]];
                    boolean own = owner.startsWith("HoneyWinds");
                    Due.due(name + " uses " + member(i), own || LIBRARY.contains(member(i)) ? 1 : 0, 1);
                }
            }
        }

        private String member(int i) {
            return texts[ones[ones[i]]] + "." + texts[ones[others[i]]]
                + (tags[i] == 9 ? "" : texts[others[others[i]]]);
        }

        private void members(boolean methods) throws IOException {
            int many = in.readUnsignedShort();
            for (int i = 0; i < many; i++) {
                in.skipBytes(2);
                String method = name + "." + texts[in.readUnsignedShort()];
                method += texts[in.readUnsignedShort()];
                int attributes = in.readUnsignedShort();
                for (int a = 0; a < attributes; a++) {
                    String kind = texts[in.readUnsignedShort()];
                    byte[] bytes = in.readNBytes(in.readInt());
                    if (methods && kind.equals("Code")) {
                        code(method, new DataInputStream(new ByteArrayInputStream(bytes)));
                    }
                }
            }
        }

        private void code(String method, DataInputStream told) throws IOException {
            Set<String> calls = new TreeSet<>();
            CALLS.put(method, calls);
            told.skipBytes(4);
            byte[] code = told.readNBytes(told.readInt());
            Due.sentence("No throw, try, catch");
            Due.due(method + ": what is caught", told.readUnsignedShort(), 0);
            for (int at = 0; at < code.length; at += length(code, at)) {
                int op = code[at] & 255;
                Due.sentence("No throw, .., synchronized, .. ; no lambda, no method reference; a cast only behind its test");
                boolean banned = op == THROW || op == LOCK || op == UNLOCK || op == INVOKE_DYNAMIC || op == CAST;
                Due.due(method + ": instruction " + op, banned ? 1 : 0, 0);
                if (op >= INVOKE_VIRTUAL && op <= INVOKE_INTERFACE) {
                    calls(calls, op, (code[at + 1] & 255) << 8 | code[at + 2] & 255);
                }
            }
        }

        private void calls(Set<String> calls, int op, int i) {
            String owner = texts[ones[ones[i]]];
            String rest = "." + texts[ones[others[i]]] + texts[others[others[i]]];
            String said = owner;
            while (said != null && !declares(said, rest)) {
                said = ABOVE.get(said);
            }
            calls.add((said == null ? owner : said) + rest);
            if (op == INVOKE_VIRTUAL) {
                for (String under : ABOVE.keySet()) {
                    if (isUnder(under, owner) && declares(under, rest)) {
                        calls.add(under + rest);
                    }
                }
            }
        }

        private static boolean declares(String owner, String rest) {
            return ABOVE.containsKey(owner) && METHODS.contains(owner + rest);
        }

        private static int length(byte[] code, int at) {
            int op = code[at] & 255;
            int even = at + 4 - at % 4;
            if (op == TABLE_SWITCH) {
                return even - at + 12 + 4 * (number(code, even + 8) - number(code, even + 4) + 1);
            }
            if (op == LOOKUP_SWITCH) {
                return even - at + 8 + 8 * number(code, even + 4);
            }
            if (op == WIDE) {
                return (code[at + 1] & 255) == 132 ? 6 : 4;
            }
            if (op == 16 || op == 18 || op >= 21 && op <= 25 || op >= 54 && op <= 58 || op == 169 || op == NEW_ARRAY) {
                return 2;
            }
            if (op == INVOKE_INTERFACE || op == INVOKE_DYNAMIC || op == 200 || op == 201) {
                return 5;
            }
            if (op == 197) {
                return 4;
            }
            boolean three = op == 17 || op == 19 || op == 20 || op == 132 || op >= 153 && op <= 168 || op >= 178 && op <= 184
                || op == 187 || op == 189 || op == CAST || op == 193 || op == 198 || op == 199;
            return three ? 3 : 1;
        }

        private static int number(byte[] code, int at) {
            return code[at] << 24 | (code[at + 1] & 255) << 16 | (code[at + 2] & 255) << 8 | code[at + 3] & 255;
        }
    }
}
