import java.io.DataInputStream;
import java.io.IOException;
import java.io.InputStream;
import java.util.ArrayDeque;
import java.util.ArrayList;
import java.util.Deque;
import java.util.List;
import java.util.Map;
import java.util.Set;
import java.util.TreeMap;
import java.util.TreeSet;

/** The rules of LANGUAGE.md that only the compiled classes show: which calls there are, and how deep they go. */
public final class ClassFileTests {

    private static final Set<String> LIBRARY = Set.of("java/lang/Object.<init>", "java/lang/Math.max", "java/lang/Math.min",
        "java/lang/Math.floorMod", "java/lang/System.arraycopy", "java/lang/String.length", "java/lang/String.charAt");
    private static final int ATHROW = 191, CHECKCAST = 192, INSTANCEOF = 193, MONITORENTER = 194, MULTIANEWARRAY = 197;
    private static final int NEWARRAY = 188, ANEWARRAY = 189, INVOKEVIRTUAL = 182, INVOKEDYNAMIC = 186;
    private static final int WIDE_PREFIX = 196, TABLESWITCH = 170, LOOKUPSWITCH = 171;
    /** How many bytes follow an opcode, for each from 0 to 201; the three above are reckoned by themselves. */
    private static final String FOLLOW = "0000000000000000" + "1212211111" + "0".repeat(28) + "11111" + "0".repeat(73) + "2"
        + "0".repeat(20) + "2222222222222222" + "1" + "00" + "000000" + "2222222" + "44" + "212" + "00" + "22" + "00" + "0" + "3" + "22" + "44";

    private static int wrong = 0;
    /** Each method with those of the class's own that it calls. */
    private static final Map<String, Set<String>> calls = new TreeMap<>();
    private static final Set<String> face = new TreeSet<>();
    private static final Set<String> hidden = new TreeSet<>();

    public static void main(String[] args) throws IOException {
        read("ChanceSteps");
        for (Class<?> c : ChanceSteps.class.getDeclaredClasses()) read(c.getName());
        for (var m : ChanceSteps.class.getDeclaredMethods()) {
            if (java.lang.reflect.Modifier.isPublic(m.getModifiers())) face.add("ChanceSteps." + m.getName());
        }
        hold(calls.size() > 100, "the methods are found: " + calls.size());
        depth();
        System.out.println(calls.size() + " methods looked at, the deepest way has " + deepest + ", " + wrong + " rules are broken");
        if (wrong != 0) System.exit(1);
    }

    private static void hold(boolean so, String rule) {
        if (!so) {
            wrong++;
            System.out.println("broken: " + rule);
        }
    }

    // ---- class files

    private static int u2(byte[] b, int i) { return (b[i] & 255) << 8 | b[i + 1] & 255; }
    private static int s4(byte[] b, int i) { return u2(b, i) << 16 | u2(b, i + 2); }

    private static void read(String name) throws IOException {
        try (InputStream file = ClassFileTests.class.getResourceAsStream("/" + name + ".class"); DataInputStream in = new DataInputStream(file)) {
            in.readInt();
            in.readInt();
            int size = in.readUnsignedShort();
            Object[] pool = new Object[size];
            for (int i = 1; i < size; i++) {
                int tag = in.readUnsignedByte();
                switch (tag) {
                    case 1: pool[i] = in.readUTF(); break;
                    case 3: case 4: in.readInt(); break;
                    case 5: case 6: in.readLong(); i++; break;
                    case 7: case 8: case 16: case 19: case 20: pool[i] = new int[] {in.readUnsignedShort()}; break;
                    case 15: in.readUnsignedByte(); in.readUnsignedShort(); break;
                    default: pool[i] = new int[] {in.readUnsignedShort(), in.readUnsignedShort()};
                }
            }
            in.readUnsignedShort();
            in.readUnsignedShort();
            in.readUnsignedShort();
            for (int n = in.readUnsignedShort(); n > 0; n--) in.readUnsignedShort();
            members(in, pool, name, false);
            members(in, pool, name, true);
        }
    }

    private static void members(DataInputStream in, Object[] pool, String owner, boolean methods) throws IOException {
        for (int n = in.readUnsignedShort(); n > 0; n--) {
            int flags = in.readUnsignedShort();
            String name = owner + "." + pool[in.readUnsignedShort()];
            in.readUnsignedShort();
            if (methods) calls.putIfAbsent(name, new TreeSet<>());
            if (methods && java.lang.reflect.Modifier.isPrivate(flags)) hidden.add(name);
            for (int k = in.readUnsignedShort(); k > 0; k--) {
                Object attribute = pool[in.readUnsignedShort()];
                byte[] bytes = new byte[in.readInt()];
                in.readFully(bytes);
                if ("Code".equals(attribute)) code(bytes, pool, name);
            }
        }
    }

    private static void code(byte[] b, Object[] pool, String method) {
        int end = 8 + s4(b, 4);
        hold(u2(b, end) == 0, "rule 6: nothing is caught in " + method);
        int i = 8;
        while (i < end) {
            int op = b[i] & 255;
            hold(op != ATHROW && op != CHECKCAST && op != INSTANCEOF && op != MONITORENTER && op != INVOKEDYNAMIC && op != MULTIANEWARRAY,
                "opcode " + op + " in " + method);
            boolean made = method.endsWith(".<init>") || method.endsWith(".<clinit>");
            hold(made || op != NEWARRAY && op != ANEWARRAY, "the room: an array is made outside a constructor in " + method);
            if (op >= INVOKEVIRTUAL && op < INVOKEDYNAMIC) called(pool, u2(b, i + 1), method);
            i += length(b, i, op);
        }
        hold(i == end, "the opcodes of " + method + " are read");
    }

    private static int length(byte[] b, int i, int op) {
        if (op == WIDE_PREFIX) return (b[i + 1] & 255) == 132 ? 6 : 4;
        if (op != TABLESWITCH && op != LOOKUPSWITCH) return 1 + FOLLOW.charAt(op) - '0';
        int at = i + 4 - (i - 8) % 4;
        int rest = op == TABLESWITCH ? 12 + 4 * (s4(b, at + 8) - s4(b, at + 4) + 1) : 8 + 8 * s4(b, at + 4);
        return at + rest - i;
    }

    private static void called(Object[] pool, int index, String method) {
        int[] reference = (int[]) pool[index];
        String owner = (String) pool[((int[]) pool[reference[0]])[0]];
        String name = owner + "." + pool[((int[]) pool[reference[1]])[0]];
        if (owner.startsWith("ChanceSteps")) calls.computeIfAbsent(method, k -> new TreeSet<>()).add(name);
        else hold(LIBRARY.contains(name), "rule 4: " + method + " calls " + name);
    }

    // ---- how deep the calls go

    private static int deepest = 0;
    private static final Map<String, Integer> number = new TreeMap<>();
    private static final Map<String, Integer> low = new TreeMap<>();
    private static final Map<String, Integer> ring = new TreeMap<>();
    private static final Deque<String> open = new ArrayDeque<>();
    private static final List<List<String>> rings = new ArrayList<>();

    /** Methods that call one another count as one: they are a recursion. */
    private static void depth() {
        for (String m : calls.keySet()) if (!number.containsKey(m)) findRings(m);
        int[] deep = new int[rings.size()];
        for (int r = 0; r < rings.size(); r++) {
            deep[r] = 1;
            for (String m : rings.get(r)) {
                for (String to : calls.getOrDefault(m, Set.of())) {
                    if (ring.get(to) != r) deep[r] = Math.max(deep[r], deep[ring.get(to)] + 1);
                }
            }
        }
        for (String m : calls.keySet()) {
            boolean again = calls.get(m).contains(m) || rings.get(ring.get(m)).size() > 1;
            hold(!again || hidden.contains(m), "rule 8: " + m + " is in a recursion, and not private");
        }
        for (String m : face) {
            deepest = Math.max(deepest, deep[ring.get(m)]);
            hold(deep[ring.get(m)] <= 8, "rule 11: the calls from " + m + " go " + deep[ring.get(m)] + " deep");
            hold(rings.get(ring.get(m)).size() == 1, "rule 8: " + m + " is in no recursion");
        }
    }

    /** As Tarjan has it: those called stand ahead of those that call. */
    private static void findRings(String m) {
        number.put(m, number.size());
        low.put(m, number.get(m));
        open.push(m);
        for (String to : calls.getOrDefault(m, Set.of())) {
            if (!number.containsKey(to)) {
                findRings(to);
                low.merge(m, low.get(to), Math::min);
            } else if (!ring.containsKey(to)) {
                low.merge(m, number.get(to), Math::min);
            }
        }
        if (low.get(m).equals(number.get(m))) {
            List<String> found = new ArrayList<>();
            String last;
            do {
                last = open.pop();
                ring.put(last, rings.size());
                found.add(last);
            } while (!last.equals(m));
            rings.add(found);
        }
    }
}
