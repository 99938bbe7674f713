import java.io.ByteArrayInputStream;
import java.io.DataInputStream;
import java.io.IOException;
import java.io.InputStream;
import java.util.Map;
import java.util.Set;
import java.util.TreeMap;
import java.util.TreeSet;

/** Reads out of a class file which methods each of its methods calls, the library's too. */
final class ClassCalls {
    private static final int UTF8 = 1, LONG = 5, DOUBLE = 6, CLASS = 7, NAME_AND_TYPE = 12;
    private static final int TABLE_SWITCH = 170, LOOKUP_SWITCH = 171, INVOKE_VIRTUAL = 182, INVOKE_INTERFACE = 185;
    private static final int INVOKE_DYNAMIC = 186, WIDE = 196, IINC = 132;

    /** By "Class.method(..)": what it calls. Whatever is bound only when it runs is called "dynamic". */
    final Map<String, Set<String>> calls = new TreeMap<>();
    /** Classes whose fields are used. */
    final Set<String> fieldOwners = new TreeSet<>();
    private final DataInputStream in;
    private int[] tags;
    private int[] firsts;
    private int[] seconds;
    private String[] words;

    ClassCalls(Class<?> read) throws IOException {
        String file = "/" + read.getName() + ".class";
        try (InputStream stream = read.getResourceAsStream(file); DataInputStream data = new DataInputStream(stream)) {
            in = data;
            in.skipNBytes(8);
            constants();
            in.skipNBytes(6);
            in.skipNBytes(2L * in.readUnsignedShort());
            members(null);
            members(read.getName());
        }
    }

    private void constants() throws IOException {
        int size = in.readUnsignedShort();
        tags = new int[size];
        firsts = new int[size];
        seconds = new int[size];
        words = new String[size];
        for (int i = 1; i < size; i++) {
            tags[i] = in.readUnsignedByte();
            switch (tags[i]) {
                case UTF8 -> words[i] = in.readUTF();
                case CLASS, 8, 16, 19, 20 -> firsts[i] = in.readUnsignedShort();
                case 15 -> in.skipNBytes(3);
                case LONG, DOUBLE -> in.skipNBytes(8);
                case 3, 4 -> in.skipNBytes(4);
                default -> {
                    firsts[i] = in.readUnsignedShort();
                    seconds[i] = in.readUnsignedShort();
                }
            }
            i += tags[i] == LONG || tags[i] == DOUBLE ? 1 : 0;
        }
        for (int i = 1; i < size; i++) {
            if (tags[i] == 9) {
                fieldOwners.add(words[firsts[firsts[i]]].replace('/', '.'));
            }
        }
    }

    /** Fields, or the methods of a class that is named. */
    private void members(String owner) throws IOException {
        for (int left = in.readUnsignedShort(); left > 0; left--) {
            in.skipNBytes(2);
            String name = words[in.readUnsignedShort()] + words[in.readUnsignedShort()];
            Set<String> called = new TreeSet<>();
            for (int more = in.readUnsignedShort(); more > 0; more--) {
                String kind = words[in.readUnsignedShort()];
                byte[] body = in.readNBytes(in.readInt());
                if (kind.equals("Code")) {
                    code(body, called);
                }
            }
            if (owner != null) {
                calls.put(owner + "." + name, called);
            }
        }
    }

    private void code(byte[] body, Set<String> called) throws IOException {
        DataInputStream data = new DataInputStream(new ByteArrayInputStream(body));
        data.skipNBytes(4);
        byte[] code = data.readNBytes(data.readInt());
        for (int at = 0; at < code.length; at += 1 + operands(code, at)) {
            int operation = code[at] & 255;
            if (operation == INVOKE_DYNAMIC) {
                called.add("dynamic");
            } else if (operation >= INVOKE_VIRTUAL && operation <= INVOKE_INTERFACE) {
                called.add(methodOf((code[at + 1] & 255) << 8 | code[at + 2] & 255));
            }
        }
    }

    private String methodOf(int constant) {
        int named = seconds[constant];
        if (tags[named] != NAME_AND_TYPE) {
            throw new IllegalStateException("not a method's constant: " + constant);
        }
        String owner = words[firsts[firsts[constant]]].replace('/', '.');
        return owner + "." + words[firsts[named]] + words[seconds[named]];
    }

    private static int operands(byte[] code, int at) {
        int operation = code[at] & 255;
        int padding = 3 - at % 4;
        int table = at + 1 + padding;
        return switch (operation) {
            case 16, 18, 21, 22, 23, 24, 25, 54, 55, 56, 57, 58, 169, 188 -> 1;
            case 17, 19, 20, IINC, 178, 179, 180, 181, 182, 183, 184, 187, 189, 192, 193, 198, 199 -> 2;
            case 197 -> 3;
            case INVOKE_INTERFACE, INVOKE_DYNAMIC, 200, 201 -> 4;
            case WIDE -> (code[at + 1] & 255) == IINC ? 5 : 3;
            case TABLE_SWITCH -> padding + 12 + 4 * (number(code, table + 8) - number(code, table + 4) + 1);
            case LOOKUP_SWITCH -> padding + 8 + 8 * number(code, table + 4);
            default -> operation >= 153 && operation <= 168 ? 2 : 0;
        };
    }

    private static int number(byte[] code, int at) {
        return (code[at] & 255) << 24 | (code[at + 1] & 255) << 16 | (code[at + 2] & 255) << 8 | code[at + 3] & 255;
    }
}
