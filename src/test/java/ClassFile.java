import java.io.DataInputStream;
import java.io.IOException;
import java.io.InputStream;
import java.util.ArrayList;
import java.util.LinkedHashMap;
import java.util.List;
import java.util.Map;

/** What a compiled class does, method by method: the opcodes, and what is called. */
final class ClassFile {
    static final int NEW = 187;
    static final int MULTINEWARRAY = 197;

    private static final int UTF8 = 1;
    private static final int WIDE = 196;

    final String name;
    /** By its class, name and kinds: what a method has in it. */
    final Map<String, Code> methods = new LinkedHashMap<>();
    private Object[] constants;

    static final class Code {
        final List<Integer> opcodes = new ArrayList<>();
        final List<String> calls = new ArrayList<>();
        int catches;
    }

    private ClassFile(DataInputStream in) throws IOException {
        in.readLong();
        readConstants(in);
        in.readUnsignedShort();
        name = nameOf(in.readUnsignedShort());
        in.readUnsignedShort();
        in.skipBytes(2 * in.readUnsignedShort());
        for (int fields = in.readUnsignedShort(); fields > 0; fields--) {
            in.skipBytes(6);
            for (int kinds = in.readUnsignedShort(); kinds > 0; kinds--) {
                in.readUnsignedShort();
                in.skipBytes(in.readInt());
            }
        }
        for (int left = in.readUnsignedShort(); left > 0; left--) {
            readMethod(in);
        }
    }

    static ClassFile of(Class<?> c) throws IOException {
        String file = c.getName().replace('.', '/') + ".class";
        try (InputStream in = c.getClassLoader().getResourceAsStream(file)) {
            return new ClassFile(new DataInputStream(in));
        }
    }

    /** A text, or the bytes behind the tag, as numbers of two bytes. */
    private void readConstants(DataInputStream in) throws IOException {
        constants = new Object[in.readUnsignedShort()];
        for (int k = 1; k < constants.length; k++) {
            int tag = in.readUnsignedByte();
            switch (tag) {
                case UTF8: constants[k] = in.readUTF(); break;
                case 5: case 6: in.readLong(); k++; break;
                case 7: case 8: case 16: case 19: case 20:
                    constants[k] = new int[] {in.readUnsignedShort()};
                    break;
                case 15: in.skipBytes(3); break;
                default: constants[k] = new int[] {in.readUnsignedShort(), in.readUnsignedShort()}; break;
            }
        }
    }

    private String text(int k) {
        return (String) constants[k];
    }

    private int part(int k, int which) {
        return ((int[]) constants[k])[which];
    }

    private String nameOf(int classAt) {
        return text(part(classAt, 0));
    }

    private void readMethod(DataInputStream in) throws IOException {
        in.readUnsignedShort();
        Code code = new Code();
        methods.put(name + "." + text(in.readUnsignedShort()) + text(in.readUnsignedShort()), code);
        for (int kinds = in.readUnsignedShort(); kinds > 0; kinds--) {
            String kind = text(in.readUnsignedShort());
            byte[] bytes = new byte[in.readInt()];
            in.readFully(bytes);
            if (kind.equals("Code")) {
                int length = number(bytes, 4);
                readCode(code, bytes, 8, 8 + length);
                code.catches = number(bytes, 6 + length) & 0xffff;
            }
        }
    }

    private static int number(byte[] bytes, int at) {
        return (bytes[at] & 255) << 24 | (bytes[at + 1] & 255) << 16 | pair(bytes, at + 2);
    }

    private static int pair(byte[] bytes, int at) {
        return (bytes[at] & 255) << 8 | bytes[at + 1] & 255;
    }

    private void readCode(Code code, byte[] bytes, int from, int to) {
        for (int at = from; at < to; at += lengthAt(bytes, at, from)) {
            int opcode = bytes[at] & 255;
            code.opcodes.add(opcode);
            if (opcode >= 182 && opcode <= 185) {
                int called = pair(bytes, at + 1);
                int what = part(called, 1);
                code.calls.add(nameOf(part(called, 0)) + "." + text(part(what, 0)) + text(part(what, 1)));
            }
        }
    }

    private static int lengthAt(byte[] bytes, int at, int from) {
        int opcode = bytes[at] & 255;
        // The numbers of a switch begin at the next place that four divides.
        int table = at + 4 - (at - from) % 4;
        switch (opcode) {
            case 170: return table + 12 + 4 * (number(bytes, table + 8) - number(bytes, table + 4) + 1) - at;
            case 171: return table + 8 + 8 * number(bytes, table + 4) - at;
            case WIDE: return (bytes[at + 1] & 255) == 132 ? 6 : 4;
            case 185: case 186: case 200: case 201: return 5;
            case MULTINEWARRAY: return 4;
            case 16: case 18: case 169: case 188: return 2;
            case 17: case 19: case 20: case 132: case 189: case 192: case 193: case 198: case 199: return 3;
            default: break;
        }
        if (opcode >= 21 && opcode <= 25 || opcode >= 54 && opcode <= 58) {
            return 2;
        }
        return opcode >= 153 && opcode <= 168 || opcode >= 178 && opcode <= NEW ? 3 : 1;
    }
}
