import java.io.ByteArrayInputStream;
import java.io.DataInputStream;
import java.io.IOException;
import java.io.InputStream;
import java.util.ArrayList;
import java.util.List;

/** A compiled class as its file has it: its methods, what they call and make, which instructions they have. */
final class ClassFile {
    static final int ATHROW = 191;
    static final int INVOKEDYNAMIC = 186;
    static final int CHECKCAST = 192;
    static final int MONITORENTER = 194;
    static final int MULTIANEWARRAY = 197;
    private static final int FIRST_CALL = 182;
    private static final int LAST_CALL = 185;
    private static final int TABLESWITCH = 170;
    private static final int LOOKUPSWITCH = 171;
    private static final int NEW = 187;
    private static final int WIDE = 196;
    private static final int IINC = 132;

    /** What an instruction with a place in the table of constants names there. */
    record Named(int opcode, String owner, String name, String type) {
        boolean isCall() {
            return opcode >= FIRST_CALL && opcode <= LAST_CALL;
        }

        String key() {
            return owner + "." + name + type;
        }
    }

    record Method(String owner, String name, String type, int access, int handlers, List<Integer> opcodes, List<Named> named) {
        String key() {
            return owner + "." + name + type;
        }

        boolean makesSomething() {
            return opcodes.stream().anyMatch(o -> o >= NEW && o < 190 || o == MULTIANEWARRAY);
        }
    }

    final String name;
    final List<Method> methods = new ArrayList<>();
    private final String[] texts;
    private final int[][] pairs;
    private final byte[] code;

    private ClassFile(byte[] file) throws IOException {
        code = file;
        DataInputStream in = new DataInputStream(new ByteArrayInputStream(file));
        in.skipBytes(8);
        int size = in.readUnsignedShort();
        texts = new String[size];
        pairs = new int[size][];
        for (int i = 1; i < size; i++) {
            i += readConstant(in, i);
        }
        in.skipBytes(2);
        name = className(in.readUnsignedShort());
        in.skipBytes(2);
        in.skipBytes(2 * in.readUnsignedShort());
        readMembers(in, false);
        readMembers(in, true);
    }

    static ClassFile of(Class<?> c) throws IOException {
        try (InputStream in = c.getClassLoader().getResourceAsStream(c.getName().replace('.', '/') + ".class")) {
            return new ClassFile(in.readAllBytes());
        }
    }

    /** How many places more than one the constant takes. */
    private int readConstant(DataInputStream in, int i) throws IOException {
        int tag = in.readUnsignedByte();
        switch (tag) {
            case 1:
                texts[i] = in.readUTF();
                return 0;
            case 5:
            case 6:
                in.skipBytes(8);
                return 1;
            case 7:
            case 8:
            case 16:
            case 19:
            case 20:
                pairs[i] = new int[] {in.readUnsignedShort(), 0};
                return 0;
            case 15:
                in.skipBytes(3);
                return 0;
            case 3:
            case 4:
                in.skipBytes(4);
                return 0;
            default:
                pairs[i] = new int[] {in.readUnsignedShort(), in.readUnsignedShort()};
                return 0;
        }
    }

    private String className(int i) {
        return texts[pairs[i][0]];
    }

    private void readMembers(DataInputStream in, boolean asMethods) throws IOException {
        int many = in.readUnsignedShort();
        for (int i = 0; i < many; i++) {
            int access = in.readUnsignedShort();
            String member = texts[in.readUnsignedShort()];
            String type = texts[in.readUnsignedShort()];
            int attributes = in.readUnsignedShort();
            for (int a = 0; a < attributes; a++) {
                String attribute = texts[in.readUnsignedShort()];
                int length = in.readInt();
                int from = code.length - in.available();
                in.skipBytes(length);
                if (asMethods && attribute.equals("Code")) {
                    methods.add(readCode(from, access, member, type));
                }
            }
        }
    }

    private int at(int i) {
        return code[i] & 255;
    }

    private int two(int i) {
        return at(i) << 8 | at(i + 1);
    }

    private int four(int i) {
        return two(i) << 16 | two(i + 2);
    }

    private Method readCode(int from, int access, String member, String type) {
        int first = from + 8;
        int behind = first + four(from + 4);
        List<Integer> opcodes = new ArrayList<>();
        List<Named> named = new ArrayList<>();
        for (int i = first; i < behind; i += length(i, first)) {
            opcodes.add(at(i));
            if (at(i) >= 178 && at(i) <= 189 && at(i) != 188) {
                named.add(names(at(i), two(i + 1)));
            }
        }
        return new Method(name, member, type, access, two(behind), opcodes, named);
    }

    private Named names(int opcode, int i) {
        if (opcode >= NEW) {
            return new Named(opcode, className(i), "", "");
        }
        int[] pair = pairs[pairs[i][1]];
        String owner = opcode == INVOKEDYNAMIC ? "" : className(pairs[i][0]);
        return new Named(opcode, owner, texts[pair[0]], texts[pair[1]]);
    }

    private int length(int i, int first) {
        int opcode = at(i);
        if (opcode == TABLESWITCH || opcode == LOOKUPSWITCH) {
            int table = i + 4 - (i - first) % 4;
            int rest = opcode == TABLESWITCH ? 12 + 4 * (four(table + 8) - four(table + 4) + 1) : 8 + 8 * four(table + 4);
            return table + rest - i;
        }
        if (opcode == WIDE) {
            return at(i + 1) == IINC ? 6 : 4;
        }
        return plainLength(opcode);
    }

    private static boolean within(int opcode, int first, int last) {
        return opcode >= first && opcode <= last;
    }

    private static int plainLength(int opcode) {
        if (opcode == 16 || opcode == 18 || within(opcode, 21, 25) || within(opcode, 54, 58) || opcode == 169 || opcode == 188) {
            return 2;
        }
        if (within(opcode, 17, 20) || opcode == IINC || within(opcode, 153, 168) || within(opcode, 178, 184) || opcode == NEW
                || opcode == 189 || opcode == CHECKCAST || opcode == 193 || opcode == 198 || opcode == 199) {
            return 3;
        }
        if (opcode == MULTIANEWARRAY) {
            return 4;
        }
        return opcode == 185 || opcode == INVOKEDYNAMIC || opcode == 200 || opcode == 201 ? 5 : 1;
    }
}
