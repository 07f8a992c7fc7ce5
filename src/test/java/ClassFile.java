import java.io.DataInputStream;
import java.io.IOException;
import java.util.ArrayList;
import java.util.BitSet;
import java.util.List;
import java.util.Set;
import java.util.TreeSet;

/** A class file: the fields and methods that it names, and the codes of its own methods. */
final class ClassFile {
    static final int ATHROW = 0xbf;
    static final int CHECKCAST = 0xc0;
    static final int MONITORENTER = 0xc2;

    private static final int FIRST_IF = 0x99;
    private static final int TABLESWITCH = 0xaa;
    private static final int LOOKUPSWITCH = 0xab;
    private static final int FIRST_INVOKE = 0xb6;
    private static final int LAST_INVOKE = 0xb9;
    private static final int WIDE = 0xc4;

    /** A method, with the methods that it calls, as "Pagerloom$Logs.pick". */
    static final class Method {
        String name = "";
        final Set<String> calls = new TreeSet<>();
        final BitSet codes = new BitSet();
        int catches = 0;
    }

    final String name;
    /** The fields and methods that the class names, its own and those of others. */
    final Set<String> named = new TreeSet<>();
    /** The tags of the pool: what kinds of constants the class has. */
    final BitSet tags = new BitSet();
    final List<Method> methods = new ArrayList<>();

    private String[] texts = new String[0];
    private int[][] refs = new int[0][];

    ClassFile(Class<?> inside) throws IOException {
        name = inside.getName();
        try (DataInputStream in = new DataInputStream(inside.getResourceAsStream(name + ".class"))) {
            in.skipNBytes(8);
            readPool(in);
            in.skipNBytes(6);
            in.skipNBytes(2L * in.readUnsignedShort());
            int fields = in.readUnsignedShort();
            for (int i = 0; i < fields; i++) {
                readMember(in);
            }
            int count = in.readUnsignedShort();
            for (int i = 0; i < count; i++) {
                methods.add(readMember(in));
            }
        }
    }

    private void readPool(DataInputStream in) throws IOException {
        int count = in.readUnsignedShort();
        texts = new String[count];
        refs = new int[count][];
        for (int i = 1; i < count; i++) {
            int tag = in.readUnsignedByte();
            tags.set(tag);
            if (tag == 1) {
                texts[i] = in.readUTF();
            } else if (tag == 3 || tag == 4) {
                in.skipNBytes(4);
            } else if (tag == 5 || tag == 6) {
                in.skipNBytes(8);
                i++;
            } else if (tag == 7 || tag == 8) {
                refs[i] = new int[] {tag, in.readUnsignedShort()};
            } else if (tag >= 9 && tag <= 12) {
                refs[i] = new int[] {tag, in.readUnsignedShort(), in.readUnsignedShort()};
            } else {
                throw new IOException("a tag that is not known: " + tag);
            }
        }
        for (int i = 1; i < count; i++) {
            if (refs[i] != null && refs[i][0] >= 9 && refs[i][0] <= 11) {
                named.add(nameAt(i));
            }
        }
    }

    /** The field or method that the pool has at a place. */
    private String nameAt(int at) {
        int[] ref = refs[at];
        return texts[refs[ref[1]][1]] + "." + texts[refs[ref[2]][1]];
    }

    private Method readMember(DataInputStream in) throws IOException {
        Method member = new Method();
        in.skipNBytes(2);
        member.name = texts[in.readUnsignedShort()];
        in.skipNBytes(2);
        int attributes = in.readUnsignedShort();
        for (int i = 0; i < attributes; i++) {
            String attribute = texts[in.readUnsignedShort()];
            int length = in.readInt();
            if (attribute.equals("Code")) {
                in.skipNBytes(4);
                byte[] codes = in.readNBytes(in.readInt());
                member.catches = in.readUnsignedShort();
                in.skipNBytes(length - 10L - codes.length);
                readCodes(codes, member);
            } else {
                in.skipNBytes(length);
            }
        }
        return member;
    }

    private void readCodes(byte[] codes, Method method) {
        for (int at = 0; at < codes.length; at += lengthAt(codes, at)) {
            int code = codes[at] & 0xff;
            method.codes.set(code);
            if (code >= FIRST_INVOKE && code <= LAST_INVOKE) {
                method.calls.add(nameAt((codes[at + 1] & 0xff) << 8 | codes[at + 2] & 0xff));
            }
        }
    }

    private static int lengthAt(byte[] codes, int at) {
        int code = codes[at] & 0xff;
        int operands = (at + 4) / 4 * 4;
        switch (code) {
            case TABLESWITCH:
                return operands + 12 + 4 * (intAt(codes, operands + 8) - intAt(codes, operands + 4) + 1) - at;
            case LOOKUPSWITCH:
                return operands + 8 + 8 * intAt(codes, operands + 4) - at;
            case WIDE:
                return (codes[at + 1] & 0xff) == 0x84 ? 6 : 4;
            default:
                return lengthOf(code);
        }
    }

    private static int lengthOf(int code) {
        boolean isLoadOrStore = code >= 0x15 && code <= 0x19 || code >= 0x36 && code <= 0x3a;
        if (isLoadOrStore || code == 0x10 || code == 0x12 || code == 0xa9 || code == 0xbc) {
            return 2;
        }
        boolean isThree = code == 0x11 || code == 0x13 || code == 0x14 || code == 0x84
                || code >= FIRST_IF && code <= 0xa8 || code >= 0xb2 && code <= 0xb8 || code == 0xbb
                || code == 0xbd || code == CHECKCAST || code == 0xc1 || code == 0xc6 || code == 0xc7;
        if (isThree) {
            return 3;
        }
        return code == 0xc5 ? 4 : code == 0xb9 || code == 0xba || code >= 0xc8 ? 5 : 1;
    }

    private static int intAt(byte[] codes, int at) {
        return (codes[at] & 0xff) << 24 | (codes[at + 1] & 0xff) << 16
                | (codes[at + 2] & 0xff) << 8 | codes[at + 3] & 0xff;
    }
}
