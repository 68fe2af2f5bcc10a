import java.io.DataInputStream;
import java.io.IOException;
import java.io.InputStream;
import java.util.Set;
import java.util.TreeSet;

/** What a compiled class names in its constants: the methods and fields that it uses. */
final class ClassFile {
    final Set<String> used = new TreeSet<>();
    boolean isDynamic = false;

    private final Object[] constants;

    ClassFile(Class<?> of) throws IOException {
        String file = of.getName() + ".class";
        try (InputStream in = ClassFile.class.getResourceAsStream(file);
                DataInputStream data = new DataInputStream(in)) {
            data.readLong();
            constants = new Object[data.readUnsignedShort()];
            for (int i = 1; i < constants.length; i++) {
                constants[i] = constant(data);
                // A long takes two places.
                i += constants[i] instanceof Long ? 1 : 0;
            }
        }
        for (Object constant : constants) {
            if (constant instanceof int[] pair && pair[0] >= 9 && pair[0] <= 11) {
                used.add(member(pair));
            }
        }
    }

    private Object constant(DataInputStream data) throws IOException {
        int tag = data.readUnsignedByte();
        switch (tag) {
            case 1:
                return data.readUTF();
            case 3:
            case 4:
                return data.readInt();
            case 5:
            case 6:
                return data.readLong();
            case 7:
            case 8:
            case 19:
            case 20:
                return new int[] {tag, data.readUnsignedShort()};
            case 15:
                isDynamic = true;
                return new int[] {tag, data.readUnsignedByte(), data.readUnsignedShort()};
            case 16:
                isDynamic = true;
                return new int[] {tag, data.readUnsignedShort()};
            case 17:
            case 18:
                isDynamic = true;
                return new int[] {tag, data.readUnsignedShort(), data.readUnsignedShort()};
            default:
                return new int[] {tag, data.readUnsignedShort(), data.readUnsignedShort()};
        }
    }

    private String member(int[] pair) {
        int[] owner = (int[]) constants[pair[1]];
        int[] nameAndType = (int[]) constants[pair[2]];
        return constants[owner[1]] + "." + constants[nameAndType[1]] + constants[nameAndType[2]];
    }
}
