import java.io.ByteArrayInputStream;
import java.io.DataInputStream;
import java.io.IOException;
import java.io.InputStream;
import java.nio.ByteBuffer;
import java.util.ArrayList;
import java.util.List;

/** The methods of a compiled class with their instructions, as far as the rules of LANGUAGE.md ask for them. */
final class Bytecode {
    static final int INT_DIVIDE = 108;
    static final int LONG_DIVIDE = 109;
    static final int INT_REMAINDER = 112;
    static final int LONG_REMAINDER = 113;
    static final int GET_FIELD = 180;
    static final int INVOKE_DYNAMIC = 186;
    static final int NEW = 187;
    static final int NEW_ARRAY = 188;
    static final int NEW_OBJECT_ARRAY = 189;
    static final int THROW = 191;
    static final int CAST = 192;
    static final int INSTANCE_OF = 193;
    static final int MONITOR_ENTER = 194;
    static final int NEW_DEEP_ARRAY = 197;

    private static final int TABLE_SWITCH = 170;
    private static final int LOOKUP_SWITCH = 171;
    private static final int INVOKE_VIRTUAL = 182;
    private static final int INVOKE_INTERFACE = 185;
    private static final int WIDE = 196;
    private static final int INT_INCREMENT = 132;

    /** An instruction; the target is the called method as owner.name(descriptor), or an empty text. */
    record Instruction(int opcode, String target) {
    }

    record Body(String owner, String name, String descriptor, List<Instruction> instructions, int handlers) {
        String title() {
            return owner + "." + name + descriptor;
        }
    }

    private final DataInputStream in;
    private Object[] constants;
    private int[] tags;
    private String owner;
    private final List<Body> bodies = new ArrayList<>();

    private Bytecode(InputStream in) {
        this.in = new DataInputStream(in);
    }

    static List<Body> of(Class<?> one) throws IOException {
        String name = one.getName().substring(one.getName().lastIndexOf('.') + 1) + ".class";
        try (InputStream in = one.getResourceAsStream(name)) {
            if (in == null) {
                throw new IOException("no class file for " + one);
            }
            Bytecode code = new Bytecode(new ByteArrayInputStream(in.readAllBytes()));
            code.read();
            return code.bodies;
        }
    }

    private void read() throws IOException {
        in.skipBytes(8);
        readConstants();
        in.skipBytes(2);
        owner = text(in.readUnsignedShort());
        in.skipBytes(2);
        in.skipBytes(2 * in.readUnsignedShort());
        readMembers();
        readMembers();
    }

    private void readConstants() throws IOException {
        constants = new Object[in.readUnsignedShort()];
        tags = new int[constants.length];
        for (int i = 1; i < constants.length; i++) {
            tags[i] = in.readUnsignedByte();
            switch (tags[i]) {
                case 1 -> constants[i] = in.readUTF();
                case 3, 4 -> in.skipBytes(4);
                case 5, 6 -> {
                    in.skipBytes(8);
                    i++;
                }
                case 7, 8, 16, 19, 20 -> constants[i] = new int[] {in.readUnsignedShort()};
                case 9, 10, 11, 12, 17, 18 ->
                    constants[i] = new int[] {in.readUnsignedShort(), in.readUnsignedShort()};
                case 15 -> in.skipBytes(3);
                default -> throw new IOException("constant of kind " + tags[i]);
            }
        }
    }

    /** A constant as a text: a class by its name, a member as owner.name and descriptor. */
    private String text(int index) {
        if (constants[index] instanceof String text) {
            return text;
        }
        if (!(constants[index] instanceof int[] parts)) {
            return "";
        }
        return switch (tags[index]) {
            case 9, 10, 11 -> text(parts[0]) + "." + text(parts[1]);
            case 12 -> text(parts[0]) + text(parts[1]);
            case 7 -> text(parts[0]);
            default -> "";
        };
    }

    private void readMembers() throws IOException {
        int count = in.readUnsignedShort();
        for (int i = 0; i < count; i++) {
            in.skipBytes(2);
            String name = text(in.readUnsignedShort());
            String descriptor = text(in.readUnsignedShort());
            int attributes = in.readUnsignedShort();
            for (int j = 0; j < attributes; j++) {
                boolean isCode = text(in.readUnsignedShort()).equals("Code");
                byte[] content = new byte[in.readInt()];
                in.readFully(content);
                if (isCode) {
                    bodies.add(bodyOf(name, descriptor, ByteBuffer.wrap(content)));
                }
            }
        }
    }

    private Body bodyOf(String name, String descriptor, ByteBuffer content) {
        content.getInt();
        byte[] bytes = new byte[content.getInt()];
        content.get(bytes);
        int handlers = content.getShort();
        List<Instruction> found = new ArrayList<>();
        ByteBuffer code = ByteBuffer.wrap(bytes);
        for (int at = 0; at < bytes.length; at += lengthAt(code, at)) {
            int opcode = bytes[at] & 255;
            boolean hasTarget = opcode >= INVOKE_VIRTUAL && opcode <= INVOKE_INTERFACE;
            found.add(new Instruction(opcode, hasTarget ? text(code.getShort(at + 1) & 65535) : ""));
        }
        return new Body(owner, name, descriptor, found, handlers);
    }

    private static int lengthAt(ByteBuffer code, int at) {
        int opcode = code.get(at) & 255;
        int table = (at + 4) / 4 * 4;
        return switch (opcode) {
            case TABLE_SWITCH -> table - at + 12 + 4 * (code.getInt(table + 8) - code.getInt(table + 4) + 1);
            case LOOKUP_SWITCH -> table - at + 8 + 8 * code.getInt(table + 4);
            case WIDE -> (code.get(at + 1) & 255) == INT_INCREMENT ? 6 : 4;
            case 200, 201, INVOKE_INTERFACE, INVOKE_DYNAMIC -> 5;
            case NEW_DEEP_ARRAY -> 4;
            case 16, 18, 21, 22, 23, 24, 25, 54, 55, 56, 57, 58, 169, NEW_ARRAY -> 2;
            case 17, 19, 20, INT_INCREMENT, 178, 179, GET_FIELD, 181, INVOKE_VIRTUAL, 183, 184, NEW, NEW_OBJECT_ARRAY,
                CAST, INSTANCE_OF, 198, 199 -> 3;
            default -> opcode >= 153 && opcode <= 168 ? 3 : 1;
        };
    }
}
