import java.io.ByteArrayInputStream;
import java.io.DataInputStream;
import java.io.IOException;
import java.nio.file.Files;
import java.nio.file.Path;
import java.util.ArrayList;
import java.util.List;

/** The methods of one compiled class and what their code does, as far as the tests of the language ask for it. */
final class ClassCode {
    private static final int UTF8 = 1, LONG = 5, DOUBLE = 6;
    private static final int TABLESWITCH = 0xaa, LOOKUPSWITCH = 0xab, WIDE = 0xc4, IINC = 0x84;
    /** How many bytes each instruction takes, itself too; 0: it depends, or there is none such. */
    private static final int[] LENGTHS = lengths();

    /** One instruction; told is the class, method or field it tells of, as "Owner.name(types)type", or "". */
    record Step(int opcode, int operand, String told) {
        boolean isCall() {
            return opcode >= 0xb6 && opcode <= 0xba;
        }

        boolean makesObject() {
            return opcode >= 0xbb && opcode <= 0xbd || opcode == 0xc5;
        }

        boolean divides() {
            return opcode >= 0x6c && opcode <= 0x73;
        }

        boolean pushesNumber() {
            return opcode >= 0x02 && opcode <= 0x14;
        }

        boolean pushesZero() {
            return opcode == 0x03 || opcode == 0x09 || opcode == 0x10 && operand == 0;
        }
    }

    record Code(String name, List<Step> steps, boolean catches) { }

    final String name;
    final List<Code> methods = new ArrayList<>();
    private final String[] texts;
    private final int[][] links;

    ClassCode(Path file) throws IOException {
        DataInputStream in = new DataInputStream(new ByteArrayInputStream(Files.readAllBytes(file)));
        in.skipBytes(8);
        int constants = in.readUnsignedShort();
        texts = new String[constants];
        links = new int[constants][];
        readConstants(in, constants);
        in.readUnsignedShort();
        name = told(in.readUnsignedShort());
        in.readUnsignedShort();
        in.skipBytes(2 * in.readUnsignedShort());
        for (int fields = in.readUnsignedShort(); fields > 0; fields--) {
            in.skipBytes(6);
            skipAttributes(in);
        }
        for (int many = in.readUnsignedShort(); many > 0; many--) {
            readMethod(in);
        }
    }

    private void readConstants(DataInputStream in, int constants) throws IOException {
        for (int i = 1; i < constants; i++) {
            int tag = in.readUnsignedByte();
            switch (tag) {
                case UTF8 -> texts[i] = in.readUTF();
                case LONG, DOUBLE -> {
                    in.skipBytes(8);
                    i++;
                }
                case 3, 4 -> in.skipBytes(4);
                case 7, 8, 16, 19, 20 -> links[i] = new int[] {in.readUnsignedShort()};
                case 15 -> in.skipBytes(3);
                default -> links[i] = new int[] {in.readUnsignedShort(), in.readUnsignedShort()};
            }
        }
    }

    /** What a constant tells: a class's name, or "Owner.name(types)type". */
    private String told(int constant) {
        if (texts[constant] != null) {
            return texts[constant];
        }
        int[] link = links[constant];
        if (link == null) {
            return "";
        }
        if (link.length == 1) {
            return told(link[0]);
        }
        int[] member = links[link[1]];
        return told(link[0]) + "." + told(member[0]) + told(member[1]);
    }

    private static void skipAttributes(DataInputStream in) throws IOException {
        for (int many = in.readUnsignedShort(); many > 0; many--) {
            in.readUnsignedShort();
            in.skipBytes(in.readInt());
        }
    }

    private void readMethod(DataInputStream in) throws IOException {
        in.readUnsignedShort();
        String method = name + "." + told(in.readUnsignedShort()) + told(in.readUnsignedShort());
        for (int many = in.readUnsignedShort(); many > 0; many--) {
            String attribute = told(in.readUnsignedShort());
            byte[] bytes = new byte[in.readInt()];
            in.readFully(bytes);
            if (attribute.equals("Code")) {
                methods.add(readCode(method, bytes));
            }
        }
    }

    private Code readCode(String method, byte[] attribute) {
        int length = int4(attribute, 4);
        List<Step> steps = new ArrayList<>();
        int at = 8;
        while (at < 8 + length) {
            int opcode = attribute[at] & 0xff;
            int bytes = lengthAt(attribute, at, opcode);
            int operand = bytes == 2 ? attribute[at + 1] : bytes >= 3 ? int2(attribute, at + 1) : 0;
            boolean tells = opcode >= 0xb2 && opcode <= 0xbd && opcode != 0xbc || opcode >= 0xc0 && opcode <= 0xc1;
            steps.add(new Step(opcode, operand, tells ? told(operand) : ""));
            at += bytes;
        }
        return new Code(method, steps, int2(attribute, 8 + length) > 0);
    }

    private static int lengthAt(byte[] code, int at, int opcode) {
        int table = at + 4 - (at - 8) % 4;
        if (opcode == TABLESWITCH) {
            return table + 12 + 4 * (int4(code, table + 8) - int4(code, table + 4) + 1) - at;
        }
        if (opcode == LOOKUPSWITCH) {
            return table + 8 + 8 * int4(code, table + 4) - at;
        }
        if (opcode == WIDE) {
            return (code[at + 1] & 0xff) == IINC ? 6 : 4;
        }
        if (LENGTHS[opcode] == 0) {
            throw new IllegalStateException("no such instruction: " + opcode);
        }
        return LENGTHS[opcode];
    }

    private static int int2(byte[] bytes, int at) {
        return (bytes[at] & 0xff) << 8 | bytes[at + 1] & 0xff;
    }

    private static int int4(byte[] bytes, int at) {
        return int2(bytes, at) << 16 | int2(bytes, at + 2);
    }

    private static int[] lengths() {
        int[] all = new int[256];
        set(all, 0x00, 0xb1, 1);
        set(all, 0x10, 0x10, 2);
        set(all, 0x11, 0x11, 3);
        set(all, 0x12, 0x12, 2);
        set(all, 0x13, 0x14, 3);
        set(all, 0x15, 0x19, 2);
        set(all, 0x36, 0x3a, 2);
        set(all, IINC, IINC, 3);
        set(all, 0x99, 0xa8, 3);
        set(all, 0xa9, 0xa9, 2);
        set(all, TABLESWITCH, LOOKUPSWITCH, 0);
        set(all, 0xb2, 0xb8, 3);
        set(all, 0xb9, 0xba, 5);
        set(all, 0xbb, 0xbb, 3);
        set(all, 0xbc, 0xbc, 2);
        set(all, 0xbd, 0xbd, 3);
        set(all, 0xbe, 0xbf, 1);
        set(all, 0xc0, 0xc1, 3);
        set(all, 0xc2, 0xc3, 1);
        set(all, 0xc5, 0xc5, 4);
        set(all, 0xc6, 0xc7, 3);
        return all;
    }

    private static void set(int[] all, int first, int last, int length) {
        for (int opcode = first; opcode <= last; opcode++) {
            all[opcode] = length;
        }
    }
}
