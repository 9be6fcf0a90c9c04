import java.io.ByteArrayOutputStream;
import java.math.BigInteger;
import java.nio.charset.StandardCharsets;
import java.util.ArrayList;
import java.util.Arrays;
import java.util.Collections;
import java.util.List;
import java.util.Random;

/** Makes encodings of chance values in chance forms, most of them right ones. */
final class Loose {
    private static final int[] CODES = {0, 0x41, 0x7F, 0x80, 0x7FF, 0x800, 0xD7FF, 0xE000, 0xFFFF, 0x10000, 0x10FFFF};

    private final Random chance;

    Loose(Random chance) {
        this.chance = chance;
    }

    byte[] encoding(Model.Type type) {
        if (type.kind() == 20) {
            return encoding(type.members().get(chance.nextInt(type.members().size())).type());
        }
        return encodingUnder(type.tag(), type);
    }

    private byte[] encodingUnder(int tag, Model.Type type) {
        if (type.kind() == 0 && !type.explicit()) {
            return encodingUnder(tag, type.inner());
        }
        switch (type.kind()) {
            case 0:
                return headed(tag, true, encoding(type.inner()));
            case 1:
                return headed(tag, false, new byte[] {(byte) (chance.nextInt(3) - 1)});
            case 2:
                return headed(tag, false, integer(type));
            case 3:
                return bits(tag, 0, true);
            case 5:
                return headed(tag, false, new byte[0]);
            case 6:
                return headed(tag, false, objectIdentifier());
            case 16:
            case 17:
                return headed(tag, true, type.members() == null ? values(type) : members(type));
            default:
                return string(tag, text(type), 0);
        }
    }

    private byte[] headed(int tag, boolean constructed, byte[] contents) {
        byte[] strict = Model.encoding(tag, constructed, contents.length < 256 ? contents : new byte[0]);
        int identifier = 1;
        if ((strict[0] & 31) == 31) {
            while (strict[identifier] < 0) {
                identifier++;
            }
            identifier++;
        }
        ByteArrayOutputStream out = new ByteArrayOutputStream();
        out.write(strict, 0, identifier);
        int form = chance.nextInt(4);
        if (constructed && form == 0) {
            out.write(128);
            out.writeBytes(contents);
            out.writeBytes(new byte[2]);
            return out.toByteArray();
        }
        if (form == 1 || contents.length > 127) {
            int size = 1 + (chance.nextInt(4) & chance.nextInt(4));
            out.write(128 + size);
            out.writeBytes(new byte[size - 1]);
        }
        out.write(contents.length);
        out.writeBytes(contents);
        return out.toByteArray();
    }

    private byte[] integer(Model.Type type) {
        if (type.bounds() != null && chance.nextInt(8) > 0) {
            long low = type.bounds()[0];
            long high = type.bounds()[1];
            long[] near = {low, high, low - 1, high + 1, low + 1};
            return BigInteger.valueOf(near[chance.nextInt(near.length)]).toByteArray();
        }
        if (chance.nextInt(8) == 0) {
            return new BigInteger(chance.nextInt(90) + 1, chance).subtract(BigInteger.ONE.shiftLeft(40)).toByteArray();
        }
        return BigInteger.valueOf(chance.nextInt(5) - 2).toByteArray();
    }

    private byte[] objectIdentifier() {
        byte[] octets = new byte[1 + chance.nextInt(4)];
        chance.nextBytes(octets);
        if (chance.nextInt(8) > 0) {
            octets[octets.length - 1] &= 127;
        }
        return octets;
    }

    private byte[] bits(int tag, int depth, boolean last) {
        if (chance.nextInt(3) == 0 && depth < 4 + (chance.nextInt(20) == 0 ? 1 : 0)) {
            ByteArrayOutputStream out = new ByteArrayOutputStream();
            int parts = 1 + chance.nextInt(3) - (chance.nextInt(20) == 0 ? 1 : 0);
            for (int k = 0; k < parts; k++) {
                out.writeBytes(bits(3, depth + 1, last && k == parts - 1));
            }
            return headed(tag, true, out.toByteArray());
        }
        byte[] piece = new byte[1 + chance.nextInt(3)];
        chance.nextBytes(piece);
        boolean whole = piece.length == 1 || !last;
        piece[0] = (byte) (whole && chance.nextInt(20) > 0 ? 0 : chance.nextInt(8));
        return headed(tag, false, piece);
    }

    private byte[] string(int tag, byte[] octets, int depth) {
        if (chance.nextInt(3) > 0 || depth >= 4 + (chance.nextInt(20) == 0 ? 1 : 0)) {
            return headed(tag, false, octets);
        }
        ByteArrayOutputStream out = new ByteArrayOutputStream();
        int from = 0;
        while (from < octets.length || chance.nextInt(4) == 0) {
            int to = from + chance.nextInt(octets.length - from + 1);
            out.writeBytes(string(4, Arrays.copyOfRange(octets, from, to), depth + 1));
            from = to;
        }
        return headed(tag, true, out.toByteArray());
    }

    private byte[] text(Model.Type type) {
        int size = chance.nextInt(4);
        if (type.bounds() != null && chance.nextInt(4) > 0) {
            size = (int) Math.min(8, type.bounds()[chance.nextInt(2)]);
        }
        StringBuilder text = new StringBuilder();
        for (int k = 0; k < size; k++) {
            text.appendCodePoint(type.kind() == 12 ? CODES[chance.nextInt(CODES.length)] : chance.nextInt(128));
        }
        return text.toString().getBytes(StandardCharsets.UTF_8);
    }

    private byte[] values(Model.Type type) {
        ByteArrayOutputStream out = new ByteArrayOutputStream();
        for (int n = chance.nextInt(4); n > 0; n--) {
            out.writeBytes(encoding(type.inner()));
        }
        return out.toByteArray();
    }

    private byte[] members(Model.Type type) {
        List<byte[]> rows = new ArrayList<>();
        for (Model.Member member : type.members()) {
            if (chance.nextInt(3) > 0 || member.how() == 0 && chance.nextInt(20) > 0) {
                rows.add(encoding(member.type()));
            }
        }
        if (type.kind() == 17 || chance.nextInt(20) == 0) {
            Collections.shuffle(rows, chance);
        }
        if (!rows.isEmpty() && chance.nextInt(30) == 0) {
            rows.add(rows.get(0));
        }
        ByteArrayOutputStream out = new ByteArrayOutputStream();
        for (byte[] row : rows) {
            out.writeBytes(row);
        }
        return out.toByteArray();
    }
}
