import java.io.ByteArrayOutputStream;
import java.math.BigInteger;
import java.nio.ByteBuffer;
import java.nio.charset.CharacterCodingException;
import java.nio.charset.CodingErrorAction;
import java.nio.charset.StandardCharsets;
import java.util.ArrayList;
import java.util.Arrays;
import java.util.Comparator;
import java.util.HashSet;
import java.util.List;
import java.util.Set;

/**
 * The document's face once more, written another way: octets first become a tree of encodings
 * without regard to types, and the strict form is then made of that tree.
 */
final class Model {
    /** A type; kind is the document's, or 0 for a tagged one; a list has an inner type. */
    record Type(int kind, int tag, boolean explicit, Type inner, long[] bounds, List<Member> members) {
    }

    record Member(Type type, int how, long value) {
    }

    record Node(int tag, boolean constructed, byte[] octets, List<Node> nodes) {
    }

    private static final Set<Integer> BASIC = Set.of(1, 2, 3, 4, 5, 6, 12, 22);

    final List<Type> types = new ArrayList<>();
    private int openKind = 0;
    private List<Member> open = new ArrayList<>();
    private byte[] octets = {};
    private byte[] result = {};

    // What is still to be read of the octets.
    private int at = 0;

    int basic(int kind) {
        return BASIC.contains(kind) ? keep(new Type(kind, kind, false, null, null, null)) : -1;
    }

    int bounded(int type, long low, long high) {
        Type of = at(type);
        if (of == null || of.bounds != null || !Set.of(2, 4, 12, 22).contains(of.kind)) {
            return -1;
        }
        if (low > high || of.kind != 2 && low < 0) {
            return -1;
        }
        return keep(new Type(of.kind, of.tag, false, null, new long[] {low, high}, null));
    }

    int tagged(int tagClass, int number, boolean explicit, int type) {
        Type inner = at(type);
        boolean known = Set.of(1, 2, 3).contains(tagClass) && number >= 0 && number <= 2000;
        if (inner == null || !known || inner.kind == 20 && !explicit) {
            return -1;
        }
        return keep(new Type(0, tagClass * 2097152 + number, explicit, inner, null, null));
    }

    int list(int kind, int type) {
        Type inner = at(type);
        boolean may = inner != null && (kind == 16 || kind == 17);
        return may ? keep(new Type(kind, kind, false, inner, null, null)) : -1;
    }

    boolean open(int kind) {
        if (!Set.of(16, 17, 20).contains(kind)) {
            return false;
        }
        openKind = kind;
        open = new ArrayList<>();
        return true;
    }

    boolean member(int type, int how, long value) {
        Type of = at(type);
        if (openKind == 0 || open.size() == 6 || of == null) {
            return false;
        }
        boolean may = how == 0 || openKind != 20 && (how == 1 || how == 2 && mayDefault(of, value));
        return may && open.add(new Member(of, how, value));
    }

    int close() {
        if (openKind == 0 || types.size() == 16 || openKind == 20 && open.isEmpty() || clashes()) {
            return -1;
        }
        int made = keep(new Type(openKind, openKind, false, null, null, open));
        openKind = 0;
        open = new ArrayList<>();
        return made;
    }

    boolean feed(long some, int n) {
        if (n < 1 || n > 8 || octets.length + n > 200) {
            return false;
        }
        byte[] all = ByteBuffer.allocate(8).putLong(some).array();
        octets = join(List.of(octets, Arrays.copyOfRange(all, 8 - n, 8)));
        return true;
    }

    void clear() {
        octets = new byte[0];
    }

    int transcode(int type) {
        if (at(type) == null) {
            throw new IndexOutOfBoundsException();
        }
        at = 0;
        Node node = read(octets.length);
        need(at == octets.length);
        result = strict(at(type), node);
        return result.length;
    }

    int result(int k) {
        return ask(result, k);
    }

    int octet(int k) {
        return ask(octets, k);
    }

    int counts() {
        return types.size() + 32 * openKind + 1024 * open.size();
    }

    int firstTag(int type, int j) {
        Type of = at(type);
        List<Integer> tags = of == null ? List.of() : firstTags(of);
        return j >= 0 && j < tags.size() ? tags.get(j) : -1;
    }

    static List<Integer> firstTags(Type type) {
        if (type.kind != 20) {
            return List.of(type.tag);
        }
        List<Integer> tags = new ArrayList<>();
        for (Member member : type.members) {
            tags.addAll(firstTags(member.type));
        }
        return tags;
    }

    private static int ask(byte[] row, int k) {
        if (k == -1) {
            return row.length;
        }
        return k >= 0 && k < row.length ? row[k] & 255 : -1;
    }

    private Type at(int type) {
        return type >= 0 && type < types.size() ? types.get(type) : null;
    }

    private int keep(Type type) {
        if (types.size() == 16) {
            return -1;
        }
        types.add(type);
        return types.size() - 1;
    }

    private static boolean mayDefault(Type type, long value) {
        if (type.kind == 0) {
            return mayDefault(type.inner, value);
        }
        if (type.kind == 1) {
            return value == 0 || value == 1;
        }
        return type.kind == 2 && (type.bounds == null || value >= type.bounds[0] && value <= type.bounds[1]);
    }

    private boolean clashes() {
        if (openKind != 16) {
            return clash(open);
        }
        for (int from = 0; from < open.size(); from++) {
            // A run of members that may be left out, and the mandatory one behind them.
            int to = from;
            while (to < open.size() && open.get(to).how != 0) {
                to++;
            }
            if (clash(open.subList(from, Math.min(to + 1, open.size())))) {
                return true;
            }
        }
        return false;
    }

    private static boolean clash(List<Member> members) {
        Set<Integer> seen = new HashSet<>();
        for (Member member : members) {
            for (int tag : firstTags(member.type)) {
                if (!seen.add(tag)) {
                    return true;
                }
            }
        }
        return false;
    }

    private static void need(boolean holds) {
        if (!holds) {
            throw new IllegalArgumentException();
        }
    }

    private int next(int limit) {
        need(at < limit);
        return octets[at++] & 255;
    }

    private Node read(int limit) {
        int lead = next(limit);
        int number = lead % 32;
        if (number == 31) {
            int octet = next(limit);
            need(octet != 128);
            number = octet % 128;
            while (octet > 127) {
                octet = next(limit);
                number = number * 128 + octet % 128;
                need(number < 2097152);
            }
            need(number > 30);
        }
        int tag = lead / 64 * 2097152 + number;
        boolean constructed = lead / 32 % 2 == 1;
        int first = next(limit);
        need(first <= 132 && (first != 128 || constructed));
        if (first == 128) {
            return new Node(tag, true, null, readToTheEnd(limit));
        }
        BigInteger length = BigInteger.valueOf(first % 128);
        if (first > 128) {
            length = BigInteger.ZERO;
            for (int n = first - 128; n > 0; n--) {
                length = length.multiply(BigInteger.valueOf(256)).add(BigInteger.valueOf(next(limit)));
            }
        }
        need(length.compareTo(BigInteger.valueOf(limit - at)) <= 0);
        int end = at + length.intValue();
        if (!constructed) {
            byte[] contents = Arrays.copyOfRange(octets, at, end);
            at = end;
            return new Node(tag, false, contents, null);
        }
        List<Node> nodes = new ArrayList<>();
        while (at < end) {
            nodes.add(read(end));
        }
        return new Node(tag, true, null, nodes);
    }

    private List<Node> readToTheEnd(int limit) {
        List<Node> nodes = new ArrayList<>();
        while (at + 2 > limit || octets[at] != 0 || octets[at + 1] != 0) {
            nodes.add(read(limit));
        }
        at += 2;
        return nodes;
    }

    private static byte[] strict(Type type, Node node) {
        if (type.kind == 20) {
            for (Member member : type.members) {
                if (firstTags(member.type).contains(node.tag)) {
                    return strict(member.type, node);
                }
            }
        }
        need(type.kind != 20 && type.tag == node.tag);
        return encoding(node.tag, isConstructed(type), contents(type, node));
    }

    static boolean isConstructed(Type type) {
        return type.kind == 0 ? type.explicit || isConstructed(type.inner) : type.kind == 16 || type.kind == 17;
    }

    static byte[] encoding(int tag, boolean constructed, byte[] contents) {
        ByteArrayOutputStream out = new ByteArrayOutputStream();
        int number = tag % 2097152;
        out.write(tag / 2097152 * 64 + (constructed ? 32 : 0) + Math.min(number, 31));
        if (number >= 16384) {
            out.write(number / 16384 + 128);
        }
        if (number >= 128) {
            out.write(number / 128 % 128 + 128);
        }
        if (number >= 31) {
            out.write(number % 128);
        }
        if (contents.length > 127) {
            out.write(129);
        }
        out.write(contents.length);
        out.writeBytes(contents);
        return out.toByteArray();
    }

    private static byte[] contents(Type type, Node node) {
        if (type.kind == 0 && !type.explicit) {
            return contents(type.inner, node);
        }
        boolean string = Set.of(3, 4, 12, 22).contains(type.kind);
        need(string || node.constructed == isConstructed(type));
        switch (type.kind) {
            case 0:
                need(node.nodes.size() == 1);
                return strict(type.inner, node.nodes.get(0));
            case 1:
                need(node.octets.length == 1);
                return new byte[] {(byte) (node.octets[0] == 0 ? 0 : 255)};
            case 2:
                return integer(type, node.octets);
            case 3:
                return bits(node);
            case 5:
                need(node.octets.length == 0);
                return node.octets;
            case 6:
                return objectIdentifier(node.octets);
            case 16:
            case 17:
                return type.members == null ? values(type, node) : members(type, node);
            default:
                return text(type, node);
        }
    }

    private static byte[] integer(Type type, byte[] octets) {
        need(octets.length > 0);
        BigInteger value = new BigInteger(octets);
        need(Arrays.equals(value.toByteArray(), octets));
        if (type.bounds != null) {
            need(value.compareTo(BigInteger.valueOf(type.bounds[0])) >= 0);
            need(value.compareTo(BigInteger.valueOf(type.bounds[1])) <= 0);
        }
        return octets;
    }

    private static byte[] objectIdentifier(byte[] octets) {
        need(octets.length > 0 && octets[octets.length - 1] >= 0);
        for (int k = 0; k < octets.length; k++) {
            need(octets[k] != -128 || k > 0 && octets[k - 1] < 0);
        }
        return octets;
    }

    private static byte[] join(List<byte[]> rows) {
        ByteArrayOutputStream out = new ByteArrayOutputStream();
        for (byte[] row : rows) {
            out.writeBytes(row);
        }
        return out.toByteArray();
    }

    /** The primitive pieces of a string, which may be as many as its own node. */
    private static List<byte[]> pieces(Node node, int tag, int left, boolean some) {
        if (!node.constructed) {
            return List.of(node.octets);
        }
        need(left > 0 && !(some && node.nodes.isEmpty()));
        List<byte[]> all = new ArrayList<>();
        for (Node part : node.nodes) {
            need(part.tag == tag);
            all.addAll(pieces(part, tag, left - 1, some));
        }
        return all;
    }

    private static byte[] bits(Node node) {
        List<byte[]> pieces = pieces(node, 3, 4, true);
        List<byte[]> rows = new ArrayList<>();
        int unused = 0;
        for (byte[] piece : pieces) {
            need(piece.length > 0 && unused == 0);
            unused = piece[0];
            need(unused >= 0 && unused < 8 && (unused == 0 || piece.length > 1));
            rows.add(Arrays.copyOfRange(piece, 1, piece.length));
        }
        rows.add(0, new byte[] {(byte) unused});
        byte[] all = join(rows);
        for (int bit = 0; bit < unused; bit++) {
            all[all.length - 1] &= (byte) ~(1 << bit);
        }
        return all;
    }

    private static byte[] text(Type type, Node node) {
        byte[] all = join(pieces(node, 4, 4, false));
        long size = all.length;
        if (type.kind == 12) {
            try {
                String text = StandardCharsets.UTF_8.newDecoder().onMalformedInput(CodingErrorAction.REPORT)
                    .decode(ByteBuffer.wrap(all)).toString();
                size = text.codePointCount(0, text.length());
            } catch (CharacterCodingException e) {
                need(false);
            }
        }
        for (byte octet : all) {
            need(type.kind != 22 || octet >= 0);
        }
        need(type.bounds == null || size >= type.bounds[0] && size <= type.bounds[1]);
        return all;
    }

    private static byte[] values(Type type, Node node) {
        List<byte[]> rows = new ArrayList<>();
        for (Node part : node.nodes) {
            rows.add(strict(type.inner, part));
        }
        if (type.kind == 17) {
            rows.sort(Arrays::compareUnsigned);
        }
        return join(rows);
    }

    private static byte[] members(Type type, Node node) {
        List<Node> left = new ArrayList<>(node.nodes);
        List<Node> taken = new ArrayList<>();
        List<byte[]> rows = new ArrayList<>();
        for (Member member : type.members) {
            Node found = type.kind == 16 ? takeFirst(left, member) : takeAny(left, member);
            need(found != null || member.how != 0);
            if (found == null) {
                continue;
            }
            byte[] row = strict(member.type, found);
            if (member.how != 2 || !Arrays.equals(row, strictDefault(member.type, member.value))) {
                taken.add(found);
                rows.add(row);
            }
        }
        need(left.isEmpty());
        if (type.kind == 17) {
            List<Integer> order = new ArrayList<>();
            for (int k = 0; k < rows.size(); k++) {
                order.add(k);
            }
            order.sort(Comparator.comparing(k -> taken.get(k).tag));
            return join(order.stream().map(rows::get).toList());
        }
        return join(rows);
    }

    private static Node takeFirst(List<Node> left, Member member) {
        boolean fits = !left.isEmpty() && firstTags(member.type).contains(left.get(0).tag);
        return fits ? left.remove(0) : null;
    }

    private static Node takeAny(List<Node> left, Member member) {
        for (int k = 0; k < left.size(); k++) {
            if (firstTags(member.type).contains(left.get(k).tag)) {
                return left.remove(k);
            }
        }
        return null;
    }

    private static byte[] strictDefault(Type type, long value) {
        return encoding(type.tag, isConstructed(type), defaultContents(type, value));
    }

    private static byte[] defaultContents(Type type, long value) {
        if (type.kind == 0) {
            return type.explicit ? strictDefault(type.inner, value) : defaultContents(type.inner, value);
        }
        if (type.kind == 1) {
            return new byte[] {(byte) (value == 0 ? 0 : 255)};
        }
        return BigInteger.valueOf(value).toByteArray();
    }
}
