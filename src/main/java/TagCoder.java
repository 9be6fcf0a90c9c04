/**
 * A transcoder led by types: types are put together from earlier ones, as far as the rules of tags
 * allow; octets that encode a value of a type in any of the freer forms are given back in the one
 * strict form.
 */
public final class TagCoder {
    private static final int BOOLEAN = 1;
    private static final int INTEGER = 2;
    private static final int BIT_STRING = 3;
    private static final int OCTET_STRING = 4;
    private static final int NULL = 5;
    private static final int OBJECT_IDENTIFIER = 6;
    private static final int UTF8_STRING = 12;
    private static final int SEQUENCE = 16;
    private static final int SET = 17;
    private static final int CHOICE = 20;
    private static final int IA5_STRING = 22;

    // These forms have no number of their own in the document; theirs stay clear of all kinds.
    private static final int SEQUENCE_OF = 116;
    private static final int SET_OF = 117;
    private static final int EXPLICIT = 118;

    private static final int MANDATORY = 0;
    private static final int OPTIONAL = 1;
    private static final int DEFAULT = 2;

    private static final int MOST_TYPES = 16;
    private static final int MOST_MEMBERS = 6;
    private static final int MOST_OCTETS = 200;
    private static final int MOST_IN_A_FEED = 8;
    private static final int DEEPEST_STRING = 4;
    private static final int LONG_OCTETS = 8;
    private static final int HIGHEST_TAGGED_NUMBER = 2000;

    // A tag is held as firstTag answers it: 2^21 times the class, plus the number.
    private static final int NUMBER_BITS = 21;
    private static final int NUMBER_MASK = (1 << NUMBER_BITS) - 1;
    private static final int MOST_SEVENS = 3;
    private static final int LONG_NUMBER = 31;
    private static final int CONSTRUCTED_BIT = 32;
    private static final int INDEFINITE_LENGTH = 128;
    private static final int LAST_LENGTH_FORM = 132;

    private static final int NONE = -1;

    private final Type[] types = new Type[MOST_TYPES];
    private int typeCount = 0;
    private Members draft = null;
    private final Octets octets = new Octets();
    private final Octets result = new Octets();
    private final Recoder recoder = new Recoder();

    public TagCoder() {
    }

    public int basic(int kind) {
        return isBasicKind(kind) ? keep(Type.ofKind(kind)) : NONE;
    }

    public int bounded(int type, long low, long high) {
        Type plain = typeAt(type);
        if (plain == null || !plain.mayBeBounded() || low > high) {
            return NONE;
        }
        if (plain.form != INTEGER && low < 0) {
            return NONE;
        }
        return keep(plain.within(low, high));
    }

    public int tagged(int tagClass, int number, boolean explicit, int type) {
        Type inner = typeAt(type);
        if (inner == null || tagClass < 1 || tagClass > 3) {
            return NONE;
        }
        if (number < 0 || number > HIGHEST_TAGGED_NUMBER) {
            return NONE;
        }
        if (!explicit && inner.form == CHOICE) {
            return NONE;
        }
        int tag = (tagClass << NUMBER_BITS) + number;
        return keep(explicit ? Type.around(tag, inner) : inner.retagged(tag));
    }

    public int list(int kind, int type) {
        Type inner = typeAt(type);
        if (inner == null || (kind != SEQUENCE && kind != SET)) {
            return NONE;
        }
        return keep(Type.listOf(kind, inner));
    }

    public boolean open(int kind) {
        if (kind != SEQUENCE && kind != SET && kind != CHOICE) {
            return false;
        }
        draft = new Members(kind);
        return true;
    }

    public boolean member(int type, int how, long value) {
        Type added = typeAt(type);
        if (draft == null || added == null || !draft.mayTake(added, how, value)) {
            return false;
        }
        draft.add(added, how, value);
        return true;
    }

    public int close() {
        if (draft == null || typeCount >= MOST_TYPES || draft.breaksRules()) {
            return NONE;
        }
        int made = keep(Type.madeOf(draft));
        draft = null;
        return made;
    }

    public boolean feed(long octets, int n) {
        if (n < 1 || n > MOST_IN_A_FEED || this.octets.count + n > MOST_OCTETS) {
            return false;
        }
        for (int k = n - 1; k >= 0; k--) {
            this.octets.append((int) (octets >>> 8 * k) & 255);
        }
        return true;
    }

    public void clear() {
        octets.count = 0;
    }

    public int transcode(int type) throws IndexOutOfBoundsException, IllegalArgumentException {
        Type wanted = typeAt(type);
        if (wanted == null) {
            throw new IndexOutOfBoundsException();
        }
        // The result has to outlive a call that throws, so the strict form grows in the recoder.
        recoder.recode(octets, wanted);
        result.become(recoder.out);
        return result.count;
    }

    public int result(int k) {
        return result.ask(k);
    }

    public int octet(int k) {
        return octets.ask(k);
    }

    public int counts() {
        int open = draft == null ? 0 : 32 * draft.kind + 1024 * draft.count;
        return typeCount + open;
    }

    public int firstTag(int type, int j) {
        Type asked = typeAt(type);
        if (asked == null || j < 0 || j >= asked.firstTags.length) {
            return NONE;
        }
        return asked.firstTags[j];
    }

    private static boolean isBasicKind(int kind) {
        return kind >= BOOLEAN && kind <= OBJECT_IDENTIFIER || kind == UTF8_STRING || kind == IA5_STRING;
    }

    private Type typeAt(int number) {
        return number >= 0 && number < typeCount ? types[number] : null;
    }

    private int keep(Type type) {
        if (typeCount >= MOST_TYPES) {
            return NONE;
        }
        types[typeCount] = type;
        typeCount++;
        return typeCount - 1;
    }

    /**
     * A type. One that is tagged without EXPLICIT has the contents of its inner type under another
     * tag, so it is held as a copy of the inner type with that tag.
     */
    private static final class Type {
        final int form;
        final int tag;
        final boolean isBounded;
        final long low;
        final long high;
        final Type inner;
        final Members members;
        final int[] firstTags;

        private Type(int form, int tag, boolean isBounded, long low, long high, Type inner, Members members) {
            this.form = form;
            this.tag = tag;
            this.isBounded = isBounded;
            this.low = low;
            this.high = high;
            this.inner = inner;
            this.members = members;
            this.firstTags = form == CHOICE && members != null ? members.allFirstTags() : new int[] {tag};
        }

        static Type ofKind(int kind) {
            return new Type(kind, kind, false, 0, 0, null, null);
        }

        static Type around(int tag, Type inner) {
            return new Type(EXPLICIT, tag, false, 0, 0, inner, null);
        }

        static Type listOf(int kind, Type inner) {
            return new Type(kind == SET ? SET_OF : SEQUENCE_OF, kind, false, 0, 0, inner, null);
        }

        static Type madeOf(Members members) {
            int tag = members.kind == CHOICE ? NONE : members.kind;
            return new Type(members.kind, tag, false, 0, 0, null, members);
        }

        Type within(long lowest, long highest) {
            return new Type(form, tag, true, lowest, highest, inner, members);
        }

        Type retagged(int newTag) {
            return new Type(form, newTag, isBounded, low, high, inner, members);
        }

        boolean mayBeBounded() {
            boolean isTagged = tag != form;
            boolean hasMeasure = form == INTEGER || isOctets();
            return hasMeasure && !isBounded && !isTagged;
        }

        boolean isOctets() {
            return form == OCTET_STRING || form == UTF8_STRING || form == IA5_STRING;
        }

        boolean isConstructed() {
            return form == SEQUENCE || form == SET || form == SEQUENCE_OF || form == SET_OF || form == EXPLICIT;
        }

        boolean mayBe(boolean constructed) {
            return form == BIT_STRING || isOctets() || constructed == isConstructed();
        }

        boolean keepsTo(long measure) {
            return !isBounded || measure >= low && measure <= high;
        }

        boolean mayDefaultTo(long value) {
            Type core = this;
            for (int n = 0; n < MOST_TYPES && core.form == EXPLICIT && core.inner != null; n++) {
                core = core.inner;
            }
            if (core.form == BOOLEAN) {
                return value == 0 || value == 1;
            }
            return core.form == INTEGER && core.keepsTo(value);
        }

        boolean hasFirstTag(int wanted) {
            for (int k = 0; k < firstTags.length; k++) {
                if (firstTags[k] == wanted) {
                    return true;
                }
            }
            return false;
        }

        boolean sharesFirstTag(Type other) {
            for (int k = 0; k < firstTags.length; k++) {
                if (other.hasFirstTag(firstTags[k])) {
                    return true;
                }
            }
            return false;
        }

        /** The type, or the alternative at the end of nested CHOICEs, that bears a tag; null for none. */
        Type bearing(int wanted) {
            Type found = this;
            for (int n = 0; n < MOST_TYPES && found.form == CHOICE && found.members != null; n++) {
                int k = found.members.indexBearing(wanted, 0);
                if (k < 0) {
                    return null;
                }
                found = found.members.types[k];
            }
            return found.tag == wanted ? found : null;
        }
    }

    /** The members of a SEQUENCE or SET, or the alternatives of a CHOICE: while open and afterwards. */
    private static final class Members {
        final int kind;
        final Type[] types = new Type[MOST_MEMBERS];
        final int[] hows = new int[MOST_MEMBERS];
        final long[] defaults = new long[MOST_MEMBERS];
        int count = 0;

        Members(int kind) {
            this.kind = kind;
        }

        boolean mayTake(Type type, int how, long value) {
            if (count >= MOST_MEMBERS) {
                return false;
            }
            if (how == MANDATORY) {
                return true;
            }
            if (kind == CHOICE) {
                return false;
            }
            return how == OPTIONAL || how == DEFAULT && type.mayDefaultTo(value);
        }

        void add(Type type, int how, long value) {
            types[count] = type;
            hows[count] = how;
            defaults[count] = value;
            count++;
        }

        boolean breaksRules() {
            if (kind == CHOICE && count == 0) {
                return true;
            }
            for (int k = 0; k < count; k++) {
                if (clashesBehind(k)) {
                    return true;
                }
            }
            return false;
        }

        private boolean clashesBehind(int k) {
            boolean isSequence = kind == SEQUENCE;
            if (isSequence && hows[k] == MANDATORY) {
                return false;
            }
            for (int other = k + 1; other < count; other++) {
                if (types[k].sharesFirstTag(types[other])) {
                    return true;
                }
                if (isSequence && hows[other] == MANDATORY) {
                    return false;
                }
            }
            return false;
        }

        int[] allFirstTags() {
            int size = 0;
            for (int k = 0; k < count; k++) {
                size += types[k].firstTags.length;
            }
            int[] all = new int[size];
            int filled = 0;
            for (int k = 0; k < count; k++) {
                int[] some = types[k].firstTags;
                System.arraycopy(some, 0, all, filled, some.length);
                filled += some.length;
            }
            return all;
        }

        int indexBearing(int tag, int from) {
            for (int k = from; k < count; k++) {
                if (types[k].hasFirstTag(tag)) {
                    return k;
                }
            }
            return NONE;
        }

        boolean hasMandatoryOutside(int seen) {
            for (int k = 0; k < count; k++) {
                if (hows[k] == MANDATORY && (seen >> k & 1) == 0) {
                    return true;
                }
            }
            return false;
        }
    }

    /** A row of octets that is made once and filled again and again. */
    private static final class Octets {
        final int[] row = new int[MOST_OCTETS];
        int count = 0;

        int ask(int k) {
            if (k == -1) {
                return count;
            }
            return k >= 0 && k < count ? row[k] : NONE;
        }

        void append(int octet) {
            if (count < row.length) {
                row[count] = octet;
                count++;
            }
        }

        void become(Octets other) {
            System.arraycopy(other.row, 0, row, 0, other.count);
            count = other.count;
        }

        /** Puts the shortest identifier and length ahead of the contents, which are all from start on. */
        void insertHeader(int start, int tag, boolean constructed) {
            int length = count - start;
            int number = tag & NUMBER_MASK;
            int sevens = sevensIn(number);
            // A row's whole length fits one octet, so a long length never takes more than one.
            int size = 2 + sevens + (length < INDEFINITE_LENGTH ? 0 : 1);
            if (count + size > row.length) {
                // A strict form is never longer than what it was read from.
                throw new IllegalArgumentException();
            }
            System.arraycopy(row, start, row, start + size, length);
            count += size;
            int lead = (tag >> NUMBER_BITS) * 64 + (constructed ? CONSTRUCTED_BIT : 0);
            row[start] = lead + (sevens == 0 ? number : LONG_NUMBER);
            for (int k = 1; k <= sevens; k++) {
                int seven = number >> 7 * (sevens - k) & 127;
                row[start + k] = k < sevens ? seven + 128 : seven;
            }
            if (length >= INDEFINITE_LENGTH) {
                row[start + size - 2] = INDEFINITE_LENGTH + 1;
            }
            row[start + size - 1] = length;
        }

        private static int sevensIn(int number) {
            if (number < LONG_NUMBER) {
                return 0;
            }
            if (number < 1 << 7) {
                return 1;
            }
            return number < 1 << 14 ? 2 : MOST_SEVENS;
        }

        /** The last octet of the identifier that begins at an index. */
        private int identifierEnd(int start) {
            if ((row[start] & LONG_NUMBER) != LONG_NUMBER) {
                return start;
            }
            for (int k = start + 1; k < count; k++) {
                if (row[k] < 128) {
                    return k;
                }
            }
            return start;
        }

        int tagAt(int start) {
            int last = identifierEnd(start);
            int number = last == start ? row[start] & LONG_NUMBER : 0;
            for (int k = start + 1; k <= last; k++) {
                number = number << 7 | row[k] & 127;
            }
            return (row[start] >> 6 << NUMBER_BITS) + number;
        }

        /** Where the strict encoding that begins at an index ends. */
        int endOf(int start) {
            int at = identifierEnd(start) + 1;
            if (at < count && row[at] > INDEFINITE_LENGTH) {
                at++;
            }
            int length = at < count ? row[at] : 0;
            return Math.min(count, at + 1 + length);
        }

        /** Moves what stands from middle to the end before what stands from start to middle. */
        void bringForward(int start, int middle) {
            turnRound(start, middle);
            turnRound(middle, count);
            turnRound(start, count);
        }

        private void turnRound(int start, int end) {
            int high = end - 1;
            for (int low = start; low < high; low++) {
                int octet = row[low];
                row[low] = row[high];
                row[high] = octet;
                high--;
            }
        }
    }

    /** Reads a copy of the octets as a type asks and writes the strict form. */
    private static final class Recoder {
        final Octets out = new Octets();
        private final Octets in = new Octets();
        private int at = 0;

        // What the last identifier and length said. Reading on overwrites it: a method that reads
        // encodings inside others first takes what it still needs into its own variables.
        private int tag = 0;
        private boolean constructed = false;
        private boolean indefinite = false;
        private int end = 0;

        // The last BOOLEAN or INTEGER, for a look at a member's default.
        private long number = 0;
        private boolean isWide = false;

        // How many bits of the last piece of a BIT STRING are not part of it.
        private int unused = 0;

        void recode(Octets octets, Type type) {
            in.become(octets);
            at = 0;
            out.count = 0;
            value(type, in.count, 1);
            if (at != in.count) {
                throw new IllegalArgumentException();
            }
        }

        private void value(Type type, int limit, int depth) {
            if (type == null || depth > MOST_TYPES) {
                throw new IllegalArgumentException();
            }
            readIdentifier(limit);
            readLength(limit);
            int ownTag = tag;
            Type chosen = type.bearing(ownTag);
            if (chosen == null || !chosen.mayBe(constructed)) {
                throw new IllegalArgumentException();
            }
            int start = out.count;
            switch (chosen.form) {
                case SEQUENCE:
                case SET:
                    membersOf(chosen.members, depth);
                    break;
                case SEQUENCE_OF:
                case SET_OF:
                    valuesOf(chosen, depth);
                    break;
                case EXPLICIT:
                    innerOf(chosen, depth);
                    break;
                case BIT_STRING:
                    bitString();
                    break;
                case OCTET_STRING:
                case UTF8_STRING:
                case IA5_STRING:
                    octetsOf(chosen);
                    break;
                default:
                    simple(chosen);
                    break;
            }
            out.insertHeader(start, ownTag, chosen.isConstructed());
        }

        private int next(int limit) {
            if (at >= limit || at >= in.count) {
                throw new IllegalArgumentException();
            }
            at++;
            return in.row[at - 1];
        }

        private void readIdentifier(int limit) {
            int lead = next(limit);
            constructed = (lead & CONSTRUCTED_BIT) != 0;
            int read = lead & LONG_NUMBER;
            if (read == LONG_NUMBER) {
                read = readLongNumber(limit);
            }
            tag = (lead >> 6 << NUMBER_BITS) + read;
        }

        private int readLongNumber(int limit) {
            int read = 0;
            int octet = 128;
            for (int k = 0; k < MOST_SEVENS && octet >= 128; k++) {
                octet = next(limit);
                if (k == 0 && octet == 128) {
                    throw new IllegalArgumentException();
                }
                read = read << 7 | octet & 127;
            }
            if (octet >= 128 || read < LONG_NUMBER) {
                throw new IllegalArgumentException();
            }
            return read;
        }

        private int peekTag(int limit) {
            int back = at;
            readIdentifier(limit);
            at = back;
            return tag;
        }

        private void readLength(int limit) {
            int lead = next(limit);
            indefinite = lead == INDEFINITE_LENGTH;
            if (lead > LAST_LENGTH_FORM || indefinite && !constructed) {
                throw new IllegalArgumentException();
            }
            if (indefinite) {
                end = limit;
                return;
            }
            // Four octets without a sign are more than an int holds.
            long length = lead < INDEFINITE_LENGTH ? lead : 0;
            for (int k = INDEFINITE_LENGTH; k < lead; k++) {
                length = length << 8 | next(limit);
            }
            if (length > limit - at) {
                throw new IllegalArgumentException();
            }
            end = at + (int) length;
        }

        /** Whether contents go on; takes the two octets 0 that end indefinite ones. */
        private boolean goesOn(int limit, boolean isIndefinite) {
            if (!isIndefinite) {
                return at < limit;
            }
            if (at + 1 < limit && in.row[at] == 0 && in.row[at + 1] == 0) {
                at += 2;
                return false;
            }
            // Without those two octets another encoding is due, and is refused where it is missing.
            return true;
        }

        private void simple(Type type) {
            switch (type.form) {
                case BOOLEAN:
                    truth();
                    break;
                case INTEGER:
                    integer(type);
                    break;
                case NULL:
                    nothing();
                    break;
                default:
                    objectIdentifier();
                    break;
            }
        }

        private void truth() {
            if (end - at != 1) {
                throw new IllegalArgumentException();
            }
            isWide = false;
            number = next(end) == 0 ? 0 : 1;
            out.append(number == 0 ? 0 : 255);
        }

        private void integer(Type type) {
            int size = end - at;
            int first = next(end);
            if (size > 1 && (first == 0 || first == 255) && in.row[at] >> 7 == first >> 7) {
                throw new IllegalArgumentException();
            }
            isWide = size > LONG_OCTETS;
            number = first < 128 ? first : first - 256;
            out.append(first);
            for (int k = 1; k < size; k++) {
                int octet = next(end);
                number = number << 8 | octet;
                out.append(octet);
            }
            if (type.isBounded && isWide || !type.keepsTo(number)) {
                throw new IllegalArgumentException();
            }
        }

        private void nothing() {
            if (at != end) {
                throw new IllegalArgumentException();
            }
        }

        private void objectIdentifier() {
            int size = end - at;
            boolean begins = true;
            for (int k = 0; k < size; k++) {
                int octet = next(end);
                if (begins && octet == 128) {
                    throw new IllegalArgumentException();
                }
                begins = octet < 128;
                out.append(octet);
            }
            if (size == 0 || !begins) {
                throw new IllegalArgumentException();
            }
        }

        private void bitString() {
            int start = out.count;
            unused = 0;
            out.append(0);
            string(BIT_STRING, 1);
            int last = out.count - 1;
            if (last > start) {
                out.row[start] = unused;
                out.row[last] = out.row[last] >> unused << unused;
            }
        }

        private void octetsOf(Type type) {
            int start = out.count;
            string(OCTET_STRING, 1);
            int size = out.count - start;
            if (type.form == UTF8_STRING) {
                size = countCharacters(start);
            } else if (type.form == IA5_STRING) {
                refuseHighOctets(start);
            }
            if (!type.keepsTo(size)) {
                throw new IllegalArgumentException();
            }
        }

        private void string(int partTag, int depth) {
            if (!constructed) {
                piece(partTag);
                return;
            }
            if (depth > DEEPEST_STRING) {
                throw new IllegalArgumentException();
            }
            int limit = end;
            boolean isIndefinite = indefinite;
            int parts = 0;
            for (int n = 0; n < MOST_OCTETS && goesOn(limit, isIndefinite); n++) {
                readIdentifier(limit);
                readLength(limit);
                if (tag != partTag) {
                    throw new IllegalArgumentException();
                }
                string(partTag, depth + 1);
                parts++;
            }
            if (partTag == BIT_STRING && parts == 0) {
                throw new IllegalArgumentException();
            }
        }

        private void piece(int partTag) {
            if (partTag == BIT_STRING) {
                readUnused();
            }
            int size = end - at;
            for (int k = 0; k < size; k++) {
                out.append(next(end));
            }
        }

        private void readUnused() {
            // Bits left out of an earlier piece: that one was not the last, so it had to be whole.
            if (unused != 0) {
                throw new IllegalArgumentException();
            }
            unused = next(end);
            if (unused > 7 || unused != 0 && at == end) {
                throw new IllegalArgumentException();
            }
        }

        private void refuseHighOctets(int start) {
            for (int k = start; k < out.count; k++) {
                if (out.row[k] >= 128) {
                    throw new IllegalArgumentException();
                }
            }
        }

        private int countCharacters(int start) {
            int characters = 0;
            int missing = 0;
            int code = 0;
            int least = 0;
            for (int k = start; k < out.count; k++) {
                int octet = out.row[k];
                if (missing > 0) {
                    missing = octet >> 6 == 2 ? missing - 1 : NONE;
                    code = code << 6 | octet & 63;
                } else {
                    missing = followers(octet);
                    code = missing <= 0 ? octet : octet & 63 >> missing;
                    least = leastCode(missing);
                    characters++;
                }
                if (missing < 0 || missing == 0 && !isCharacter(code, least)) {
                    throw new IllegalArgumentException();
                }
            }
            if (missing != 0) {
                throw new IllegalArgumentException();
            }
            return characters;
        }

        private static int followers(int lead) {
            if (lead < 0x80) {
                return 0;
            }
            if (lead < 0xC0 || lead >= 0xF8) {
                return NONE;
            }
            if (lead < 0xE0) {
                return 1;
            }
            return lead < 0xF0 ? 2 : 3;
        }

        private static int leastCode(int followers) {
            if (followers <= 0) {
                return 0;
            }
            if (followers == 1) {
                return 0x80;
            }
            return followers == 2 ? 0x800 : 0x10000;
        }

        private static boolean isCharacter(int code, int least) {
            return code >= least && code <= 0x10FFFF && (code < 0xD800 || code > 0xDFFF);
        }

        private void innerOf(Type type, int depth) {
            int limit = end;
            boolean isIndefinite = indefinite;
            value(type.inner, limit, depth + 1);
            if (goesOn(limit, isIndefinite)) {
                throw new IllegalArgumentException();
            }
        }

        private void valuesOf(Type type, int depth) {
            int limit = end;
            boolean isIndefinite = indefinite;
            int start = out.count;
            for (int n = 0; n < MOST_OCTETS && goesOn(limit, isIndefinite); n++) {
                int own = out.count;
                value(type.inner, limit, depth + 1);
                if (type.form == SET_OF) {
                    settle(start, own, false);
                }
            }
        }

        private void membersOf(Members members, int depth) {
            int limit = end;
            boolean isIndefinite = indefinite;
            int start = out.count;
            int seen = 0;
            int from = 0;
            for (int n = 0; n < MOST_OCTETS && goesOn(limit, isIndefinite); n++) {
                int k = members.indexBearing(peekTag(limit), from);
                if (k < 0 || (seen >> k & 1) != 0) {
                    throw new IllegalArgumentException();
                }
                seen |= 1 << k;
                int own = out.count;
                value(members.types[k], limit, depth + 1);
                if (members.hows[k] == DEFAULT && !isWide && number == members.defaults[k]) {
                    out.count = own;
                }
                if (members.kind == SET) {
                    settle(start, own, true);
                } else {
                    from = k + 1;
                }
            }
            if (members.hasMandatoryOutside(seen)) {
                throw new IllegalArgumentException();
            }
        }

        /** Moves the last encoding, from own on, to its place among those from start on, which have theirs. */
        private void settle(int start, int own, boolean byTag) {
            if (own >= out.count) {
                return;
            }
            int place = start;
            for (int n = 0; n < MOST_OCTETS && place < own; n++) {
                int placeEnd = out.endOf(place);
                if (byTag ? out.tagAt(own) < out.tagAt(place) : isBelow(own, place, placeEnd)) {
                    break;
                }
                place = placeEnd;
            }
            if (place < own) {
                out.bringForward(place, own);
            }
        }

        private boolean isBelow(int own, int other, int otherEnd) {
            int ownSize = out.count - own;
            int otherSize = otherEnd - other;
            int size = Math.max(ownSize, otherSize);
            for (int k = 0; k < size; k++) {
                int a = k < ownSize ? out.row[own + k] : 0;
                int b = k < otherSize ? out.row[other + k] : 0;
                if (a != b) {
                    return a < b;
                }
            }
            return false;
        }
    }
}
