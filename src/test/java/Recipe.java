/**
 * How a type is made. Tests make it anew on an object for each question: the document promises
 * nothing about an object behind its 512th call.
 */
interface Recipe {
    Recipe BOOLEAN = x -> x.basic(1);
    Recipe INTEGER = x -> x.basic(2);
    Recipe BIT_STRING = x -> x.basic(3);
    Recipe OCTET_STRING = x -> x.basic(4);
    Recipe NULL = x -> x.basic(5);
    Recipe OBJECT_IDENTIFIER = x -> x.basic(6);
    Recipe UTF8_STRING = x -> x.basic(12);
    Recipe IA5_STRING = x -> x.basic(22);

    /** The number of the type. */
    int make(TagCoder x);

    /** A member of a SEQUENCE, SET or CHOICE. */
    record Part(Recipe type, int how, long value) {
    }

    default Recipe within(long low, long high) {
        return x -> x.bounded(make(x), low, high);
    }

    default Recipe explicit(int tagClass, int number) {
        return x -> x.tagged(tagClass, number, true, make(x));
    }

    default Recipe implicit(int tagClass, int number) {
        return x -> x.tagged(tagClass, number, false, make(x));
    }

    default Part mandatory() {
        return new Part(this, 0, 0);
    }

    default Part optional() {
        return new Part(this, 1, 0);
    }

    default Part byDefault(long value) {
        return new Part(this, 2, value);
    }

    static Recipe sequenceOf(Recipe inner) {
        return x -> x.list(16, inner.make(x));
    }

    static Recipe setOf(Recipe inner) {
        return x -> x.list(17, inner.make(x));
    }

    static Recipe sequence(Part... parts) {
        return x -> join(x, 16, parts);
    }

    static Recipe set(Part... parts) {
        return x -> join(x, 17, parts);
    }

    static Recipe choice(Recipe... alternatives) {
        Part[] parts = new Part[alternatives.length];
        for (int k = 0; k < parts.length; k++) {
            parts[k] = alternatives[k].mandatory();
        }
        return x -> join(x, 20, parts);
    }

    private static int join(TagCoder x, int kind, Part... parts) {
        // A part may open a list of its own, so all of them are made before this one is opened.
        int[] types = new int[parts.length];
        for (int k = 0; k < parts.length; k++) {
            types[k] = parts[k].type.make(x);
        }
        x.open(kind);
        for (int k = 0; k < parts.length; k++) {
            if (!x.member(types[k], parts[k].how, parts[k].value)) {
                throw new AssertionError("member " + k + " of a list of kind " + kind + " was refused");
            }
        }
        return x.close();
    }
}
