/** What the document says under Terms of types and the rules of tags, sentence by sentence. */
public final class TypeRulesTest {
    private static final Check CHECK = new Check("TypeRulesTest");
    private static final int TAG_CLASS = 1 << 21;
    private static final Recipe INTEGER = Recipe.INTEGER;
    private static final Recipe BOOLEAN = Recipe.BOOLEAN;
    private static final Recipe NULL = Recipe.NULL;

    public static void main(String[] args) {
        tags();
        lowerNumbers();
        deepestTypes();
        rulesOfWhatIsMade();
        basicTags();
        boundedIntegers();
        boundedSizes();
        boundedCharacters();
        explicitTags();
        otherTags();
        membersOfLists();
        anyNumberOfValues();
        alternatives();
        firstTags();
        rulesOfChoices();
        rulesOfSets();
        rulesOfSequences();
        untaggedChoices();
        CHECK.finish();
    }

    private static void tags() {
        CHECK.sentence("A TAG has a CLASS 0 .. 3 and a NUMBER.");
        String[] identifiers = {"05", "45", "85", "c5"};
        for (int tagClass = 0; tagClass <= 3; tagClass++) {
            Recipe type = tagClass == 0 ? NULL : NULL.implicit(tagClass, 5);
            for (int other = 0; other <= 3; other++) {
                if (other == tagClass) {
                    CHECK.kept(type, identifiers[other] + "00");
                } else {
                    CHECK.refused(type, identifiers[other] + "00");
                }
            }
        }
        CHECK.refused(NULL.implicit(1, 5), "44 00");
        CHECK.refused(NULL.implicit(1, 5), "46 00");
    }

    private static void lowerNumbers() {
        CHECK.sentence("TYPES 0 .. 15, each made once, of types with lower numbers");
        TagCoder x = new TagCoder();
        for (int n = 0; n < 16; n++) {
            CHECK.due("tagged of type " + n + " before it is made", x.tagged(1, n, true, n), -1);
            CHECK.due("list of type " + n + " before it is made", x.list(16, n), -1);
            CHECK.due("bounded of type " + n + " before it is made", x.bounded(n, 0, 1), -1);
            x.open(16);
            CHECK.due("member of type " + n + " before it is made", x.member(n, 0, 0), false);
            CHECK.due("type " + n, n == 0 ? x.basic(5) : x.tagged(1, n, true, n - 1), n);
        }
        CHECK.due("type 16", x.basic(5), -1);
        CHECK.due("tag of type 15", x.firstTag(15, 0), TAG_CLASS + 15);
    }

    private static void deepestTypes() {
        CHECK.sentence("TYPES 0 .. 15, each made once, of types with lower numbers");
        deepestDue(16, "30");
        deepestDue(17, "31");
        TagCoder x = new TagCoder();
        x.basic(5);
        StringBuilder loose = new StringBuilder();
        String strict = "05 00";
        for (int n = 1; n < 16; n++) {
            x.tagged(2, n, true, n - 1);
            loose.insert(0, String.format("%02x80", 0xA0 + n));
            strict = String.format("%02x%02x", 0xA0 + n, Check.plain(strict).length() / 2) + strict;
        }
        Check.feed(x, loose + "05 00" + "00 00".repeat(15));
        CHECK.due("fifteen EXPLICIT tags", Check.transcoded(x, 15), Check.plain(strict));
        CHECK.due("one less", Check.transcoded(x, 14), "IllegalArgumentException");
        deepestChoices();
        deepestMembers(16, "30");
        deepestMembers(17, "31");
    }

    private static void deepestMembers(int kind, String identifier) {
        TagCoder x = new TagCoder();
        x.basic(2);
        String strict = "02 01 05";
        for (int n = 1; n < 16; n++) {
            x.open(kind);
            x.member(n - 1, n % 2, 0);
            CHECK.due("list of kind " + kind + " with type " + (n - 1), x.close(), n);
            strict = String.format("%s%02x", identifier, Check.plain(strict).length() / 2) + strict;
        }
        Check.feed(x, (identifier + "80").repeat(15) + "02 01 05" + "00 00".repeat(15));
        CHECK.due("fifteen lists with members", Check.transcoded(x, 15), Check.plain(strict));
        CHECK.due("one less", Check.transcoded(x, 14), "IllegalArgumentException");
    }

    private static void deepestDue(int kind, String identifier) {
        TagCoder x = new TagCoder();
        x.basic(2);
        String strict = "02 01 05";
        for (int n = 1; n < 16; n++) {
            x.list(kind, n - 1);
            strict = String.format("%s%02x", identifier, Check.plain(strict).length() / 2) + strict;
        }
        Check.feed(x, (identifier + "80").repeat(15) + "02 01 05" + "00 00".repeat(15));
        CHECK.due("fifteen lists of kind " + kind, Check.transcoded(x, 15), Check.plain(strict));
        CHECK.due("one less", Check.transcoded(x, 14), "IllegalArgumentException");
        x.clear();
        Check.feed(x, (identifier + "80").repeat(16) + "00 00".repeat(16));
        CHECK.due("sixteen lists of kind " + kind, Check.transcoded(x, 15), "IllegalArgumentException");
    }

    private static void deepestChoices() {
        TagCoder x = new TagCoder();
        x.basic(2);
        for (int n = 1; n < 16; n++) {
            x.open(20);
            x.member(n - 1, 0, 0);
            CHECK.due("CHOICE of type " + (n - 1), x.close(), n);
        }
        x.feed(0x02810105, 4);
        CHECK.due("fifteen CHOICEs", Check.transcoded(x, 15), "020105");
        x.clear();
        x.feed(0x0500, 2);
        CHECK.due("another tag", Check.transcoded(x, 15), "IllegalArgumentException");
        CHECK.due("tag of the outermost", x.firstTag(15, 0), 2);
        CHECK.due("only one", x.firstTag(15, 1), -1);
    }

    private static void rulesOfWhatIsMade() {
        CHECK.sentence("(the rules are looked at for what is made just then)");
        TagCoder x = new TagCoder();
        x.basic(2);
        x.open(20);
        CHECK.due("an alternative", x.member(0, 0, 0), true);
        CHECK.due("one with the same tag, before close", x.member(0, 0, 0), true);
        CHECK.due("close", x.close(), -1);
        Recipe choice = Recipe.choice(INTEGER, BOOLEAN);
        Recipe inner = Recipe.sequence(choice.mandatory(), choice.mandatory());
        CHECK.allowed("a SET with CHOICEs further inside", Recipe.set(inner.mandatory(), choice.mandatory()));
        CHECK.allowed("a CHOICE under a tag beside itself", Recipe.choice(choice, choice.explicit(1, 1)));
        CHECK.allowed("an unclear one far inside", Recipe.sequence(inner.optional(), choice.mandatory()));
    }

    private static void basicTags() {
        CHECK.sentence("their tag is class 0 and the kind.");
        Recipe[] types = {BOOLEAN, INTEGER, Recipe.BIT_STRING, Recipe.OCTET_STRING, NULL, Recipe.OBJECT_IDENTIFIER,
            Recipe.UTF8_STRING, Recipe.IA5_STRING};
        int[] kinds = {1, 2, 3, 4, 5, 6, 12, 22};
        String[] encodings = {"01 01 00", "02 01 00", "03 01 00", "04 00", "05 00", "06 01 00", "0c 00", "16 00"};
        for (int k = 0; k < kinds.length; k++) {
            TagCoder x = new TagCoder();
            CHECK.due("tag of kind " + kinds[k], x.firstTag(x.basic(kinds[k]), 0), kinds[k]);
            for (int other = 0; other < kinds.length; other++) {
                if (other == k) {
                    CHECK.kept(types[k], encodings[other]);
                } else {
                    CHECK.refused(types[k], encodings[other]);
                }
            }
        }
    }

    private static void boundedIntegers() {
        CHECK.sentence("BOUNDED: kinds 2, 4, 12, 22 with a LOW and a HIGH (both included) that the value");
        Recipe some = INTEGER.within(-3, 300);
        CHECK.refused(some, "02 01 fc");
        CHECK.kept(some, "02 01 fd");
        CHECK.kept(some, "02 01 00");
        CHECK.kept(some, "02 02 01 2c");
        CHECK.refused(some, "02 02 01 2d");
        Recipe one = INTEGER.within(-129, -129);
        CHECK.refused(one, "02 01 80");
        CHECK.kept(one, "02 02 ff 7f");
        CHECK.refused(one, "02 02 ff 7e");
        Recipe high = INTEGER.within(Long.MAX_VALUE, Long.MAX_VALUE);
        CHECK.kept(high, "02 08 7f ff ff ff ff ff ff ff");
        CHECK.refused(high, "02 08 7f ff ff ff ff ff ff fe");
        CHECK.refused(high, "02 08 80 00 00 00 00 00 00 00");
        Recipe low = INTEGER.within(Long.MIN_VALUE, Long.MIN_VALUE);
        CHECK.kept(low, "02 08 80 00 00 00 00 00 00 00");
        CHECK.refused(low, "02 08 80 00 00 00 00 00 00 01");
        CHECK.refused(low, "02 08 7f ff ff ff ff ff ff ff");
        Recipe beyondInts = INTEGER.within(1L << 32, (1L << 32) + 1);
        CHECK.refused(beyondInts, "02 05 00 ff ff ff ff");
        CHECK.kept(beyondInts, "02 05 01 00 00 00 00");
        CHECK.kept(beyondInts, "02 05 01 00 00 00 01");
        CHECK.refused(beyondInts, "02 05 01 00 00 00 02");
        CHECK.refused(beyondInts, "02 01 00");
        for (Recipe tagged : new Recipe[] {some.implicit(1, 2), some.implicit(1, 5).implicit(1, 2)}) {
            CHECK.refused(tagged, "42 01 fc");
            CHECK.kept(tagged, "42 01 fd");
            CHECK.kept(tagged, "42 02 01 2c");
            CHECK.refused(tagged, "42 02 01 2d");
        }
        CHECK.kept(some.explicit(1, 3), "63 04 02 02 01 2c");
        CHECK.refused(some.explicit(1, 3), "63 04 02 02 01 2d");
    }

    private static void boundedSizes() {
        CHECK.sentence("or its size (octets; for kind 12 characters), keeps to.");
        sizesDue(Recipe.OCTET_STRING, "04", "24");
        sizesDue(Recipe.IA5_STRING, "16", "36");
        sizesDue(Recipe.UTF8_STRING, "0c", "2c");
        twoOrThreeDue(Recipe.OCTET_STRING.within(2, 3).implicit(2, 4), "84", "a4");
        Recipe longest = Recipe.OCTET_STRING.within(197, 197);
        CHECK.kept(longest, "04 81 c5" + "80".repeat(197));
        CHECK.refused(longest, "04 81 c4" + "80".repeat(196));
        CHECK.refused(Recipe.OCTET_STRING.within(0, 196), "04 81 c5" + "80".repeat(197));
        CHECK.kept(Recipe.OCTET_STRING.within(0, 1L << 32), "04 01 80");
        // The size is its own, not that of what stands before it.
        for (Recipe basic : new Recipe[] {Recipe.OCTET_STRING, Recipe.IA5_STRING, Recipe.UTF8_STRING}) {
            Recipe pair = Recipe.sequence(INTEGER.mandatory(), basic.within(1, 2).implicit(2, 0).mandatory());
            CHECK.refused(pair, "30 05 02 01 05 80 00");
            CHECK.kept(pair, "30 06 02 01 05 80 01 41");
            CHECK.kept(pair, "30 07 02 01 05 80 02 41 41");
            CHECK.refused(pair, "30 08 02 01 05 80 03 41 41 41");
            Recipe list = Recipe.setOf(basic.within(2, 2).implicit(2, 0));
            CHECK.kept(list, "31 0c 80 02 41 41 80 02 41 42 80 02 41 43");
            CHECK.refused(list, "31 0c 80 02 41 41 80 01 42 80 03 41 41 43");
        }
        CHECK.refused(Recipe.OCTET_STRING.within(1L << 32, 1L << 33), "04 00");
    }

    private static void sizesDue(Recipe basic, String primitive, String constructed) {
        twoOrThreeDue(basic.within(2, 3), primitive, constructed);
        CHECK.kept(basic.within(0, 0), primitive + "00");
        CHECK.taken(basic.within(0, 0), constructed + "80 04 00 00 00", primitive + "00");
        CHECK.refused(basic.within(0, 0), primitive + "01 41");
        CHECK.refused(basic.within(1, 1), primitive + "00");
        CHECK.refused(basic.within(1, 1), constructed + "00");
        CHECK.kept(basic.within(1, 1), primitive + "01 41");
        CHECK.refused(basic.within(1, 1), primitive + "02 41 41");
        CHECK.kept(basic.within(0, Long.MAX_VALUE), primitive + "02 41 41");
    }

    private static void twoOrThreeDue(Recipe twoOrThree, String primitive, String constructed) {
        CHECK.refused(twoOrThree, primitive + "00");
        CHECK.refused(twoOrThree, primitive + "01 41");
        CHECK.kept(twoOrThree, primitive + "02 41 42");
        CHECK.kept(twoOrThree, primitive + "03 41 42 43");
        CHECK.refused(twoOrThree, primitive + "04 41 42 43 44");
        // The size is that of the whole string: its parts are shorter or have none.
        CHECK.refused(twoOrThree, constructed + "03 04 01 41");
        CHECK.taken(twoOrThree, constructed + "08 04 01 41 04 00 04 01 42", primitive + "02 41 42");
        CHECK.taken(twoOrThree, constructed + "80 24 04 04 02 41 42 04 01 43 00 00", primitive + "03 41 42 43");
        CHECK.refused(twoOrThree, constructed + "08 04 02 41 42 04 02 43 44");
    }

    private static void boundedCharacters() {
        CHECK.sentence("(octets; for kind 12 characters)");
        Recipe two = Recipe.UTF8_STRING.within(2, 2);
        CHECK.refused(two, "0c 02 c3 a9");
        CHECK.refused(two, "0c 03 e2 82 ac");
        CHECK.refused(two, "0c 04 f0 9f 98 80");
        CHECK.kept(two, "0c 04 c3 a9 c3 a9");
        CHECK.kept(two, "0c 06 e2 82 ac e2 82 ac");
        CHECK.kept(two, "0c 08 f0 9f 98 80 f4 8f bf bf");
        CHECK.kept(two, "0c 05 f0 9f 98 80 41");
        CHECK.refused(two, "0c 09 f0 9f 98 80 f4 8f bf bf 41");
        CHECK.taken(two, "2c 80 04 02 f0 9f 04 04 98 80 e2 82 04 01 ac 00 00", "0c 07 f0 9f 98 80 e2 82 ac");
        CHECK.refused(Recipe.OCTET_STRING.within(2, 2), "04 04 c3 a9 c3 a9");
    }

    private static void explicitTags() {
        CHECK.sentence("EXPLICIT (its tag comes before the inner type's encoding)");
        Recipe type = INTEGER.explicit(2, 1);
        CHECK.kept(type, "a1 03 02 01 05");
        CHECK.taken(type, "a1 80 02 81 01 05 00 00", "a1 03 02 01 05");
        CHECK.refused(type, "a1 00");
        CHECK.refused(type, "a1 80 00 00");
        CHECK.refused(type, "a1 06 02 01 05 02 01 05");
        CHECK.refused(type, "a1 80 02 01 05 02 01 05 00 00");
        CHECK.refused(type, "a1 05 02 01 05 00 00");
        CHECK.refused(type, "a1 04 02 01 05 00");
        CHECK.refused(type, "a1 02 02 01 05");
        CHECK.refused(type, "a1 01 05");
        CHECK.refused(type, "02 01 05");
        CHECK.refused(type, "81 03 02 01 05");
        CHECK.refused(type, "a1 03 01 01 05");
        CHECK.kept(type.explicit(2, 1), "a1 05 a1 03 02 01 05");
        CHECK.refused(type.explicit(2, 1), "a1 03 02 01 05");
        CHECK.kept(INTEGER.implicit(1, 2).explicit(1, 3), "63 03 42 01 05");
        CHECK.kept(Recipe.choice(INTEGER, NULL).explicit(3, 0), "e0 02 05 00");
        CHECK.kept(Recipe.choice(INTEGER, NULL).explicit(3, 0), "e0 03 02 01 05");
        CHECK.refused(Recipe.choice(INTEGER, NULL).explicit(3, 0), "e0 03 01 01 05");
    }

    private static void otherTags() {
        CHECK.sentence("or not (its tag comes instead of the inner one's first tag, also of an EXPLICIT one's,"
            + " constructed then)");
        CHECK.kept(INTEGER.implicit(2, 0), "80 01 05");
        CHECK.refused(INTEGER.implicit(2, 0), "a0 01 05");
        CHECK.refused(INTEGER.implicit(2, 0), "02 01 05");
        CHECK.refused(INTEGER.implicit(2, 0), "a0 03 02 01 05");
        CHECK.kept(INTEGER.implicit(2, 0).implicit(3, 3), "c3 01 05");
        CHECK.refused(INTEGER.implicit(2, 0).implicit(3, 3), "80 01 05");
        Recipe overExplicit = INTEGER.explicit(2, 1).implicit(1, 2);
        CHECK.taken(overExplicit, "62 04 02 81 01 05", "62 03 02 01 05");
        CHECK.taken(overExplicit, "62 80 02 01 05 00 00", "62 03 02 01 05");
        CHECK.refused(overExplicit, "42 01 05");
        CHECK.refused(overExplicit, "42 03 02 01 05");
        CHECK.refused(overExplicit, "62 05 a1 03 02 01 05");
        CHECK.refused(overExplicit, "a1 03 02 01 05");
        CHECK.kept(overExplicit.implicit(1, 9), "69 03 02 01 05");
        CHECK.kept(NULL.explicit(2, 1).explicit(2, 2).implicit(2, 3), "a3 04 a1 02 05 00");
        CHECK.kept(Recipe.choice(INTEGER, NULL).explicit(2, 1).implicit(2, 3), "a3 02 05 00");
        CHECK.kept(Recipe.sequenceOf(INTEGER).implicit(2, 5), "a5 03 02 01 05");
        CHECK.refused(Recipe.sequenceOf(INTEGER).implicit(2, 5), "85 03 02 01 05");
        CHECK.refused(Recipe.sequenceOf(INTEGER).implicit(2, 5), "30 03 02 01 05");
        CHECK.kept(Recipe.set(NULL.mandatory()).implicit(2, 5), "a5 02 05 00");
        CHECK.taken(Recipe.OCTET_STRING.implicit(2, 6), "a6 80 04 01 05 00 00", "86 01 05");
        CHECK.taken(Recipe.BIT_STRING.implicit(2, 7), "a7 04 03 02 01 ff", "87 02 01 fe");
    }

    private static void membersOfLists() {
        CHECK.sentence("up to 6 MEMBERS, each a type, and MANDATORY, OPTIONAL, or with a DEFAULT.");
        CHECK.taken(Recipe.sequence(), "30 80 00 00", "30 00");
        CHECK.kept(Recipe.sequence(), "30 00");
        CHECK.refused(Recipe.sequence(), "30 02 05 00");
        CHECK.refused(Recipe.sequence(), "30 02 00 00");
        CHECK.refused(Recipe.sequence(), "31 00");
        CHECK.taken(Recipe.set(), "31 80 00 00", "31 00");
        CHECK.refused(Recipe.set(), "31 02 05 00");
        CHECK.refused(Recipe.set(), "30 00");
        Recipe.Part[] six = new Recipe.Part[6];
        Recipe.Part[] sixOptional = new Recipe.Part[6];
        StringBuilder all = new StringBuilder();
        for (int k = 0; k < 6; k++) {
            six[k] = NULL.implicit(2, k).mandatory();
            sixOptional[k] = NULL.implicit(2, k).optional();
            all.append(String.format("%02x00", 0x80 + k));
        }
        CHECK.kept(Recipe.sequence(six), "30 0c" + all);
        CHECK.kept(Recipe.set(six), "31 0c" + all);
        for (int k = 0; k < 6; k++) {
            String one = all.substring(4 * k, 4 * k + 4);
            String others = all.substring(0, 4 * k) + all.substring(4 * k + 4);
            CHECK.refused(Recipe.sequence(six), "30 0a" + others);
            CHECK.refused(Recipe.set(six), "31 0a" + others);
            CHECK.kept(Recipe.sequence(sixOptional), "30 0a" + others);
            CHECK.kept(Recipe.set(sixOptional), "31 0a" + others);
            CHECK.kept(Recipe.sequence(sixOptional), "30 02" + one);
            CHECK.kept(Recipe.set(sixOptional), "31 02" + one);
        }
        CHECK.kept(Recipe.sequence(sixOptional), "30 00");
        CHECK.kept(Recipe.set(sixOptional), "31 00");
    }

    private static void anyNumberOfValues() {
        CHECK.sentence("SEQUENCE OF and SET OF (16, 17): any number of values of a type.");
        for (int count : new int[] {0, 1, 2, 7, 63, 64, 98}) {
            String values = "05 00".repeat(count);
            String length = count < 64 ? String.format("%02x", 2 * count) : String.format("81%02x", 2 * count);
            CHECK.taken(Recipe.sequenceOf(NULL), "30 80" + values + "00 00", "30" + length + values);
            CHECK.taken(Recipe.setOf(NULL), "31 80" + values + "00 00", "31" + length + values);
            CHECK.kept(Recipe.sequenceOf(NULL), "30" + length + values);
            CHECK.kept(Recipe.setOf(NULL), "31" + length + values);
        }
        CHECK.refused(Recipe.sequenceOf(NULL), "30 03 01 01 00");
        CHECK.refused(Recipe.setOf(NULL), "31 05 05 00 01 01 00");
        CHECK.refused(Recipe.sequenceOf(NULL), "31 00");
        CHECK.refused(Recipe.setOf(NULL), "30 00");
    }

    private static void alternatives() {
        CHECK.sentence("CHOICE: 1 to 6 ALTERNATIVES, which are types.");
        CHECK.forbidden("a CHOICE of none", Recipe.choice());
        CHECK.kept(Recipe.choice(NULL), "05 00");
        Recipe six = Recipe.choice(NULL, Recipe.OCTET_STRING, INTEGER, BOOLEAN, Recipe.IA5_STRING, NULL.explicit(2, 9));
        for (String octets : new String[] {"05 00", "04 01 aa", "02 01 05", "01 01 ff", "16 01 41", "a9 02 05 00"}) {
            CHECK.kept(six, octets);
        }
        CHECK.refused(six, "0c 01 41");
        CHECK.refused(six, "14 02 05 00");
        CHECK.refused(six, "34 02 05 00");
    }

    private static void firstTags() {
        CHECK.sentence("FIRST TAGS of a type: its tag; of a CHOICE those of all alternatives.");
        Recipe choice = Recipe.choice(INTEGER, Recipe.choice(BOOLEAN, NULL.explicit(1, 0)), NULL);
        TagCoder x = new TagCoder();
        int type = choice.make(x);
        int[] due = {2, 1, TAG_CLASS, 5, -1};
        for (int j = 0; j < due.length; j++) {
            CHECK.due("tag " + j, x.firstTag(type, j), due[j]);
        }
        int around = x.tagged(3, 7, true, type);
        CHECK.due("tag of it under a tag", x.firstTag(around, 0), 3 * TAG_CLASS + 7);
        CHECK.due("only that one", x.firstTag(around, 1), -1);
        int list = x.list(16, type);
        CHECK.due("tag of a list of it", x.firstTag(list, 0), 16);
        CHECK.due("only that one", x.firstTag(list, 1), -1);
    }

    private static void rulesOfChoices() {
        CHECK.sentence("first tags of two alternatives of a CHOICE, or of two members of a SET, have none in common");
        Recipe choice = Recipe.choice(BOOLEAN, INTEGER.explicit(2, 1));
        CHECK.forbidden("two INTEGERs", Recipe.choice(INTEGER, INTEGER));
        CHECK.forbidden("INTEGER and a bounded one", Recipe.choice(INTEGER, INTEGER.within(0, 1)));
        CHECK.allowed("INTEGER and a tagged one", Recipe.choice(INTEGER, INTEGER.implicit(1, 2)));
        CHECK.forbidden("two of a tag", Recipe.choice(INTEGER.implicit(1, 2), NULL.explicit(1, 2)));
        CHECK.allowed("two classes", Recipe.choice(INTEGER.implicit(1, 2), INTEGER.implicit(2, 2)));
        CHECK.allowed("two numbers", Recipe.choice(INTEGER.implicit(1, 2), INTEGER.implicit(1, 3)));
        CHECK.forbidden("SEQUENCE and SEQUENCE OF", Recipe.choice(Recipe.sequence(), Recipe.sequenceOf(NULL)));
        CHECK.forbidden("SET OF and SET", Recipe.choice(Recipe.setOf(NULL), Recipe.set()));
        CHECK.allowed("SEQUENCE and SET", Recipe.choice(Recipe.sequence(), Recipe.set()));
        CHECK.forbidden("a CHOICE and its first", Recipe.choice(choice, BOOLEAN));
        CHECK.forbidden("a CHOICE behind its last", Recipe.choice(NULL.implicit(2, 1), choice));
        CHECK.allowed("a CHOICE and what it tags", Recipe.choice(choice, INTEGER));
        CHECK.forbidden("a CHOICE twice", Recipe.choice(choice, choice));
        CHECK.forbidden("two CHOICEs with one tag in common", Recipe.choice(choice, Recipe.choice(NULL, BOOLEAN)));
        CHECK.forbidden("one deeper", Recipe.choice(BOOLEAN, Recipe.choice(NULL, Recipe.choice(INTEGER, BOOLEAN))));
        for (int first = 0; first < 6; first++) {
            for (int second = first + 1; second < 6; second++) {
                Recipe[] six = new Recipe[6];
                for (int k = 0; k < 6; k++) {
                    six[k] = NULL.implicit(1, k == second ? first : k);
                }
                CHECK.forbidden("alternatives " + first + " and " + second + " alike", Recipe.choice(six));
            }
        }
    }

    private static void rulesOfSets() {
        CHECK.sentence("first tags of two alternatives of a CHOICE, or of two members of a SET, have none in common");
        Recipe choice = Recipe.choice(BOOLEAN, INTEGER.explicit(2, 1));
        CHECK.allowed("three tags", Recipe.set(INTEGER.mandatory(), BOOLEAN.optional(), NULL.mandatory()));
        for (int how = 0; how < 3; how++) {
            for (int other = 0; other < 3; other++) {
                Recipe.Part first = new Recipe.Part(INTEGER, how, 0);
                Recipe.Part second = new Recipe.Part(INTEGER.within(0, 1), other, 0);
                CHECK.forbidden("hows " + how + " and " + other, Recipe.set(first, second));
                CHECK.forbidden("hows " + how + " and " + other + " with one between",
                    Recipe.set(first, BOOLEAN.mandatory(), second));
            }
        }
        CHECK.forbidden("a CHOICE and its first", Recipe.set(choice.optional(), BOOLEAN.byDefault(1)));
        CHECK.forbidden("a CHOICE behind its last", Recipe.set(NULL.implicit(2, 1).mandatory(), choice.mandatory()));
        CHECK.allowed("a CHOICE and another tag", Recipe.set(INTEGER.optional(), choice.mandatory()));
        for (int first = 0; first < 6; first++) {
            for (int second = first + 1; second < 6; second++) {
                Recipe.Part[] six = new Recipe.Part[6];
                for (int k = 0; k < 6; k++) {
                    six[k] = NULL.implicit(1, k == second ? first : k).mandatory();
                }
                CHECK.forbidden("members " + first + " and " + second + " alike", Recipe.set(six));
            }
        }
    }

    private static void rulesOfSequences() {
        CHECK.sentence("in a SEQUENCE those of an OPTIONAL or DEFAULT member and of each member behind it"
            + " up to the next MANDATORY one, that one too, have none in common.");
        // A letter is a tag, capital where MANDATORY, followed by ? where OPTIONAL and = with a DEFAULT;
        // Z is a CHOICE of A and B.
        String[] allowed = {"", "A", "A A A A A A", "A a?", "A a=", "a? B A", "a= B A", "a? B a?", "a= B a=",
            "a? B A a?", "A b? A", "A b? c? d? e? A", "a? b? c? d? e? F", "a? b? c= d? e? f?", "a? B a? B a? B",
            "C Z", "Z Z",
            "Z z? C",
            "a? C Z", "Z a? b?", "c? Z"};
        String[] forbidden = {"a? A", "a= A", "a? a?", "a? a=", "a= a?", "a= a=", "a? b? A", "a? b= A", "a? b? a?",
            "B a? A", "B a? c? A", "A B b? c? d? B", "a? b? c? d? e? A", "a? b? c? d? e? a=", "A a? A", "A a= c? a? B",
            "a? Z", "b= Z", "c? a? Z", "z? A", "z? B", "z? c? B", "z? Z", "z? z?", "C z? b=", "a? B b? B",
            "a? B c? a? c="};
        for (String members : allowed) {
            CHECK.allowed(members, x -> sequenceOf(x, members));
        }
        for (String members : forbidden) {
            CHECK.forbidden(members, x -> sequenceOf(x, members));
        }
    }

    private static int sequenceOf(TagCoder x, String members) {
        for (int n = 0; n < 6; n++) {
            x.tagged(2, n, false, n == 0 ? x.basic(2) : 0);
        }
        x.open(20);
        x.member(1, 0, 0);
        x.member(2, 0, 0);
        int choice = x.close();
        x.open(16);
        for (String member : members.isEmpty() ? new String[0] : members.split(" ")) {
            int letter = Character.toUpperCase(member.charAt(0)) - 'A';
            int how = member.endsWith("?") ? 1 : member.endsWith("=") ? 2 : 0;
            if (!x.member(letter == 25 ? choice : letter + 1, how, 0)) {
                throw new AssertionError(member + " of " + members + " was refused");
            }
        }
        return x.close();
    }

    private static void untaggedChoices() {
        CHECK.sentence("What is tagged without EXPLICIT is no CHOICE.");
        Recipe choice = Recipe.choice(INTEGER, NULL);
        CHECK.forbidden("a CHOICE", choice.implicit(1, 1));
        CHECK.forbidden("a CHOICE of one", Recipe.choice(INTEGER).implicit(1, 1));
        CHECK.forbidden("a CHOICE of a CHOICE", Recipe.choice(choice).implicit(1, 1));
        CHECK.allowed("a CHOICE, EXPLICIT", choice.explicit(1, 1));
        CHECK.allowed("an EXPLICIT one's tag", choice.explicit(1, 1).implicit(1, 2));
        CHECK.allowed("a list of a CHOICE", Recipe.sequenceOf(choice).implicit(1, 1));
        CHECK.allowed("a SEQUENCE with a CHOICE", Recipe.sequence(choice.mandatory()).implicit(1, 1));
    }
}
