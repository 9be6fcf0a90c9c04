/** What the document says under Terms of the strict form, sentence by sentence. */
public final class StrictFormTest {
    private static final Check CHECK = new Check("StrictFormTest");
    private static final Recipe INTEGER = Recipe.INTEGER;
    private static final Recipe BOOLEAN = Recipe.BOOLEAN;
    private static final Recipe NULL = Recipe.NULL;
    private static final Recipe OCTET_STRING = Recipe.OCTET_STRING;

    public static void main(String[] args) {
        shortestLengths();
        lengthsAt128();
        shrinkingLengths();
        truth();
        primitiveStrings();
        unusedBits();
        defaultNumbers();
        wideDefaults();
        defaultTruths();
        taggedDefaults();
        defaultsOfSets();
        setsByNumber();
        setsByClass();
        setsByOutermostTag();
        setsByAlternative();
        longMembersInOrder();
        setsOfByOctets();
        longValuesInOrder();
        alikeValues();
        valuesThatEndFirst();
        strictInsideFirst();
        strictAgain();
        CHECK.finish();
    }

    private static void shortestLengths() {
        CHECK.sentence("shortest identifiers and lengths, no indefinite ones");
        Recipe type = Recipe.sequenceOf(INTEGER.explicit(2, 128));
        CHECK.taken(type, "30 84 00 00 00 0b bf 81 00 83 00 00 04 02 81 01 05", "30 07 bf 81 00 03 02 01 05");
        CHECK.taken(type, "30 80 bf 81 00 80 02 82 00 01 05 00 00 00 00", "30 07 bf 81 00 03 02 01 05");
        CHECK.taken(Recipe.set(NULL.optional()), "31 80 00 00", "31 00");
        CHECK.taken(Recipe.set(NULL.optional()), "31 84 00 00 00 00", "31 00");
        CHECK.taken(NULL.implicit(1, 2000), "5f 8f 50 84 00 00 00 00", "5f 8f 50 00");
    }

    private static void lengthsAt128() {
        CHECK.sentence("shortest identifiers and lengths, no indefinite ones");
        for (int size : new int[] {125, 126, 127, 128, 129, 194}) {
            String contents = "41".repeat(size);
            String length = size < 128 ? String.format("%02x", size) : String.format("81%02x", size);
            CHECK.taken(OCTET_STRING, String.format("04 84 00 00 00 %02x", size) + contents, "04" + length + contents);
            CHECK.kept(Recipe.IA5_STRING, "16" + length + contents);
        }
        // Contents of 127 and of 128 octets that a header further in makes.
        CHECK.taken(Recipe.sequenceOf(OCTET_STRING), "30 80 04 7d" + "00".repeat(125) + "00 00",
            "30 7f 04 7d" + "00".repeat(125));
        CHECK.taken(Recipe.sequenceOf(OCTET_STRING), "30 80 04 7e" + "00".repeat(126) + "00 00",
            "30 81 80 04 7e" + "00".repeat(126));
        CHECK.taken(OCTET_STRING.explicit(1, 31), "7f 1f 80 04 7e" + "00".repeat(126) + "00 00",
            "7f 1f 81 80 04 7e" + "00".repeat(126));
    }

    private static void shrinkingLengths() {
        CHECK.sentence("shortest identifiers and lengths, no indefinite ones");
        // What is around is measured behind all that is within has become shorter.
        CHECK.taken(Recipe.sequenceOf(NULL), "30 81 a8" + "05 84 00 00 00 00".repeat(28), "30 38" + "05 00".repeat(28));
        CHECK.taken(Recipe.sequenceOf(OCTET_STRING), "30 81 80 24 7e" + "04 00".repeat(63), "30 02 04 00");
        CHECK.taken(Recipe.setOf(NULL), "31 81 c5 05 81 00" + "05 00".repeat(97), "31 81 c4" + "05 00".repeat(98));
        CHECK.taken(OCTET_STRING, "24 81 84 04 7f" + "5a".repeat(127) + "04 01 5a", "04 81 80" + "5a".repeat(128));
        CHECK.taken(OCTET_STRING, "24 81 83 04 7f" + "5a".repeat(127) + "04 00", "04 7f" + "5a".repeat(127));
        CHECK.taken(Recipe.BIT_STRING, "23 81 84 03 7f 00" + "5a".repeat(126) + "03 01 00",
            "03 7f 00" + "5a".repeat(126));
    }

    private static void truth() {
        CHECK.sentence("true is 255");
        for (int octet : new int[] {1, 2, 127, 128, 254, 255}) {
            CHECK.taken(BOOLEAN, String.format("01 01 %02x", octet), "01 01 ff");
            CHECK.taken(BOOLEAN.implicit(1, 1), String.format("41 01 %02x", octet), "41 01 ff");
            CHECK.taken(Recipe.sequenceOf(BOOLEAN), String.format("30 06 01 01 00 01 01 %02x", octet),
                "30 06 01 01 00 01 01 ff");
        }
        CHECK.kept(BOOLEAN, "01 01 00");
    }

    private static void primitiveStrings() {
        CHECK.sentence("strings are primitive");
        CHECK.taken(OCTET_STRING, "24 80 04 01 01 24 80 04 01 02 00 00 00 00", "04 02 01 02");
        CHECK.taken(Recipe.UTF8_STRING, "2c 03 04 01 41", "0c 01 41");
        CHECK.taken(Recipe.IA5_STRING, "36 03 04 01 41", "16 01 41");
        CHECK.taken(Recipe.BIT_STRING, "23 04 03 02 00 41", "03 02 00 41");
        CHECK.taken(OCTET_STRING.implicit(3, 31), "ff 1f 03 04 01 41", "df 1f 01 41");
        CHECK.taken(OCTET_STRING.explicit(3, 31), "ff 1f 05 24 03 04 01 41", "ff 1f 03 04 01 41");
        CHECK.taken(OCTET_STRING, "24 00", "04 00");
    }

    private static void unusedBits() {
        CHECK.sentence("bits that are not part of a BIT STRING 0");
        for (int unused = 0; unused <= 7; unused++) {
            for (int octet : new int[] {0xFF, 0x55, 0xAA, 0x7F, 0x00}) {
                int strict = octet >> unused << unused;
                CHECK.taken(Recipe.BIT_STRING, String.format("03 02 %02x %02x", unused, octet),
                    String.format("03 02 %02x %02x", unused, strict));
                CHECK.taken(Recipe.BIT_STRING, String.format("23 08 03 02 00 ff 03 02 %02x %02x", unused, octet),
                    String.format("03 03 %02x ff %02x", unused, strict));
            }
        }
        CHECK.kept(Recipe.BIT_STRING, "03 01 00");
    }

    private static void defaultNumbers() {
        CHECK.sentence("members that have their default's value are left out");
        long[] values = {0, 1, -1, 127, 128, -128, -129, 255, 256, 1L << 31, -1L << 31, 1L << 32, Long.MAX_VALUE,
            Long.MIN_VALUE};
        for (long value : values) {
            for (long other : values) {
                String contents = contents(other);
                int size = contents.length() / 2;
                String list = String.format("30 %02x 02 %02x", size + 2, size) + contents;
                Recipe type = Recipe.sequence(INTEGER.byDefault(value));
                CHECK.taken(type, list, other == value ? "30 00" : list);
            }
        }
        CHECK.taken(Recipe.sequence(INTEGER.within(0, 9).byDefault(9)), "30 03 02 01 09", "30 00");
        CHECK.kept(Recipe.sequence(INTEGER.within(0, 9).byDefault(9)), "30 03 02 01 08");
        CHECK.refused(Recipe.sequence(INTEGER.within(0, 9).byDefault(9)), "30 03 02 01 0a");
        CHECK.kept(Recipe.sequence(INTEGER.optional()), "30 03 02 01 00");
        CHECK.kept(Recipe.sequence(INTEGER.mandatory()), "30 03 02 01 00");
        Recipe three = Recipe.sequence(INTEGER.byDefault(5), BOOLEAN.byDefault(1), INTEGER.implicit(1, 1).byDefault(6));
        CHECK.taken(three, "30 09 02 01 05 01 01 01 41 01 06", "30 00");
        CHECK.taken(three, "30 09 02 01 06 01 01 01 41 01 05", "30 06 02 01 06 41 01 05");
        CHECK.taken(three, "30 09 02 01 05 01 01 00 41 01 06", "30 03 01 01 00");
        CHECK.refused(three, "30 06 02 01 05 02 01 05");
    }

    private static String contents(long value) {
        StringBuilder digits = new StringBuilder();
        for (byte octet : java.math.BigInteger.valueOf(value).toByteArray()) {
            digits.append(String.format("%02x", octet));
        }
        return digits.toString();
    }

    private static void wideDefaults() {
        CHECK.sentence("members that have their default's value are left out");
        // Too large for a long: what is left of them behind a wrap-around is the default's value.
        CHECK.kept(Recipe.sequence(INTEGER.byDefault(5)), "30 0b 02 09 01 00 00 00 00 00 00 00 05");
        CHECK.kept(Recipe.sequence(INTEGER.byDefault(0)), "30 0b 02 09 01 00 00 00 00 00 00 00 00");
        CHECK.kept(Recipe.sequence(INTEGER.byDefault(-1)), "30 0b 02 09 00 ff ff ff ff ff ff ff ff");
        CHECK.kept(Recipe.sequence(INTEGER.byDefault(Long.MIN_VALUE)), "30 0b 02 09 00 80 00 00 00 00 00 00 00");
        CHECK.kept(Recipe.sequence(INTEGER.byDefault(Long.MAX_VALUE)), "30 0b 02 09 ff 7f ff ff ff ff ff ff ff");
        CHECK.taken(Recipe.sequence(INTEGER.byDefault(0), INTEGER.implicit(1, 1).byDefault(0)),
            "30 0e 02 09 01 00 00 00 00 00 00 00 00 41 01 00", "30 0b 02 09 01 00 00 00 00 00 00 00 00");
        CHECK.taken(Recipe.sequence(INTEGER.optional(), BOOLEAN.byDefault(0)),
            "30 0e 02 09 01 00 00 00 00 00 00 00 00 01 01 00", "30 0b 02 09 01 00 00 00 00 00 00 00 00");
    }

    private static void defaultTruths() {
        CHECK.sentence("members that have their default's value are left out");
        for (int octet = 0; octet < 256; octet++) {
            String list = String.format("30 03 01 01 %02x", octet);
            CHECK.taken(Recipe.sequence(BOOLEAN.byDefault(0)), list, octet == 0 ? "30 00" : "30 03 01 01 ff");
            CHECK.taken(Recipe.sequence(BOOLEAN.byDefault(1)), list, octet == 0 ? "30 03 01 01 00" : "30 00");
        }
    }

    private static void taggedDefaults() {
        CHECK.sentence("members that have their default's value are left out");
        Recipe.Part part = INTEGER.implicit(2, 1).explicit(2, 0).byDefault(5);
        CHECK.taken(Recipe.sequence(part), "30 05 a0 03 81 01 05", "30 00");
        CHECK.taken(Recipe.sequence(part), "30 80 a0 80 81 81 01 05 00 00 00 00", "30 00");
        CHECK.kept(Recipe.sequence(part), "30 05 a0 03 81 01 06");
        Recipe.Part deep = BOOLEAN.explicit(2, 0).explicit(2, 1).implicit(2, 2).byDefault(1);
        CHECK.taken(Recipe.sequence(deep), "30 07 a2 05 a0 03 01 01 01", "30 00");
        CHECK.kept(Recipe.sequence(deep), "30 07 a2 05 a0 03 01 01 00");
        // A whole type of which nothing is left stays itself.
        Recipe inner = Recipe.sequence(INTEGER.byDefault(5));
        CHECK.taken(Recipe.sequence(inner.optional()), "30 05 30 03 02 01 05", "30 02 30 00");
        CHECK.taken(Recipe.sequenceOf(inner), "30 07 30 03 02 01 05 30 00", "30 04 30 00 30 00");
    }

    private static void defaultsOfSets() {
        CHECK.sentence("members that have their default's value are left out");
        Recipe type = Recipe.set(OCTET_STRING.optional(), BOOLEAN.byDefault(1), INTEGER.byDefault(-5));
        CHECK.taken(type, "31 09 04 01 09 02 01 fb 01 01 77", "31 03 04 01 09");
        CHECK.taken(type, "31 09 02 01 fb 04 01 09 01 01 00", "31 06 01 01 00 04 01 09");
        CHECK.taken(type, "31 06 01 01 07 02 01 fb", "31 00");
        CHECK.taken(type, "31 09 01 01 07 04 01 09 02 01 05", "31 06 02 01 05 04 01 09");
        CHECK.refused(type, "31 06 02 01 fb 02 01 fb");
    }

    private static void setsByNumber() {
        CHECK.sentence("members of a SET by rising tags");
        int[] numbers = {0, 1, 29, 30, 31, 32, 127, 128, 129, 255, 256, 2000};
        String[] identifiers = {"80", "81", "9d", "9e", "9f1f", "9f20", "9f7f", "9f8100", "9f8101", "9f817f", "9f8200",
            "9f8f50"};
        for (int low = 0; low < numbers.length; low++) {
            for (int high = low + 1; high < numbers.length; high++) {
                String first = identifiers[low] + "00";
                String second = identifiers[high] + "00";
                String head = String.format("31%02x", (first + second).length() / 2);
                Recipe rising = Recipe.set(NULL.implicit(2, numbers[low]).mandatory(),
                    NULL.implicit(2, numbers[high]).mandatory());
                Recipe falling = Recipe.set(NULL.implicit(2, numbers[high]).mandatory(),
                    NULL.implicit(2, numbers[low]).mandatory());
                CHECK.taken(rising, head + second + first, head + first + second);
                CHECK.taken(falling, head + second + first, head + first + second);
                CHECK.kept(falling, head + first + second);
            }
        }
        Recipe six = Recipe.set(NULL.implicit(1, 3).mandatory(), NULL.implicit(1, 0).mandatory(), INTEGER.mandatory(),
            BOOLEAN.mandatory(), OCTET_STRING.mandatory(), NULL.implicit(1, 2).mandatory());
        CHECK.taken(six, "31 10 43 00 42 00 40 00 04 02 ee ee 02 01 05 01 01 00",
            "31 10 01 01 00 02 01 05 04 02 ee ee 40 00 42 00 43 00");
    }

    private static void setsByClass() {
        CHECK.sentence("(class first; the outermost one; of a CHOICE that of its alternative)");
        Recipe type = Recipe.set(NULL.implicit(3, 0).mandatory(), NULL.implicit(2, 0).mandatory(),
            NULL.implicit(1, 2000).mandatory(), NULL.explicit(1, 1).mandatory(), Recipe.IA5_STRING.mandatory());
        CHECK.taken(type, "31 10 c0 00 80 00 5f 8f 50 00 61 02 05 00 16 02 41 41",
            "31 10 16 02 41 41 61 02 05 00 5f 8f 50 00 80 00 c0 00");
        // That it is constructed is no part of a tag.
        Recipe mixed = Recipe.set(NULL.implicit(1, 6).mandatory(), NULL.explicit(1, 5).mandatory(),
            NULL.implicit(2, 0).mandatory());
        CHECK.taken(mixed, "31 08 80 00 46 00 65 02 05 00", "31 08 65 02 05 00 46 00 80 00");
        Recipe high = Recipe.set(NULL.implicit(1, 32).mandatory(), NULL.explicit(1, 31).mandatory(),
            NULL.explicit(1, 128).mandatory(), NULL.implicit(1, 129).mandatory());
        CHECK.taken(high, "31 12 5f 81 01 00 7f 81 00 02 05 00 5f 20 00 7f 1f 02 05 00",
            "31 12 7f 1f 02 05 00 5f 20 00 7f 81 00 02 05 00 5f 81 01 00");
        CHECK.taken(Recipe.set(Recipe.sequence().mandatory(), Recipe.IA5_STRING.mandatory(), Recipe.set().mandatory()),
            "31 06 16 00 31 00 30 00", "31 06 30 00 31 00 16 00");
    }

    private static void setsByOutermostTag() {
        CHECK.sentence("(class first; the outermost one; of a CHOICE that of its alternative)");
        Recipe type = Recipe.set(INTEGER.explicit(2, 1).mandatory(), Recipe.IA5_STRING.explicit(2, 0).mandatory());
        CHECK.taken(type, "31 0a a1 03 02 01 05 a0 03 16 01 41", "31 0a a0 03 16 01 41 a1 03 02 01 05");
        Recipe over = Recipe.set(INTEGER.explicit(2, 0).implicit(2, 9).mandatory(), NULL.implicit(2, 5).mandatory());
        CHECK.taken(over, "31 07 a9 03 02 01 05 85 00", "31 07 85 00 a9 03 02 01 05");
        Recipe chosen = Recipe.set(Recipe.choice(INTEGER, NULL).explicit(1, 7).mandatory(),
            BOOLEAN.explicit(1, 6).mandatory());
        CHECK.taken(chosen, "31 09 67 02 05 00 66 03 01 01 00", "31 09 66 03 01 01 00 67 02 05 00");
    }

    private static void setsByAlternative() {
        CHECK.sentence("(class first; the outermost one; of a CHOICE that of its alternative)");
        Recipe inner = Recipe.choice(NULL.implicit(3, 2), NULL.implicit(1, 3));
        Recipe outer = Recipe.choice(NULL, inner);
        Recipe type = Recipe.set(INTEGER.mandatory(), outer.mandatory(), NULL.implicit(2, 0).mandatory(),
            OCTET_STRING.implicit(1, 2).mandatory());
        String around = "80 00 02 01 09 42 00";
        CHECK.taken(type, "31 09 05 00" + around, "31 09 02 01 09 05 00 42 00 80 00");
        CHECK.taken(type, "31 09 c2 00" + around, "31 09 02 01 09 42 00 80 00 c2 00");
        CHECK.taken(type, "31 09 43 00" + around, "31 09 02 01 09 42 00 43 00 80 00");
        CHECK.taken(type, "31 09" + around + "43 00", "31 09 02 01 09 42 00 43 00 80 00");
    }

    private static void setsOfByOctets() {
        CHECK.sentence("values of a SET OF by their encodings, octet by octet (no signs;");
        Recipe type = Recipe.setOf(INTEGER);
        CHECK.taken(type, "31 0c 02 01 ff 02 01 80 02 01 7f 02 01 00", "31 0c 02 01 00 02 01 7f 02 01 80 02 01 ff");
        CHECK.taken(type, "31 07 02 02 01 00 02 01 ff", "31 07 02 01 ff 02 02 01 00");
        CHECK.taken(type, "31 08 02 02 7f 00 02 02 01 ff", "31 08 02 02 01 ff 02 02 7f 00");
        CHECK.taken(type, "31 08 02 02 01 80 02 02 01 7f", "31 08 02 02 01 7f 02 02 01 80");
        // Identifiers are octets, too: what is constructed comes behind what is not.
        Recipe chosen = Recipe.setOf(Recipe.choice(NULL.implicit(1, 6), NULL.explicit(1, 5), Recipe.IA5_STRING,
            NULL.implicit(2, 0), Recipe.sequence()));
        CHECK.taken(chosen, "31 0c 80 00 65 02 05 00 46 00 30 00 16 00", "31 0c 16 00 30 00 46 00 65 02 05 00 80 00");
        // So are lengths of 128 and more.
        String longOne = "04 81 80" + "00".repeat(128);
        CHECK.taken(Recipe.setOf(OCTET_STRING), "31 81 88" + longOne + "04 03 ff ff ff",
            "31 81 88 04 03 ff ff ff" + longOne);
        CHECK.taken(Recipe.setOf(NULL.explicit(1, 128)), "31 0c 7f 81 00 02 05 00 7f 81 00 02 05 00",
            "31 0c 7f 81 00 02 05 00 7f 81 00 02 05 00");
        CHECK.taken(Recipe.setOf(Recipe.choice(NULL.implicit(1, 128), NULL.implicit(1, 127))),
            "31 0b 5f 81 00 00 5f 7f 00 5f 81 00 00", "31 0b 5f 7f 00 5f 81 00 00 5f 81 00 00");
    }

    private static void longValuesInOrder() {
        CHECK.sentence("values of a SET OF by their encodings, octet by octet");
        // A long value has its place first; others then find theirs before it and behind it.
        Recipe chosen = Recipe.choice(BOOLEAN, OCTET_STRING, NULL, Recipe.UTF8_STRING, Recipe.IA5_STRING);
        for (int size : new int[] {126, 127, 128, 129, 130, 160, 178}) {
            String length = size < 128 ? String.format("%02x", size) : String.format("81%02x", size);
            String whole = "04" + length + "05".repeat(size);
            int all = whole.length() / 2 + 13;
            String head = String.format("81%02x", all);
            String strict = "01 01 ff 04 00" + whole + "05 00 0c 01 41 16 01 41";
            CHECK.taken(Recipe.setOf(chosen), "31" + head + whole + "16 01 41 05 00 01 01 ff 0c 01 41 04 00",
                "31" + head + strict);
            CHECK.taken(Recipe.setOf(chosen), "31" + head + "16 01 41" + whole + "0c 01 41 05 00 04 00 01 01 ff",
                "31" + head + strict);
        }
    }

    private static void longMembersInOrder() {
        CHECK.sentence("members of a SET by rising tags");
        Recipe type = Recipe.set(NULL.mandatory(), Recipe.IA5_STRING.mandatory(), OCTET_STRING.mandatory(),
            Recipe.UTF8_STRING.mandatory(), BOOLEAN.mandatory());
        for (int size : new int[] {126, 127, 128, 129, 130, 160, 180}) {
            String length = size < 128 ? String.format("%02x", size) : String.format("81%02x", size);
            String whole = "04" + length + "05".repeat(size);
            String head = String.format("81%02x", whole.length() / 2 + 11);
            CHECK.taken(type, "31" + head + whole + "16 01 41 05 00 01 01 ff 0c 01 41",
                "31" + head + "01 01 ff" + whole + "05 00 0c 01 41 16 01 41");
            CHECK.taken(type, "31" + head + "16 01 41" + whole + "0c 01 41 05 00 01 01 ff",
                "31" + head + "01 01 ff" + whole + "05 00 0c 01 41 16 01 41");
        }
    }

    private static void alikeValues() {
        CHECK.sentence("alike ones all stay;");
        Recipe type = Recipe.setOf(INTEGER);
        CHECK.kept(type, "31 06 02 01 05 02 01 05");
        CHECK.taken(type, "31 0f 02 01 05 02 01 03 02 01 05 02 01 03 02 01 05",
            "31 0f 02 01 03 02 01 03 02 01 05 02 01 05 02 01 05");
        CHECK.taken(type, "31 80" + "02 01 07".repeat(60) + "00 00", "31 81 b4" + "02 01 07".repeat(60));
        CHECK.taken(Recipe.setOf(BOOLEAN), "31 09 01 01 01 01 01 00 01 01 02", "31 09 01 01 00 01 01 ff 01 01 ff");
        CHECK.taken(Recipe.setOf(OCTET_STRING), "31 08 24 03 04 01 aa 04 01 aa", "31 06 04 01 aa 04 01 aa");
    }

    private static void valuesThatEndFirst() {
        CHECK.sentence("one that ends first counts as going on with zeros).");
        Recipe strings = Recipe.setOf(OCTET_STRING);
        CHECK.taken(strings, "31 07 04 01 00 04 00 04 00", "31 07 04 00 04 00 04 01 00");
        CHECK.taken(strings, "31 09 04 02 00 00 04 01 ff 04 00", "31 09 04 00 04 01 ff 04 02 00 00");
        CHECK.taken(strings, "31 0a 04 02 05 00 04 01 05 04 01 00", "31 0a 04 01 00 04 01 05 04 02 05 00");
        Recipe nested = Recipe.setOf(Recipe.sequenceOf(NULL));
        CHECK.taken(nested, "31 08 30 04 05 00 05 00 30 00", "31 08 30 00 30 04 05 00 05 00");
    }

    private static void strictInsideFirst() {
        CHECK.sentence("values of a SET OF by their encodings, octet by octet");
        // The encodings that are compared are the strict ones.
        CHECK.taken(Recipe.setOf(INTEGER), "31 07 02 81 01 05 02 01 09", "31 06 02 01 05 02 01 09");
        CHECK.taken(Recipe.setOf(OCTET_STRING), "31 80 04 01 09 24 80 04 01 05 00 00 00 00", "31 06 04 01 05 04 01 09");
        CHECK.taken(Recipe.setOf(BOOLEAN), "31 06 01 01 01 01 01 00", "31 06 01 01 00 01 01 ff");
        CHECK.taken(Recipe.setOf(Recipe.BIT_STRING), "31 08 03 02 04 f7 03 02 04 e9", "31 08 03 02 04 e0 03 02 04 f0");
        CHECK.taken(Recipe.setOf(Recipe.setOf(INTEGER)), "31 0e 31 06 02 01 09 02 01 02 31 04 02 02 01 00",
            "31 0e 31 04 02 02 01 00 31 06 02 01 02 02 01 09");
        CHECK.taken(Recipe.setOf(Recipe.setOf(INTEGER)), "31 10 31 06 02 01 05 02 01 02 31 06 02 01 04 02 01 01",
            "31 10 31 06 02 01 01 02 01 04 31 06 02 01 02 02 01 05");
        Recipe withDefault = Recipe.setOf(Recipe.sequence(INTEGER.byDefault(5), BOOLEAN.optional()));
        CHECK.taken(withDefault, "31 0b 30 03 01 01 00 30 04 02 81 01 05",
            "31 07 30 00 30 03 01 01 00");
    }

    private static void strictAgain() {
        CHECK.sentence("taken and given back in the one strict form.");
        Recipe type = Recipe.sequence(INTEGER.mandatory(), BOOLEAN.byDefault(0), Recipe.setOf(OCTET_STRING).optional());
        String loose = "30 80 02 82 00 01 05 01 01 00 31 80 24 80 04 01 09 24 00 00 00 04 02 00 00 04 00 00 00 00 00";
        String strict = "30 0e 02 01 05 31 09 04 00 04 01 09 04 02 00 00";
        CHECK.taken(type, loose, strict);
        CHECK.kept(type, strict);
    }
}
