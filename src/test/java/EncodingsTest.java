/** What the document says under Terms of encodings, sentence by sentence: what is taken, what is refused. */
public final class EncodingsTest {
    private static final Check CHECK = new Check("EncodingsTest");
    private static final Recipe INTEGER = Recipe.INTEGER;
    private static final Recipe BOOLEAN = Recipe.BOOLEAN;
    private static final Recipe NULL = Recipe.NULL;
    private static final Recipe OCTET_STRING = Recipe.OCTET_STRING;

    public static void main(String[] args) {
        headers();
        shortIdentifiers();
        longIdentifiers();
        highNumbers();
        shortLengths();
        longLengths();
        lengthsWithoutSign();
        lengthsPastTheEnd();
        otherLengths();
        indefiniteLengths();
        endsOfIndefiniteOnes();
        indefiniteOnesInOthers();
        primitiveAndConstructed();
        booleans();
        integers();
        wideIntegers();
        nulls();
        objectIdentifiers();
        strings();
        deepStrings();
        brokenCharacters();
        utf8Strings();
        ia5Strings();
        bitStrings();
        bitStringsInParts();
        deepBitStrings();
        stringsBehindOthers();
        sequences();
        firstTagTells();
        sets();
        lists();
        choices();
        justOneEncoding();
        fullRows();
        CHECK.finish();
    }

    /** Contents that are wrong stay so inside a list, where octets behind them could be taken for theirs. */
    private static void refusedAnywhere(Recipe recipe, String octets) {
        CHECK.refused(recipe, octets);
        CHECK.refused(Recipe.sequenceOf(recipe), "30 80" + octets + "00 00");
        CHECK.refused(Recipe.sequenceOf(recipe), "30 80" + octets + "00 00 00");
        CHECK.refused(Recipe.sequenceOf(recipe), String.format("30 %02x", Check.plain(octets).length() / 2) + octets);
    }

    private static void headers() {
        CHECK.sentence("ENCODINGS: an IDENTIFIER, a LENGTH, CONTENTS.");
        CHECK.kept(INTEGER, "02 01 05");
        CHECK.refused(INTEGER, "02 01");
        CHECK.refused(INTEGER, "02");
        CHECK.refused(INTEGER, "");
        CHECK.refused(Recipe.sequence(INTEGER.mandatory()), "30 02 02 01 05");
        CHECK.refused(Recipe.sequence(INTEGER.mandatory()), "30 01 02 01 05");
        CHECK.refused(Recipe.sequence(INTEGER.optional()), "30 01 02");
    }

    private static void shortIdentifiers() {
        CHECK.sentence("an octet class * 64 + 32 if CONSTRUCTED (else PRIMITIVE) + the number if that is below 31");
        for (int tagClass = 1; tagClass <= 3; tagClass++) {
            for (int number : new int[] {0, 1, 29, 30}) {
                int octet = 64 * tagClass + number;
                CHECK.kept(NULL.implicit(tagClass, number), String.format("%02x00", octet));
                CHECK.refused(NULL.implicit(tagClass, number), String.format("%02x00", octet + 32));
                CHECK.kept(NULL.explicit(tagClass, number), String.format("%02x020500", octet + 32));
                CHECK.refused(NULL.explicit(tagClass, number), String.format("%02x020500", octet));
            }
        }
        CHECK.refused(NULL.implicit(2, 30), "9f 1e 00");
        CHECK.refused(NULL, "1f 05 00");
        CHECK.refused(NULL.implicit(2, 31), "9f 00");
    }

    private static void longIdentifiers() {
        CHECK.sentence("else 31 there, then the number in sevens, the highest first,"
            + " 128 more on all but the last octet, the first of these not 128");
        int[] numbers = {31, 32, 127, 128, 129, 255, 256, 1000, 1999, 2000};
        String[] sevens = {"1f", "20", "7f", "81 00", "81 01", "81 7f", "82 00", "87 68", "8f 4f", "8f 50"};
        for (int k = 0; k < numbers.length; k++) {
            CHECK.kept(NULL.implicit(2, numbers[k]), "9f" + sevens[k] + "00");
            CHECK.kept(NULL.explicit(1, numbers[k]), "7f" + sevens[k] + "02 05 00");
            CHECK.refused(NULL.implicit(2, numbers[k]), "9f 80" + sevens[k] + "00");
            CHECK.refused(NULL.implicit(2, numbers[k]), "9f 80 80" + sevens[k] + "00");
            CHECK.refused(NULL.implicit(2, numbers[k]), "bf" + sevens[k] + "00");
            CHECK.refused(NULL.implicit(2, numbers[k]), "df" + sevens[k] + "00");
            CHECK.refused(NULL.implicit(2, numbers[k]), "9f" + sevens[k]);
        }
        CHECK.refused(NULL.implicit(2, 128), "9f 01 00");
        CHECK.refused(NULL.implicit(2, 128), "9f 81");
        CHECK.refused(NULL.implicit(2, 128), "9f");
        CHECK.refused(NULL.implicit(2, 128), "9f 80 00 00");
        CHECK.refused(NULL.implicit(2, 129), "9f 81 00 00");
        CHECK.refused(NULL.implicit(2, 257), "9f 81 02 00");
        CHECK.kept(NULL.implicit(2, 130), "9f 81 02 00");
        // An identifier ends with the contents that hold it, wherever the octets behind them go on.
        CHECK.refused(Recipe.sequenceOf(Recipe.sequenceOf(NULL.implicit(2, 128))), "30 04 30 02 9f 81 00 00");
    }

    private static void highNumbers() {
        CHECK.sentence("numbers are below 2^21, and here 31 or more.");
        for (int number = 0; number < 31; number++) {
            CHECK.refused(NULL.implicit(2, number), String.format("9f %02x 00", number));
        }
        CHECK.kept(NULL.implicit(2, 31), "9f 1f 00");
        // 2^21 and more, which may not be taken for what is left of them behind a wrap-around.
        CHECK.refused(NULL.implicit(2, 40), "9f 81 80 80 28 00");
        CHECK.refused(NULL.implicit(3, 40), "9f 81 80 80 28 00");
        CHECK.refused(NULL.implicit(2, 0), "5f 81 80 80 00 00");
        CHECK.refused(NULL.implicit(2, 5), "5f 81 80 80 05 00");
        CHECK.refused(NULL.implicit(3, 0), "5f 82 80 80 00 00");
        CHECK.refused(NULL.implicit(1, 5), "1f 81 80 80 05 00");
        CHECK.refused(NULL.implicit(2, 40), "9f 90 80 80 80 28 00");
        CHECK.refused(NULL.implicit(2, 40), "9f 82 80 80 80 80 80 80 80 80 28 00");
        CHECK.refused(NULL.implicit(2, 2000), "9f 81 80 80 8f 50 00");
        // 2^21 - 1 can be told, but no type bears it.
        CHECK.refused(Recipe.choice(NULL.implicit(2, 2000), NULL.implicit(2, 127), NULL.implicit(2, 0)),
            "9f ff ff 7f 00");
        CHECK.refused(NULL.implicit(2, 2000), "9f 81 8f 50 00");
        CHECK.refused(Recipe.choice(NULL.implicit(3, 0), NULL.implicit(2, 0)), "9f 81 80 80 00 00");
    }

    private static void shortLengths() {
        CHECK.sentence("an octet below 128: itself");
        for (int length : new int[] {0, 1, 2, 126, 127}) {
            String contents = "5a".repeat(length);
            CHECK.kept(OCTET_STRING, String.format("04 %02x", length) + contents);
            CHECK.refused(OCTET_STRING, String.format("04 %02x", length) + contents + "5a");
            CHECK.refused(OCTET_STRING, String.format("04 %02x", length + 1) + contents);
        }
    }

    private static void longLengths() {
        CHECK.sentence("129 .. 132: 128 + how many octets of the length follow, the highest first"
            + " (zeros ahead are taken, too; no sign)");
        String[] ahead = {"81", "82 00", "83 00 00", "84 00 00 00"};
        for (String zeros : ahead) {
            CHECK.taken(OCTET_STRING, "04" + zeros + "00", "04 00");
            CHECK.taken(OCTET_STRING, "04" + zeros + "02 aa bb", "04 02 aa bb");
            CHECK.taken(OCTET_STRING, "04" + zeros + "7f" + "5a".repeat(127), "04 7f" + "5a".repeat(127));
            CHECK.taken(OCTET_STRING, "04" + zeros + "80" + "5a".repeat(128), "04 81 80" + "5a".repeat(128));
            CHECK.taken(OCTET_STRING, "04" + zeros + "c2" + "5a".repeat(194), "04 81 c2" + "5a".repeat(194));
            CHECK.taken(OCTET_STRING, "24" + zeros + "04 04 02 aa bb", "04 02 aa bb");
            CHECK.refused(OCTET_STRING, "04" + zeros);
            CHECK.refused(OCTET_STRING, "04" + zeros + "02 aa");
            CHECK.refused(OCTET_STRING, "04" + zeros + "02 aa bb cc");
        }
        for (int size : new int[] {0, 1, 2, 127, 128, 129, 196}) {
            CHECK.refused(OCTET_STRING, "04 82 01 00" + "5a".repeat(size));
        }
        CHECK.refused(OCTET_STRING, "04 82 01 05" + "5a".repeat(133));
        CHECK.refused(OCTET_STRING, "04 82 01 05" + "5a".repeat(6));
        CHECK.refused(OCTET_STRING, "04 83 01 00 00" + "5a".repeat(128));
        CHECK.refused(OCTET_STRING, "04 82 02 00 aa bb");
        CHECK.refused(OCTET_STRING, "04 83 02 00 00 aa bb");
        CHECK.refused(OCTET_STRING, "04 84 02 00 00 00 aa bb");
        CHECK.kept(OCTET_STRING, "04 81 c5" + "5a".repeat(197));
    }

    private static void lengthsWithoutSign() {
        CHECK.sentence("(zeros ahead are taken, too; no sign)");
        CHECK.kept(OCTET_STRING, "04 81 80" + "00".repeat(128));
        CHECK.taken(OCTET_STRING, "04 82 00 c4" + "ff".repeat(196), "04 81 c4" + "ff".repeat(196));
        for (String length : new String[] {"81 ff", "82 ff ff", "83 ff ff ff", "84 ff ff ff ff", "84 80 00 00 00",
            "84 80 00 00 02", "84 7f ff ff ff", "84 ff ff ff fe", "84 ff ff ff fa", "84 01 00 00 02", "83 01 00 02",
            "82 01 02"}) {
            CHECK.refused(OCTET_STRING, "04" + length);
            CHECK.refused(OCTET_STRING, "04" + length + "aa bb");
            CHECK.refused(Recipe.sequenceOf(OCTET_STRING), "30" + length + "04 02 aa bb");
            CHECK.refused(Recipe.sequenceOf(OCTET_STRING), "30 80 04" + length + "aa bb 00 00");
        }
    }

    private static void lengthsPastTheEnd() {
        CHECK.sentence("ENCODINGS: an IDENTIFIER, a LENGTH, CONTENTS.");
        Recipe nested = Recipe.sequenceOf(Recipe.sequenceOf(OCTET_STRING));
        CHECK.kept(nested, "30 05 30 03 04 01 aa");
        CHECK.refused(nested, "30 05 30 03 04 02 aa");
        CHECK.refused(nested, "30 05 30 02 04 01 aa");
        CHECK.refused(nested, "30 05 30 04 04 01 aa");
        CHECK.refused(nested, "30 04 30 03 04 01 aa");
        CHECK.refused(nested, "30 06 30 03 04 01 aa");
        CHECK.refused(nested, "30 06 30 03 04 02 aa bb");
        CHECK.refused(nested, "30 07 30 02 04 01 04 01 aa");
        CHECK.refused(nested, "30 09 30 03 04 03 aa 30 02 04 00");
        CHECK.refused(nested, "30 05 30 01 04 01 aa");
    }

    private static void otherLengths() {
        CHECK.sentence("(Others are wrong.)");
        for (int length = 133; length < 256; length++) {
            String head = String.format("%02x", length);
            CHECK.refused(OCTET_STRING, "04" + head + "00".repeat(length - 128));
            CHECK.refused(Recipe.sequence(), "30" + head + "00".repeat(Math.min(190, length - 128)));
        }
        CHECK.refused(OCTET_STRING, "04 85 00 00 00 00 02 aa bb");
        CHECK.refused(OCTET_STRING, "24 85 00 00 00 00 00");
    }

    private static void indefiniteLengths() {
        CHECK.sentence("128, only if constructed: INDEFINITE");
        String[] primitive = {"01 80 00 00 00", "02 80 05 00 00", "03 80 00 00 00", "04 80 00 00", "04 80 aa 00 00",
            "05 80 00 00", "06 80 01 00 00", "0c 80 00 00", "16 80 00 00"};
        Recipe[] types = {BOOLEAN, INTEGER, Recipe.BIT_STRING, OCTET_STRING, OCTET_STRING, NULL,
            Recipe.OBJECT_IDENTIFIER, Recipe.UTF8_STRING, Recipe.IA5_STRING};
        for (int k = 0; k < types.length; k++) {
            CHECK.refused(types[k], primitive[k]);
        }
        CHECK.refused(OCTET_STRING, "24 80 04 80 00 00 00 00");
        CHECK.refused(NULL.implicit(1, 1), "41 80 00 00");
        CHECK.taken(OCTET_STRING, "24 80 00 00", "04 00");
        CHECK.taken(Recipe.UTF8_STRING, "2c 80 00 00", "0c 00");
        CHECK.taken(Recipe.IA5_STRING, "36 80 00 00", "16 00");
        CHECK.taken(Recipe.BIT_STRING, "23 80 03 01 00 00 00", "03 01 00");
        CHECK.taken(Recipe.sequence(NULL.mandatory()), "30 80 05 00 00 00", "30 02 05 00");
        CHECK.taken(Recipe.set(NULL.mandatory()), "31 80 05 00 00 00", "31 02 05 00");
        CHECK.taken(Recipe.sequenceOf(NULL), "30 80 05 00 00 00", "30 02 05 00");
        CHECK.taken(Recipe.setOf(NULL), "31 80 05 00 00 00", "31 02 05 00");
        CHECK.taken(NULL.explicit(1, 1), "61 80 05 00 00 00", "61 02 05 00");
    }

    private static void endsOfIndefiniteOnes() {
        CHECK.sentence("the contents are encodings up to the first two octets 0 where one could begin"
            + " (not part of them).");
        Recipe list = Recipe.sequenceOf(OCTET_STRING);
        CHECK.taken(list, "30 80 00 00", "30 00");
        CHECK.taken(list, "30 80 04 02 00 00 00 00", "30 04 04 02 00 00");
        CHECK.taken(list, "30 80 04 00 00 00", "30 02 04 00");
        CHECK.taken(list, "30 80 04 04 00 00 00 00 04 03 00 00 00 00 00", "30 0b 04 04 00 00 00 00 04 03 00 00 00");
        CHECK.refused(list, "30 80");
        CHECK.refused(list, "30 80 00");
        CHECK.refused(list, "30 80 00 00 00");
        CHECK.refused(list, "30 80 00 00 00 00");
        CHECK.refused(list, "30 80 04 02 00 00");
        CHECK.refused(list, "30 80 04 02 00 00 00");
        CHECK.refused(list, "30 80 04 01 aa");
        CHECK.refused(list, "30 80 04 01 aa 00");
        CHECK.refused(list, "30 80 04 01 aa 00 01");
        CHECK.refused(list, "30 80 00 01 00 00 00");
        CHECK.refused(list, "30 80 00 81 00");
        CHECK.refused(list, "30 80 00 81 00 00 00");
        CHECK.refused(list, "30 80 20 00");
        CHECK.refused(list, "30 80 20 00 00 00");
        CHECK.refused(list, "30 80 00 00 04 01 aa");
        CHECK.refused(list, "30 80 00 00 04 01 aa 00 00");
        CHECK.refused(list, "30 80 01 00");
        CHECK.refused(OCTET_STRING, "24 80 00");
        CHECK.refused(OCTET_STRING, "24 80 04 01 aa 00 00 00 00");
        CHECK.refused(OCTET_STRING, "24 80 00 01");
        CHECK.taken(OCTET_STRING, "24 80 04 02 00 00 00 00", "04 02 00 00");
        CHECK.refused(NULL.explicit(1, 1), "61 80 05 00 00");
        CHECK.refused(NULL.explicit(1, 1), "61 80 05 00");
        CHECK.refused(Recipe.sequence(NULL.mandatory()), "30 80 05 00 00");
    }

    private static void indefiniteOnesInOthers() {
        CHECK.sentence("the contents are encodings up to the first two octets 0 where one could begin"
            + " (not part of them).");
        Recipe nested = Recipe.sequenceOf(Recipe.sequenceOf(NULL));
        CHECK.taken(nested, "30 80 30 80 05 00 00 00 30 00 00 00", "30 06 30 02 05 00 30 00");
        CHECK.taken(nested, "30 04 30 80 00 00", "30 02 30 00");
        CHECK.taken(nested, "30 80 30 02 05 00 00 00", "30 04 30 02 05 00");
        CHECK.taken(nested, "30 08 30 80 00 00 30 80 00 00", "30 04 30 00 30 00");
        CHECK.refused(nested, "30 80 30 80 00 00");
        CHECK.refused(nested, "30 80 30 80 00 00 00");
        CHECK.refused(nested, "30 03 30 80 00 00");
        CHECK.refused(nested, "30 02 30 80 00 00");
        CHECK.refused(nested, "30 05 30 80 00 00 00");
        CHECK.refused(nested, "30 06 30 80 00 00 00 00");
        // Two octets 0 end nothing in contents of a known length.
        CHECK.refused(nested, "30 02 00 00");
        CHECK.refused(nested, "30 04 30 00 00 00");
        CHECK.refused(nested, "30 06 30 02 00 00 30 00");
        CHECK.refused(nested, "30 80 30 02 00 00 00 00");
    }

    private static void primitiveAndConstructed() {
        CHECK.sentence("BOOLEAN, INTEGER, NULL, OBJECT IDENTIFIER are primitive,"
            + " SEQUENCE (OF), SET (OF) and what EXPLICIT adds constructed.");
        CHECK.refused(BOOLEAN, "21 01 ff");
        CHECK.refused(BOOLEAN, "21 03 01 01 ff");
        CHECK.refused(BOOLEAN, "21 80 01 01 ff 00 00");
        CHECK.refused(INTEGER, "22 01 05");
        CHECK.refused(INTEGER, "22 03 02 01 05");
        CHECK.refused(INTEGER, "22 80 02 01 05 00 00");
        CHECK.refused(NULL, "25 00");
        CHECK.refused(NULL, "25 80 00 00");
        CHECK.refused(NULL, "25 02 05 00");
        CHECK.refused(Recipe.OBJECT_IDENTIFIER, "26 01 2a");
        CHECK.refused(Recipe.OBJECT_IDENTIFIER, "26 03 06 01 2a");
        CHECK.refused(INTEGER.implicit(1, 1), "61 01 05");
        CHECK.refused(Recipe.sequence(), "10 00");
        CHECK.refused(Recipe.set(), "11 00");
        CHECK.refused(Recipe.sequenceOf(NULL), "10 02 05 00");
        CHECK.refused(Recipe.setOf(NULL), "11 02 05 00");
        CHECK.refused(Recipe.sequence().implicit(1, 1), "41 00");
        CHECK.refused(Recipe.setOf(NULL).implicit(1, 1), "41 00");
        CHECK.refused(NULL.explicit(1, 1), "41 02 05 00");
        CHECK.refused(NULL.explicit(1, 1).implicit(1, 2), "42 02 05 00");
    }

    private static void booleans() {
        CHECK.sentence("BOOLEAN: one octet, 0 false, others true.");
        CHECK.kept(BOOLEAN, "01 01 00");
        for (int octet = 1; octet < 256; octet++) {
            CHECK.taken(BOOLEAN, String.format("01 01 %02x", octet), "01 01 ff");
        }
        refusedAnywhere(BOOLEAN, "01 00");
        refusedAnywhere(BOOLEAN, "01 02 00 00");
        refusedAnywhere(BOOLEAN, "01 02 ff ff");
        CHECK.refused(BOOLEAN, "01 01");
        // One octet too many, or none: what is behind would do.
        CHECK.refused(Recipe.sequenceOf(BOOLEAN), "30 80 01 02 ff 00 00");
        CHECK.refused(Recipe.sequenceOf(BOOLEAN), "30 80 01 02 ff 01 01 ff 00 00");
        CHECK.refused(Recipe.sequenceOf(BOOLEAN), "30 06 01 02 ff 01 01 ff");
        CHECK.refused(Recipe.sequenceOf(BOOLEAN), "30 06 01 00 ff 01 01 ff");
        CHECK.refused(Recipe.sequenceOf(BOOLEAN), "30 80 01 00 ff 00 00");
    }

    private static void integers() {
        CHECK.sentence("INTEGER: at least one octet (of any length, but BOUNDED eight), two's complement,"
            + " the first nine bits not all the same.");
        String[] right = {"00", "01", "7f", "80", "ff", "00 80", "00 ff", "01 00", "7f ff", "80 00", "ff 00", "ff 7f",
            "fe ff", "00 80 00", "ff 7f ff", "00 ff ff"};
        String[] wrong = {"", "00 00", "00 01", "00 7f", "ff 80", "ff ff", "ff fe", "00 00 80", "00 7f ff", "ff 80 00",
            "ff ff 7f", "00 00 00 00 00 00 00 00 05"};
        Recipe bounded = INTEGER.within(Long.MIN_VALUE, Long.MAX_VALUE);
        for (String contents : right) {
            String octets = String.format("02 %02x", Check.plain(contents).length() / 2) + contents;
            CHECK.kept(INTEGER, octets);
            CHECK.kept(bounded, octets);
        }
        for (String contents : wrong) {
            String octets = String.format("02 %02x", Check.plain(contents).length() / 2) + contents;
            refusedAnywhere(INTEGER, octets);
            refusedAnywhere(bounded, octets);
        }
        CHECK.refused(Recipe.sequenceOf(INTEGER), "30 80 02 00 05 00 00");
        CHECK.refused(Recipe.sequenceOf(INTEGER), "30 06 02 00 05 02 01 05");
        CHECK.refused(Recipe.sequenceOf(INTEGER), "30 05 02 00 02 01 05");
        // The nine bits are its own, whatever octets are behind it.
        CHECK.kept(Recipe.sequenceOf(INTEGER), "30 0c 02 01 00 02 01 ff 02 01 00 02 01 7f");
        CHECK.kept(Recipe.sequenceOf(Recipe.choice(INTEGER, INTEGER.implicit(3, 30))),
            "30 09 02 01 ff de 01 ff de 01 00");
    }

    private static void wideIntegers() {
        CHECK.sentence("(of any length, but BOUNDED eight)");
        Recipe bounded = INTEGER.within(Long.MIN_VALUE, Long.MAX_VALUE);
        String[] eight = {"80 00 00 00 00 00 00 00", "7f ff ff ff ff ff ff ff", "01 00 00 00 00 00 00 00"};
        String[] nine = {"00 80 00 00 00 00 00 00 00", "ff 7f ff ff ff ff ff ff ff", "01 00 00 00 00 00 00 00 05",
            "7f 00 00 00 00 00 00 00 00", "80 ff ff ff ff ff ff ff ff"};
        for (String contents : eight) {
            CHECK.kept(INTEGER, "02 08" + contents);
            CHECK.kept(bounded, "02 08" + contents);
        }
        for (String contents : nine) {
            CHECK.kept(INTEGER, "02 09" + contents);
            CHECK.refused(bounded, "02 09" + contents);
            CHECK.refused(INTEGER.within(0, 9), "02 09" + contents);
            CHECK.refused(bounded.implicit(1, 2), "42 09" + contents);
        }
        // 2^64 + 5 and 2^32 + 5: what is left of them behind a wrap-around would keep to the bounds.
        CHECK.refused(INTEGER.within(5, 5), "02 09 01 00 00 00 00 00 00 00 05");
        CHECK.refused(INTEGER.within(5, 5), "02 05 01 00 00 00 05");
        CHECK.kept(INTEGER, "02 81 c5" + "7f" + "00".repeat(196));
        CHECK.kept(INTEGER, "02 81 c5" + "80" + "ff".repeat(196));
        CHECK.refused(INTEGER, "02 81 c5" + "00".repeat(197));
        CHECK.refused(bounded, "02 81 c5" + "7f" + "00".repeat(196));
    }

    private static void nulls() {
        CHECK.sentence("NULL: none.");
        CHECK.kept(NULL, "05 00");
        CHECK.taken(NULL, "05 81 00", "05 00");
        refusedAnywhere(NULL, "05 01 00");
        refusedAnywhere(NULL, "05 02 00 00");
        refusedAnywhere(NULL, "05 02 05 00");
        CHECK.refused(NULL, "05");
        // Contents that would do as what comes behind it.
        CHECK.refused(Recipe.sequenceOf(NULL), "30 80 05 02 00 00");
        CHECK.refused(Recipe.sequenceOf(NULL), "30 80 05 01 00 00");
        CHECK.refused(Recipe.sequenceOf(NULL), "30 04 05 02 05 00");
        CHECK.refused(NULL.explicit(1, 1), "61 80 05 02 00 00");
    }

    private static void objectIdentifiers() {
        CHECK.sentence("OBJECT IDENTIFIER: at least one octet, numbers in sevens, as above, but of any length,"
            + " none beginning with 128, the last one complete.");
        String[] right = {"00", "7f", "81 00", "ff 7f", "2a 86 48", "2a 81 80 00",
            "81 80 80 80 80 80 80 80 80 80 80 00", "00 00 00", "81 80 01 00 ff ff 7f", "1e", "01"};
        String[] wrong = {"", "80", "80 01", "80 00", "2a 80", "2a 80 01", "81", "2a 86", "2a 86 80", "81 00 80 00",
            "81 80", "ff", "00 80 80 01"};
        for (String contents : right) {
            CHECK.kept(Recipe.OBJECT_IDENTIFIER, String.format("06 %02x",
                Check.plain(contents).length() / 2) + contents);
        }
        for (String contents : wrong) {
            refusedAnywhere(Recipe.OBJECT_IDENTIFIER,
                String.format("06 %02x", Check.plain(contents).length() / 2) + contents);
        }
        CHECK.kept(Recipe.sequenceOf(Recipe.OBJECT_IDENTIFIER), "30 07 06 02 2a 03 06 01 00");
        CHECK.refused(Recipe.sequenceOf(Recipe.OBJECT_IDENTIFIER), "30 07 06 02 2a 81 06 01 00");
        CHECK.refused(Recipe.sequenceOf(Recipe.OBJECT_IDENTIFIER), "30 80 06 01 81 00 00");
        CHECK.refused(Recipe.sequenceOf(Recipe.OBJECT_IDENTIFIER), "30 80 06 00 00 00");
        CHECK.kept(Recipe.OBJECT_IDENTIFIER, "06 81 c5" + "ff".repeat(196) + "7f");
        CHECK.refused(Recipe.OBJECT_IDENTIFIER, "06 81 c5" + "ff".repeat(197));
    }

    private static void strings() {
        CHECK.sentence("the octets, primitive; or constructed: any number (none, too) of encodings with the tag of"
            + " OCTET STRING (whatever its own is)");
        Recipe[] types = {OCTET_STRING, Recipe.UTF8_STRING, Recipe.IA5_STRING, OCTET_STRING.implicit(2, 4),
            Recipe.UTF8_STRING.implicit(2, 40), Recipe.IA5_STRING.implicit(1, 4).implicit(3, 4)};
        String[] primitive = {"04", "0c", "16", "84", "9f 28", "c4"};
        String[] constructed = {"24", "2c", "36", "a4", "bf 28", "e4"};
        for (int k = 0; k < types.length; k++) {
            CHECK.kept(types[k], primitive[k] + "00");
            CHECK.kept(types[k], primitive[k] + "02 41 42");
            CHECK.taken(types[k], constructed[k] + "00", primitive[k] + "00");
            CHECK.taken(types[k], constructed[k] + "80 00 00", primitive[k] + "00");
            CHECK.taken(types[k], constructed[k] + "02 04 00", primitive[k] + "00");
            CHECK.taken(types[k], constructed[k] + "02 24 00", primitive[k] + "00");
            CHECK.taken(types[k], constructed[k] + "03 04 01 41", primitive[k] + "01 41");
            CHECK.taken(types[k], constructed[k] + "0a 04 00 04 01 41 24 03 04 01 42", primitive[k] + "02 41 42");
            CHECK.taken(types[k], constructed[k] + "80 24 80 04 81 01 41 00 00 24 80 00 00 04 01 42 00 00",
                primitive[k] + "02 41 42");
            CHECK.refused(types[k], constructed[k] + "02 41 42");
            CHECK.refused(types[k], constructed[k] + "02 04 01 41");
            CHECK.refused(types[k], constructed[k] + "03 04 02 41 42");
            for (String other : new String[] {"0c", "16", "84", "44", "c4", "03", "02", "2c", "36", "a4", "1f 04"}) {
                CHECK.refused(types[k], constructed[k] + "80" + other + "00 00 00");
            }
        }
        CHECK.taken(OCTET_STRING, "24 80" + "04 00".repeat(98) + "00 00", "04 00");
        CHECK.taken(OCTET_STRING, "24 81 c3" + "04 01 ee".repeat(65), "04 41" + "ee".repeat(65));
    }

    private static void deepStrings() {
        CHECK.sentence("(constructed ones in one another at most 4 deep, the outermost one counts)");
        for (int deep = 1; deep <= 6; deep++) {
            String empty = "24 80".repeat(deep) + "00 00".repeat(deep);
            String one = "24 80".repeat(deep) + "04 01 09" + "00 00".repeat(deep);
            if (deep <= 4) {
                CHECK.taken(OCTET_STRING, empty, "04 00");
                CHECK.taken(OCTET_STRING, one, "04 01 09");
                CHECK.taken(Recipe.UTF8_STRING, "2c" + one.substring(2), "0c 01 09");
                CHECK.taken(Recipe.IA5_STRING, "36" + one.substring(2), "16 01 09");
                CHECK.taken(OCTET_STRING.implicit(2, 1), "a1" + one.substring(2), "81 01 09");
            } else {
                CHECK.refused(OCTET_STRING, empty);
                CHECK.refused(OCTET_STRING, one);
                CHECK.refused(Recipe.UTF8_STRING, "2c" + one.substring(2));
                CHECK.refused(Recipe.IA5_STRING, "36" + one.substring(2));
                CHECK.refused(OCTET_STRING.implicit(2, 1), "a1" + one.substring(2));
            }
        }
        CHECK.taken(OCTET_STRING, "24 06 24 04 24 02 24 00", "04 00");
        CHECK.refused(OCTET_STRING, "24 08 24 06 24 04 24 02 24 00");
        // Beside one another they may be as many as there are.
        CHECK.taken(OCTET_STRING, "24 12" + "24 04 24 02 24 00".repeat(3), "04 00");
        CHECK.taken(OCTET_STRING, "24 80" + "24 00".repeat(20) + "04 01 07 00 00", "04 01 07");
        CHECK.refused(OCTET_STRING, "24 80" + "24 00".repeat(20) + "24 06 24 04 24 02 24 00" + "00 00");
        // What is around the string does not count.
        CHECK.taken(Recipe.sequenceOf(OCTET_STRING.explicit(1, 1)), "30 0a 61 08 24 06 24 04 24 02 24 00",
            "30 04 61 02 04 00");
    }

    private static void brokenCharacters() {
        CHECK.sentence("one behind the other (a character may go on in the next one)");
        CHECK.taken(Recipe.UTF8_STRING, "2c 06 04 01 c3 04 01 a9", "0c 02 c3 a9");
        CHECK.taken(Recipe.UTF8_STRING, "2c 80 24 80 04 01 e2 00 00 04 00 04 02 82 ac 00 00", "0c 03 e2 82 ac");
        CHECK.taken(Recipe.UTF8_STRING, "2c 0c 04 01 f4 04 01 8f 04 01 bf 04 01 bf", "0c 04 f4 8f bf bf");
        CHECK.refused(Recipe.UTF8_STRING, "2c 03 04 01 c3");
        CHECK.refused(Recipe.UTF8_STRING, "2c 06 04 01 c3 04 01 41");
        CHECK.refused(Recipe.UTF8_STRING, "2c 06 04 01 a9 04 01 c3");
        CHECK.refused(Recipe.UTF8_STRING, "2c 05 04 01 c3 04 00");
        CHECK.refused(Recipe.UTF8_STRING, "2c 07 04 01 ed 04 02 a0 80");
        CHECK.refused(Recipe.sequenceOf(Recipe.UTF8_STRING), "30 06 0c 01 c3 0c 01 a9");
        CHECK.taken(OCTET_STRING, "24 80 04 01 02 24 80 04 01 01 00 00 04 01 03 00 00", "04 03 02 01 03");
    }

    private static void utf8Strings() {
        CHECK.sentence("UTF8String: characters to 0x10FFFF but 0xD800 .. 0xDFFF, each in as few octets as can be");
        String[] right = {"00", "7f", "c2 80", "df bf", "e0 a0 80", "ec bf bf", "ed 80 80", "ed 9f bf", "ee 80 80",
            "ef bf bf", "f0 90 80 80", "f3 bf bf bf", "f4 80 80 80", "f4 8f bf bf", "e1 80 80", "f1 80 80 80"};
        String[] wrong = {"80", "bf", "c0 80", "c0 af", "c1 bf", "e0 80 80", "e0 9f bf", "ed a0 80", "ed af bf",
            "ed b0 80", "ed bf bf", "f0 80 80 80", "f0 8f bf bf", "f4 90 80 80", "f4 bf bf bf", "f5 80 80 80",
            "f7 bf bf bf", "f8 88 80 80 80", "fb bf bf bf bf", "fc 84 80 80 80 80", "fe", "ff", "c2", "df", "e1",
            "e1 80", "f1", "f1 80", "f1 80 80", "c2 7f", "c2 c0", "c2 00", "e1 7f 80", "e1 c0 80", "e1 80 7f",
            "e1 80 c0",
            "f1 7f 80 80", "f1 80 c0 80", "f1 80 80 41", "f1 80 80 ff", "c2 80 80", "e1 80 80 80", "f1 80 80 80 80"};
        for (String octets : right) {
            utf8Due(octets, true);
            utf8Due("41" + octets, true);
            utf8Due(octets + octets, true);
        }
        for (String octets : wrong) {
            utf8Due(octets, false);
            utf8Due("41" + octets, false);
            utf8Due(octets + "41", false);
        }
        utf8Due("", true);
        utf8Due("f4 8f bf bf".repeat(49), true);
        // An octet 128 .. 191 or above 247 begins no character, however many go on behind it.
        for (int lead = 0x80; lead < 0x100; lead = lead == 0xBF ? 0xF8 : lead + 1) {
            for (String next : new String[] {"80", "90", "bf"}) {
                for (int count = 0; count <= 6; count++) {
                    utf8Due(String.format("%02x", lead) + next.repeat(count), false);
                }
            }
        }
        // Nor does one of the others go on for more or fewer octets than it says.
        for (int lead = 0xC2; lead <= 0xF4; lead++) {
            int due = lead < 0xE0 ? 1 : lead < 0xF0 ? 2 : 3;
            String first = lead == 0xED || lead == 0xF4 ? "80" : lead == 0xE0 || lead == 0xF0 ? "b0" : "a0";
            for (int count = 0; count <= 4; count++) {
                utf8Due(String.format("%02x", lead) + (count == 0 ? "" : first + "80".repeat(count - 1)), count == due);
            }
        }
    }

    private static void utf8Due(String octets, boolean right) {
        int size = Check.plain(octets).length() / 2;
        String all = (size < 128 ? String.format("0c %02x", size) : String.format("0c 81 %02x", size)) + octets;
        if (right) {
            CHECK.kept(Recipe.UTF8_STRING, all);
        } else {
            CHECK.refused(Recipe.UTF8_STRING, all);
        }
    }

    private static void ia5Strings() {
        CHECK.sentence("IA5String: octets below 128.");
        CHECK.kept(Recipe.IA5_STRING, "16 00");
        CHECK.kept(Recipe.IA5_STRING, "16 02 00 7f");
        for (String octet : new String[] {"80", "81", "c2", "ff"}) {
            CHECK.refused(Recipe.IA5_STRING, "16 01" + octet);
            CHECK.refused(Recipe.IA5_STRING, "16 02 41" + octet);
            CHECK.refused(Recipe.IA5_STRING, "16 02" + octet + "41");
            CHECK.refused(Recipe.IA5_STRING, "36 06 04 01 41 04 01" + octet);
            CHECK.kept(OCTET_STRING, "04 01" + octet);
        }
        CHECK.refused(Recipe.IA5_STRING, "16 02 c2 80");
    }

    private static void bitStrings() {
        CHECK.sentence("BIT STRING: an octet 0 .. 7, how many bits of the last octet are not part of it"
            + " (0 when there are no others), then the octets");
        CHECK.kept(Recipe.BIT_STRING, "03 01 00");
        CHECK.refused(Recipe.BIT_STRING, "03 00");
        for (int unused = 1; unused < 256; unused++) {
            CHECK.refused(Recipe.BIT_STRING, String.format("03 01 %02x", unused));
        }
        for (int unused = 0; unused <= 7; unused++) {
            String last = String.format("%02x", 0xFF << unused & 0xFF);
            String head = String.format("%02x", unused);
            CHECK.taken(Recipe.BIT_STRING, "03 02" + head + "ff", "03 02" + head + last);
            CHECK.taken(Recipe.BIT_STRING, "03 03" + head + "ff ff", "03 03" + head + "ff" + last);
        }
        for (int unused : new int[] {8, 9, 127, 128, 255}) {
            CHECK.refused(Recipe.BIT_STRING, String.format("03 02 %02x ff", unused));
        }
        CHECK.taken(Recipe.BIT_STRING, "03 81 c5 07" + "ff".repeat(196), "03 81 c5 07" + "ff".repeat(195) + "80");
    }

    private static void bitStringsInParts() {
        CHECK.sentence("at least one in each, those within, too, of which only the last primitive one has that octet"
            + " not 0.");
        Recipe bits = Recipe.BIT_STRING;
        CHECK.refused(bits, "23 00");
        CHECK.refused(bits, "23 80 00 00");
        CHECK.refused(bits, "23 02 23 00");
        CHECK.refused(bits, "23 05 23 00 03 01 00");
        CHECK.refused(bits, "23 05 03 01 00 23 00");
        CHECK.refused(bits, "23 80 03 01 00 23 80 00 00 00 00");
        CHECK.refused(bits, "23 02 03 00");
        CHECK.taken(bits, "23 03 03 01 00", "03 01 00");
        CHECK.taken(bits, "23 06 03 01 00 03 01 00", "03 01 00");
        CHECK.taken(bits, "23 07 03 02 00 aa 03 01 00", "03 02 00 aa");
        CHECK.taken(bits, "23 07 03 01 00 03 02 07 ff", "03 02 07 80");
        CHECK.taken(bits, "23 08 03 02 00 aa 03 02 04 ff", "03 03 04 aa f0");
        CHECK.taken(bits, "23 08 03 02 00 aa 03 02 00 ff", "03 03 00 aa ff");
        CHECK.refused(bits, "23 08 03 02 04 aa 03 02 00 ff");
        CHECK.refused(bits, "23 08 03 02 04 aa 03 02 04 ff");
        CHECK.refused(bits, "23 07 03 02 04 aa 03 01 00");
        CHECK.refused(bits, "23 07 03 02 00 aa 03 01 04");
        CHECK.refused(bits, "23 08 03 02 00 aa 03 02 08 ff");
        CHECK.taken(bits, "23 80 23 80 03 02 00 aa 00 00 23 04 03 02 01 ff 00 00", "03 03 01 aa fe");
        CHECK.refused(bits, "23 0a 23 04 03 02 01 aa 03 02 00 ff");
        CHECK.refused(bits, "23 0c 23 04 03 02 01 aa 23 04 03 02 00 ff");
        CHECK.refused(bits, "23 0c 23 08 03 02 01 aa 03 02 00 ff 03 02 00 ff");
        CHECK.refused(bits, "23 04 04 02 00 ff");
        CHECK.refused(bits, "23 04 83 02 00 ff");
        CHECK.refused(bits, "23 02 00 ff");
        CHECK.taken(bits.implicit(2, 0), "a0 04 03 02 04 ff", "80 02 04 f0");
        CHECK.refused(bits.implicit(2, 0), "a0 04 80 02 04 ff");
        // Each value stands for itself.
        CHECK.taken(Recipe.sequenceOf(bits), "30 08 03 02 04 ff 03 02 00 ff", "30 08 03 02 04 f0 03 02 00 ff");
        CHECK.taken(Recipe.sequenceOf(bits), "30 0c 23 04 03 02 04 ff 23 04 03 02 03 ff",
            "30 08 03 02 04 f0 03 02 03 f8");
    }

    private static void deepBitStrings() {
        CHECK.sentence("or constructed alike of BIT STRINGs (tag 3; 4 deep)");
        for (int deep = 1; deep <= 6; deep++) {
            String octets = "23 80".repeat(deep) + "03 02 02 ff" + "00 00".repeat(deep);
            if (deep <= 4) {
                CHECK.taken(Recipe.BIT_STRING, octets, "03 02 02 fc");
            } else {
                CHECK.refused(Recipe.BIT_STRING, octets);
            }
        }
        CHECK.taken(Recipe.BIT_STRING, "23 09 23 07 23 05 23 03 03 01 00", "03 01 00");
        CHECK.refused(Recipe.BIT_STRING, "23 0b 23 09 23 07 23 05 23 03 03 01 00");
        CHECK.taken(Recipe.BIT_STRING, "23 80" + "23 05 23 03 03 01 00".repeat(6) + "00 00", "03 01 00");
    }

    private static void stringsBehindOthers() {
        CHECK.sentence("SEQUENCE OF, SET OF: the values' encodings.");
        // What one value has tells nothing of the next one.
        Recipe strings = Recipe.sequenceOf(Recipe.choice(OCTET_STRING, Recipe.UTF8_STRING, Recipe.IA5_STRING,
            Recipe.BIT_STRING, Recipe.OBJECT_IDENTIFIER));
        CHECK.kept(strings, "30 0f 04 02 ff ff 16 01 41 0c 02 c3 a9 16 00 0c 00");
        CHECK.kept(strings, "30 0e 03 02 07 80 03 01 00 06 01 01 04 02 80 80");
        CHECK.taken(strings, "30 0e 03 02 01 ff 23 04 03 02 07 ff 24 80 00 00", "30 0a 03 02 01 fe 03 02 07 80 04 00");
        CHECK.refused(strings, "30 06 0c 01 c3 16 01 41");
        CHECK.refused(strings, "30 06 16 01 41 16 01 80");
        CHECK.refused(strings, "30 06 0c 01 41 0c 01 80");
    }

    private static void sequences() {
        CHECK.sentence("SEQUENCE: the members' encodings in their order; OPTIONAL and DEFAULT ones may be left out");
        Recipe type = Recipe.sequence(INTEGER.mandatory(), BOOLEAN.optional(), BOOLEAN.implicit(2, 0).byDefault(0),
            INTEGER.mandatory());
        CHECK.kept(type, "30 06 02 01 01 02 01 02");
        CHECK.kept(type, "30 09 02 01 01 01 01 ff 02 01 02");
        CHECK.taken(type, "30 80 02 01 01 80 01 07 02 01 02 00 00", "30 09 02 01 01 80 01 ff 02 01 02");
        CHECK.kept(type, "30 0c 02 01 01 01 01 ff 80 01 ff 02 01 02");
        CHECK.refused(type, "30 00");
        CHECK.refused(type, "30 03 02 01 01");
        CHECK.refused(type, "30 06 02 01 01 01 01 ff");
        CHECK.refused(type, "30 06 01 01 ff 02 01 02");
        CHECK.refused(type, "30 09 02 01 01 02 01 02 02 01 03");
        CHECK.refused(type, "30 09 02 01 01 02 01 02 01 01 ff");
        CHECK.refused(type, "30 0c 02 01 01 80 01 ff 01 01 ff 02 01 02");
        CHECK.refused(type, "30 0c 02 01 01 01 01 ff 01 01 ff 02 01 02");
        CHECK.refused(type, "30 0c 02 01 01 80 01 00 80 01 00 02 01 02");
        CHECK.refused(type, "30 09 01 01 ff 02 01 01 02 01 02");
        Recipe leftOut = Recipe.sequence(INTEGER.optional(), BOOLEAN.byDefault(1), NULL.optional());
        CHECK.kept(leftOut, "30 00");
        CHECK.kept(leftOut, "30 02 05 00");
        CHECK.kept(leftOut, "30 03 02 01 05");
        CHECK.refused(leftOut, "30 05 05 00 02 01 05");
        CHECK.refused(leftOut, "30 04 05 00 05 00");
    }

    private static void firstTagTells() {
        CHECK.sentence("(its first tag alone tells which member an encoding is; one that is none is wrong)");
        Recipe type = Recipe.sequence(INTEGER.within(0, 5).optional(), BOOLEAN.optional(), NULL.mandatory(),
            INTEGER.optional());
        CHECK.kept(type, "30 08 02 01 05 05 00 02 01 06");
        CHECK.kept(type, "30 05 05 00 02 01 06");
        CHECK.refused(type, "30 05 02 01 06 05 00");
        CHECK.refused(type, "30 08 02 01 06 05 00 02 01 05");
        CHECK.refused(type, "30 08 02 01 05 02 01 05 05 00");
        CHECK.refused(type, "30 05 22 01 05 05 00");
        CHECK.refused(type, "30 05 21 01 ff 05 00");
        CHECK.refused(type, "30 04 04 00 05 00");
        CHECK.refused(type, "30 04 05 00 04 00");
        CHECK.refused(type, "30 05 42 01 05 05 00");
        Recipe.Part some = Recipe.choice(INTEGER, NULL).optional();
        CHECK.kept(Recipe.sequence(some, BOOLEAN.optional()), "30 02 05 00");
        CHECK.kept(Recipe.sequence(some, BOOLEAN.optional()), "30 03 01 01 ff");
        CHECK.kept(Recipe.sequence(some, BOOLEAN.optional()), "30 06 02 01 05 01 01 ff");
        CHECK.refused(Recipe.sequence(some, BOOLEAN.optional()), "30 05 02 01 05 05 00");
        CHECK.refused(Recipe.sequence(some, BOOLEAN.optional()), "30 05 01 01 ff 05 00");
        Recipe.Part tagged = INTEGER.explicit(1, 1).optional();
        CHECK.refused(Recipe.sequence(tagged, INTEGER.explicit(1, 2).optional()), "30 05 61 03 01 01 ff");
        CHECK.refused(Recipe.sequence(tagged, INTEGER.explicit(1, 2).optional()), "30 03 02 01 05");
        CHECK.kept(Recipe.sequence(tagged, INTEGER.explicit(1, 2).optional()), "30 05 62 03 02 01 05");
    }

    private static void sets() {
        CHECK.sentence("SET: alike, in any order, each at most once.");
        Recipe type = Recipe.set(OCTET_STRING.optional(), BOOLEAN.byDefault(1), INTEGER.mandatory());
        String strict = "31 09 01 01 00 02 01 05 04 01 09";
        String[] parts = {"01 01 00", "02 01 05", "04 01 09"};
        int[][] orders = {{0, 1, 2}, {0, 2, 1}, {1, 0, 2}, {1, 2, 0}, {2, 0, 1}, {2, 1, 0}};
        for (int[] order : orders) {
            CHECK.taken(type, "31 09" + parts[order[0]] + parts[order[1]] + parts[order[2]], strict);
        }
        CHECK.kept(type, "31 03 02 01 05");
        CHECK.taken(type, "31 06 04 01 09 02 01 05", "31 06 02 01 05 04 01 09");
        CHECK.refused(type, "31 00");
        CHECK.refused(type, "31 06 04 01 09 01 01 00");
        for (String twice : parts) {
            CHECK.refused(type, "31 0c" + parts[0] + parts[1] + parts[2] + twice);
            CHECK.refused(type, "31 06" + twice + twice);
        }
        CHECK.refused(type, "31 09 01 01 ff 02 01 05 01 01 ff");
        CHECK.refused(type, "31 09 01 01 ff 02 01 05 01 01 00");
        CHECK.refused(type, "31 05 02 01 05 05 00");
        CHECK.refused(type, "31 05 05 00 02 01 05");
        Recipe chosen = Recipe.set(Recipe.choice(INTEGER, NULL).mandatory(), BOOLEAN.optional());
        CHECK.taken(chosen, "31 05 05 00 01 01 01", "31 05 01 01 ff 05 00");
        CHECK.refused(chosen, "31 05 05 00 02 01 05");
        CHECK.refused(chosen, "31 03 01 01 00");
        CHECK.kept(Recipe.set(INTEGER.optional()), "31 00");
    }

    private static void lists() {
        CHECK.sentence("SEQUENCE OF, SET OF: the values' encodings.");
        Recipe numbers = INTEGER.within(0, 5);
        CHECK.kept(Recipe.sequenceOf(numbers), "30 09 02 01 05 02 01 00 02 01 05");
        CHECK.refused(Recipe.sequenceOf(numbers), "30 09 02 01 05 02 01 06 02 01 05");
        CHECK.refused(Recipe.setOf(numbers), "31 09 02 01 05 02 01 05 02 01 06");
        CHECK.refused(Recipe.setOf(numbers), "31 06 02 01 05 01 01 00");
        CHECK.refused(Recipe.sequenceOf(numbers), "30 04 02 01 05 02");
        CHECK.refused(Recipe.sequenceOf(numbers), "30 05 02 01 05 02 01");
        CHECK.kept(Recipe.sequenceOf(Recipe.choice(NULL, numbers)), "30 07 05 00 02 01 05 05 00");
        CHECK.refused(Recipe.sequenceOf(Recipe.choice(NULL, numbers)), "30 05 05 00 01 01 00");
    }

    private static void choices() {
        CHECK.sentence("CHOICE: that of one alternative.");
        Recipe inner = Recipe.choice(OCTET_STRING, INTEGER.explicit(2, 0));
        Recipe type = Recipe.choice(INTEGER, inner);
        CHECK.taken(type, "02 81 01 05", "02 01 05");
        CHECK.taken(type, "24 03 04 01 05", "04 01 05");
        CHECK.taken(type, "a0 80 02 01 05 00 00", "a0 03 02 01 05");
        CHECK.refused(type, "01 01 05");
        CHECK.refused(type, "a0 03 04 01 05");
        CHECK.refused(type, "80 01 05");
        CHECK.refused(type, "02 01 05 04 01 05");
        CHECK.refused(type, "04 01 05 04 01 05");
        CHECK.refused(inner, "02 01 05");
    }

    private static void justOneEncoding() {
        CHECK.sentence("The octets have to be just one encoding, all of them.");
        String[] whole = {"01 01 ff", "02 01 05", "03 02 01 fe", "04 02 aa bb", "05 00", "06 02 81 00", "0c 02 c3 a9",
            "16 01 41", "30 02 05 00", "31 02 05 00", "61 02 05 00", "7f 81 00 00"};
        Recipe[] types = {BOOLEAN, INTEGER, Recipe.BIT_STRING, OCTET_STRING, NULL, Recipe.OBJECT_IDENTIFIER,
            Recipe.UTF8_STRING, Recipe.IA5_STRING, Recipe.sequenceOf(NULL), Recipe.set(NULL.optional()),
            NULL.explicit(1, 1), Recipe.sequence().implicit(1, 128)};
        for (int k = 0; k < types.length; k++) {
            String octets = Check.plain(whole[k]);
            CHECK.kept(types[k], octets);
            CHECK.refused(types[k], octets + "00");
            CHECK.refused(types[k], octets + "00 00");
            CHECK.refused(types[k], octets + octets);
            CHECK.refused(types[k], "00" + octets);
            for (int size = 0; size < octets.length(); size += 2) {
                CHECK.refused(types[k], octets.substring(0, size));
            }
        }
    }

    private static void fullRows() {
        CHECK.sentence("The octets have to be just one encoding, all of them.");
        // 200 octets of which an encoding goes on past the last.
        Recipe list = Recipe.sequenceOf(NULL);
        CHECK.taken(list, "30 80" + "05 00".repeat(98) + "00 00", "30 81 c4" + "05 00".repeat(98));
        CHECK.refused(list, "30 80" + "05 00".repeat(99));
        CHECK.refused(list, "30 80" + "05 00".repeat(98) + "00 05");
        CHECK.refused(list, "30 81 c5" + "05 00".repeat(98) + "00");
        CHECK.refused(list, "30 81 c5" + "05 00".repeat(98) + "05");
        CHECK.refused(list, "30 82 00 c4" + "05 00".repeat(97) + "05 81");
        CHECK.refused(list, "30 82 00 c4" + "05 00".repeat(97) + "1f 85");
        CHECK.refused(list, "30 81 c6" + "05 00".repeat(98) + "05");
        CHECK.refused(Recipe.sequenceOf(BOOLEAN), "30 81 c5" + "01 01 ff".repeat(65) + "01 01");
        CHECK.refused(Recipe.sequenceOf(INTEGER), "30 81 c5" + "02 01 05".repeat(65) + "02 00");
        CHECK.refused(Recipe.sequenceOf(Recipe.BIT_STRING), "30 81 c5" + "03 01 00".repeat(65) + "03 00");
        CHECK.refused(Recipe.sequenceOf(Recipe.OBJECT_IDENTIFIER), "30 81 c5" + "06 01 00".repeat(65) + "06 00");
        CHECK.refused(OCTET_STRING, "24 80" + "04 00".repeat(99));
        CHECK.refused(OCTET_STRING, "04 81 c6" + "00".repeat(197));
        CHECK.refused(Recipe.UTF8_STRING, "0c 81 c5" + "41".repeat(196) + "c3");
        CHECK.refused(Recipe.set(OCTET_STRING.mandatory()), "31 80 04 81 c3" + "00".repeat(195));
        CHECK.refused(OCTET_STRING.explicit(1, 1), "61 80 04 81 c3" + "00".repeat(195));
    }
}
