/** Promise 11: what is an encoding of a value of a type, and what is its strict form. */
public final class TranscodeTest {
    private static final Check CHECK = new Check("TranscodeTest");

    public static void main(String[] args) {
        identifiers();
        lengths();
        indefiniteLengths();
        longContents();
        booleans();
        integers();
        boundedIntegers();
        nulls();
        objectIdentifiers();
        octetStrings();
        utf8Strings();
        ia5Strings();
        boundedSizes();
        bitStrings();
        tags();
        sequences();
        sequenceDefaults();
        sets();
        setsByTags();
        sequencesOf();
        setsOf();
        choices();
        deepTypes();
        CHECK.finish();
    }

    private static TagCoder basic(int kind) {
        TagCoder x = new TagCoder();
        x.basic(kind);
        return x;
    }

    private static void identifiers() {
        TagCoder x = basic(5);
        int[] numbers = {30, 31, 127, 128, 2000};
        String[] identifiers = {"9e", "9f1f", "9f7f", "9f8100", "9f8f50"};
        for (int k = 0; k < numbers.length; k++) {
            int type = x.tagged(2, numbers[k], false, 0);
            CHECK.strict(x, type, identifiers[k] + "00", identifiers[k] + "00");
        }
        CHECK.refused(x, 1, "9f 1e 00");
        CHECK.refused(x, 2, "9f 80 1f 00");
        CHECK.refused(x, 4, "9f 80 81 00 00");
        CHECK.refused(x, 4, "9f 81");
        CHECK.refused(x, 4, "9f");
        CHECK.refused(x, 2, "9f 1f");
        CHECK.refused(x, 4, "9f 81 80 00 00");
        CHECK.refused(x, 4, "9f 81 80 80 00 00");
        CHECK.refused(x, 4, "9f 88 80 81 00 00");
        CHECK.refused(x, 2, "5f 1f 00");
        CHECK.refused(x, 2, "bf 1f 00");
        CHECK.refused(x, x.tagged(2, 5, false, 0), "5f 81 80 80 05 00");
        CHECK.refused(x, 0, "");
        CHECK.refused(x, 0, "1f 05 00");
    }

    private static void lengths() {
        TagCoder x = basic(4);
        CHECK.strict(x, 0, "04 02 aa bb", "04 02 aa bb");
        CHECK.strict(x, 0, "04 81 02 aa bb", "04 02 aa bb");
        CHECK.strict(x, 0, "04 82 00 02 aa bb", "04 02 aa bb");
        CHECK.strict(x, 0, "04 83 00 00 02 aa bb", "04 02 aa bb");
        CHECK.strict(x, 0, "04 84 00 00 00 02 aa bb", "04 02 aa bb");
        CHECK.strict(x, 0, "04 81 00", "04 00");
        CHECK.refused(x, 0, "04 85 00 00 00 00 02 aa bb");
        CHECK.refused(x, 0, "04 ff aa bb");
        CHECK.refused(x, 0, "04 80 00 00");
        CHECK.refused(x, 0, "04 80 aa bb 00 00");
        CHECK.refused(x, 0, "04 03 aa bb");
        CHECK.refused(x, 0, "04 01 aa bb");
        CHECK.refused(x, 0, "04 84 ff ff ff ff aa bb");
        CHECK.refused(x, 0, "04 84 ff ff ff ff");
        CHECK.refused(x, 0, "04 84 80 00 00 02 aa bb");
        CHECK.refused(x, 0, "04 84 01 00 00 02 aa bb");
        CHECK.refused(x, 0, "04 82 00");
        CHECK.refused(x, 0, "04");
    }

    private static void indefiniteLengths() {
        TagCoder x = basic(4);
        int outer = x.list(16, x.list(16, 0));
        CHECK.strict(x, 0, "24 80 00 00", "04 00");
        CHECK.strict(x, 0, "24 80 04 02 00 00 00 00", "04 02 00 00");
        CHECK.refused(x, 0, "24 80 04 02 00 00 00");
        CHECK.refused(x, 0, "24 80 04 01 aa");
        CHECK.refused(x, 0, "24 80 04 01 aa 00 00 00 00");
        CHECK.refused(x, 0, "24 80 00 01 00 00 00");
        CHECK.refused(x, 0, "24 80 00 01");
        CHECK.refused(x, 0, "24 80 01 00");
        CHECK.strict(x, outer, "30 80 30 80 04 01 07 00 00 30 00 00 00", "30 07 30 03 04 01 07 30 00");
        CHECK.strict(x, outer, "30 04 30 80 00 00", "30 02 30 00");
        CHECK.refused(x, outer, "30 03 30 80 00 00");
        CHECK.refused(x, outer, "30 80 30 80 00 00");
        CHECK.refused(x, outer, "30 04 30 00 00 00");
    }

    private static void longContents() {
        TagCoder x = basic(4);
        int list = x.list(17, 0);
        String octets127 = "5a".repeat(127);
        CHECK.strict(x, 0, "04 81 7f" + octets127, "04 7f" + octets127);
        CHECK.strict(x, 0, "04 82 00 80 01" + octets127, "04 81 80 01" + octets127);
        CHECK.strict(x, 0, "04 81 c5" + "5b".repeat(197), "04 81 c5" + "5b".repeat(197));
        CHECK.strict(x, list, "31 80 04 7f" + octets127 + "04 01 01 00 00",
            "31 81 84 04 01 01 04 7f" + octets127);
        String nulls = "05 00".repeat(98);
        TagCoder y = basic(5);
        y.list(17, 0);
        CHECK.strict(y, 1, "31 80" + nulls + "00 00", "31 81 c4" + nulls);
    }

    private static void booleans() {
        TagCoder x = basic(1);
        CHECK.strict(x, 0, "01 01 00", "01 01 00");
        CHECK.strict(x, 0, "01 01 01", "01 01 ff");
        CHECK.strict(x, 0, "01 01 80", "01 01 ff");
        CHECK.strict(x, 0, "01 81 01 ff", "01 01 ff");
        CHECK.refused(x, 0, "01 00");
        CHECK.refused(x, 0, "01 02 00 00");
        CHECK.refused(x, 0, "21 01 00");
        CHECK.refused(x, 0, "21 80 01 01 00 00 00");
        CHECK.refused(x, 0, "02 01 00");
        CHECK.refused(x, 0, "01 01 00 00");
    }

    private static void integers() {
        TagCoder x = basic(2);
        String[] taken = {"02 01 00", "02 01 80", "02 01 ff", "02 02 00 80", "02 02 ff 7f", "02 02 01 00",
            "02 08 80 00 00 00 00 00 00 00", "02 09 00 80 00 00 00 00 00 00 00",
            "02 09 ff 7f ff ff ff ff ff ff ff", "02 0c 7f 00 00 00 00 00 00 00 00 00 00 01"};
        for (String octets : taken) {
            CHECK.strict(x, 0, octets, octets);
        }
        CHECK.refused(x, 0, "02 00");
        CHECK.refused(x, 0, "02 02 00 7f");
        CHECK.refused(x, 0, "02 02 00 00");
        CHECK.refused(x, 0, "02 02 ff 80");
        CHECK.refused(x, 0, "02 02 ff ff");
        CHECK.refused(x, 0, "22 01 00");
        CHECK.refused(x, 0, "22 03 02 01 00");
    }

    private static void boundedIntegers() {
        TagCoder x = basic(2);
        x.bounded(0, -3, 300);
        x.bounded(0, Long.MIN_VALUE, Long.MAX_VALUE);
        CHECK.strict(x, 1, "02 01 fd", "02 01 fd");
        CHECK.refused(x, 1, "02 01 fc");
        CHECK.strict(x, 1, "02 02 01 2c", "02 02 01 2c");
        CHECK.refused(x, 1, "02 02 01 2d");
        CHECK.refused(x, 1, "02 09 01 00 00 00 00 00 00 00 05");
        CHECK.strict(x, 2, "02 08 80 00 00 00 00 00 00 00", "02 08 80 00 00 00 00 00 00 00");
        CHECK.strict(x, 2, "02 08 7f ff ff ff ff ff ff ff", "02 08 7f ff ff ff ff ff ff ff");
        CHECK.refused(x, 2, "02 09 00 80 00 00 00 00 00 00 00");
        CHECK.refused(x, 2, "02 09 ff 7f ff ff ff ff ff ff ff");
        CHECK.refused(x, 2, "02 09 01 00 00 00 00 00 00 00 05");
        int tagged = x.tagged(1, 3, true, x.tagged(1, 2, false, 1));
        CHECK.strict(x, tagged, "63 03 42 01 05", "63 03 42 01 05");
        CHECK.refused(x, tagged, "63 04 42 02 01 2d");
    }

    private static void nulls() {
        TagCoder x = basic(5);
        CHECK.strict(x, 0, "05 00", "05 00");
        CHECK.strict(x, 0, "05 82 00 00", "05 00");
        CHECK.refused(x, 0, "05 01 00");
        CHECK.refused(x, 0, "25 00");
        CHECK.refused(x, 0, "25 80 00 00");
        CHECK.refused(x, 0, "05");
    }

    private static void objectIdentifiers() {
        TagCoder x = basic(6);
        CHECK.strict(x, 0, "06 81 03 2a 86 48", "06 03 2a 86 48");
        CHECK.strict(x, 0, "06 01 00", "06 01 00");
        CHECK.strict(x, 0, "06 0c 81 80 80 80 80 80 80 80 80 80 80 00", "06 0c 81 80 80 80 80 80 80 80 80 80 80 00");
        CHECK.refused(x, 0, "06 00");
        CHECK.refused(x, 0, "06 01 80");
        CHECK.refused(x, 0, "06 02 80 01");
        CHECK.refused(x, 0, "06 03 2a 80 01");
        CHECK.refused(x, 0, "06 02 2a 86");
        CHECK.refused(x, 0, "26 03 06 01 2a");
    }

    private static void octetStrings() {
        TagCoder x = basic(4);
        CHECK.strict(x, 0, "24 00", "04 00");
        CHECK.strict(x, 0, "24 08 04 02 01 02 04 00 04 00", "04 02 01 02");
        CHECK.strict(x, 0, "24 80 04 01 01 24 03 04 01 02 24 00 04 01 03 00 00", "04 03 01 02 03");
        CHECK.strict(x, 0, "24 80 24 80 24 80 24 80 04 01 09 00 00 00 00 00 00 00 00", "04 01 09");
        CHECK.strict(x, 0, "24 06 24 04 24 02 24 00", "04 00");
        CHECK.refused(x, 0, "24 08 24 06 24 04 24 02 24 00");
        CHECK.refused(x, 0, "24 80 24 80 24 80 24 80 24 80 00 00 00 00 00 00 00 00 00 00");
        CHECK.refused(x, 0, "24 03 02 01 05");
        CHECK.refused(x, 0, "24 03 84 01 05");
        CHECK.refused(x, 0, "24 02 04 01 05");
        CHECK.refused(x, 0, "24 03 04 02 05 06");
        int tagged = x.tagged(2, 1, false, 0);
        CHECK.strict(x, tagged, "a1 06 04 01 05 04 01 06", "81 02 05 06");
        CHECK.refused(x, tagged, "a1 03 81 01 05");
        CHECK.refused(x, tagged, "04 01 05");
    }

    private static void utf8Strings() {
        TagCoder x = basic(12);
        String[] characters = {"00", "7f", "c2 80", "df bf", "e0 a0 80", "ed 9f bf", "ee 80 80", "ef bf bf",
            "f0 90 80 80", "f4 8f bf bf"};
        for (String character : characters) {
            String octets = String.format("0c %02x", Check.plain(character).length() / 2) + character;
            CHECK.strict(x, 0, octets, octets);
        }
        String[] wrong = {"80", "bf", "c0 80", "c1 bf", "e0 9f bf", "ed a0 80", "ed bf bf", "f0 8f bf bf",
            "f4 90 80 80", "f5 80 80 80", "f8 88 80 80 80", "ff", "fe", "c2", "c2 41", "e1 80", "e1 80 c0",
            "f1 80 80", "c2 80 80", "41 c3"};
        for (String octets : wrong) {
            CHECK.refused(x, 0, String.format("0c %02x", Check.plain(octets).length() / 2) + octets);
        }
        CHECK.strict(x, 0, "0c 00", "0c 00");
        CHECK.strict(x, 0, "2c 06 04 01 c3 04 01 a9", "0c 02 c3 a9");
        CHECK.strict(x, 0, "2c 80 24 80 04 01 e2 00 00 04 00 04 02 82 ac 00 00", "0c 03 e2 82 ac");
        CHECK.refused(x, 0, "2c 03 0c 01 41");
        CHECK.refused(x, 0, "2c 03 04 01 c3");
    }

    private static void ia5Strings() {
        TagCoder x = basic(22);
        CHECK.strict(x, 0, "16 02 00 7f", "16 02 00 7f");
        CHECK.strict(x, 0, "36 06 04 01 41 04 01 42", "16 02 41 42");
        CHECK.refused(x, 0, "16 01 80");
        CHECK.refused(x, 0, "36 03 04 01 ff");
        CHECK.refused(x, 0, "36 03 16 01 41");
        CHECK.refused(x, 0, "16 80 00 00");
    }

    private static void boundedSizes() {
        TagCoder x = new TagCoder();
        int octets = x.bounded(x.basic(4), 1, 2);
        int utf8 = x.bounded(x.basic(12), 1, 2);
        int ia5 = x.bounded(x.basic(22), 2, 2);
        CHECK.refused(x, octets, "04 00");
        CHECK.refused(x, octets, "24 00");
        CHECK.strict(x, octets, "04 01 80", "04 01 80");
        CHECK.strict(x, octets, "24 06 04 01 80 04 01 81", "04 02 80 81");
        CHECK.refused(x, octets, "24 09 04 01 80 04 01 81 04 01 82");
        CHECK.refused(x, utf8, "0c 00");
        CHECK.strict(x, utf8, "0c 08 f0 9f 98 80 f0 9f 98 80", "0c 08 f0 9f 98 80 f0 9f 98 80");
        CHECK.refused(x, utf8, "0c 03 41 42 43");
        CHECK.refused(x, ia5, "16 01 41");
        CHECK.strict(x, ia5, "16 02 41 42", "16 02 41 42");
        CHECK.refused(x, ia5, "16 03 41 42 43");
    }

    private static void bitStrings() {
        TagCoder x = basic(3);
        CHECK.strict(x, 0, "03 01 00", "03 01 00");
        CHECK.strict(x, 0, "03 02 00 ff", "03 02 00 ff");
        CHECK.strict(x, 0, "03 02 07 ff", "03 02 07 80");
        CHECK.strict(x, 0, "03 03 03 ff ff", "03 03 03 ff f8");
        CHECK.refused(x, 0, "03 00");
        CHECK.refused(x, 0, "03 01 01");
        CHECK.refused(x, 0, "03 02 08 ff");
        CHECK.refused(x, 0, "03 02 ff ff");
        CHECK.strict(x, 0, "23 08 03 02 00 aa 03 02 04 ff", "03 03 04 aa f0");
        CHECK.strict(x, 0, "23 03 03 01 00", "03 01 00");
        CHECK.strict(x, 0, "23 07 03 02 00 aa 03 01 00", "03 02 00 aa");
        CHECK.strict(x, 0, "23 80 23 80 03 02 00 aa 00 00 23 04 03 02 01 ff 00 00", "03 03 01 aa fe");
        CHECK.strict(x, 0, "23 09 23 07 23 05 23 03 03 01 00", "03 01 00");
        CHECK.refused(x, 0, "23 0b 23 09 23 07 23 05 23 03 03 01 00");
        CHECK.refused(x, 0, "23 00");
        CHECK.refused(x, 0, "23 80 00 00");
        CHECK.refused(x, 0, "23 05 03 01 00 23 00");
        CHECK.refused(x, 0, "23 08 03 02 04 aa 03 02 00 ff");
        CHECK.refused(x, 0, "23 07 03 02 04 aa 03 01 00");
        CHECK.refused(x, 0, "23 0a 23 04 03 02 01 aa 03 02 00 ff");
        CHECK.refused(x, 0, "23 04 04 02 00 ff");
        CHECK.refused(x, 0, "23 02 03 00");
        CHECK.refused(x, 0, "23 07 03 02 00 aa 03 01 04");
        int tagged = x.tagged(2, 0, false, 0);
        CHECK.strict(x, tagged, "a0 04 03 02 04 ff", "80 02 04 f0");
        CHECK.refused(x, tagged, "a0 04 80 02 04 ff");
        int list = x.list(16, 0);
        CHECK.strict(x, list, "30 08 03 02 04 ff 03 02 00 ff", "30 08 03 02 04 f0 03 02 00 ff");
    }

    private static void tags() {
        TagCoder x = basic(2);
        int implicit = x.tagged(2, 0, false, 0);
        int explicit = x.tagged(2, 1, true, 0);
        int overExplicit = x.tagged(1, 2, false, explicit);
        int overImplicit = x.tagged(3, 3, false, implicit);
        int around = x.tagged(2, 4, true, overExplicit);
        CHECK.strict(x, implicit, "80 81 01 05", "80 01 05");
        CHECK.refused(x, implicit, "a0 01 05");
        CHECK.refused(x, implicit, "02 01 05");
        CHECK.strict(x, explicit, "a1 80 02 01 05 00 00", "a1 03 02 01 05");
        CHECK.refused(x, explicit, "81 03 02 01 05");
        CHECK.refused(x, explicit, "a1 00");
        CHECK.refused(x, explicit, "a1 80 00 00");
        CHECK.refused(x, explicit, "a1 06 02 01 05 02 01 05");
        CHECK.refused(x, explicit, "a1 80 02 01 05 02 01 05 00 00");
        CHECK.refused(x, explicit, "a1 80 02 01 05");
        CHECK.refused(x, explicit, "a1 05 02 01 05 00 00");
        CHECK.refused(x, explicit, "02 01 05");
        CHECK.strict(x, overExplicit, "62 04 02 81 01 05", "62 03 02 01 05");
        CHECK.refused(x, overExplicit, "42 01 05");
        CHECK.refused(x, overExplicit, "62 05 a1 03 02 01 05");
        CHECK.strict(x, overImplicit, "c3 01 05", "c3 01 05");
        CHECK.strict(x, around, "a4 80 62 80 02 01 05 00 00 00 00", "a4 05 62 03 02 01 05");
        int list = x.tagged(2, 5, false, x.list(16, 0));
        CHECK.strict(x, list, "a5 80 00 00", "a5 00");
        CHECK.refused(x, list, "85 00");
        CHECK.refused(x, list, "30 00");
    }

    /** Type 3: INTEGER, BOOLEAN OPTIONAL, class 2 number 0 OPTIONAL, INTEGER. */
    private static void sequences() {
        TagCoder x = basic(2);
        x.basic(1);
        x.tagged(2, 0, false, 1);
        x.open(16);
        x.member(0, 0, 0);
        x.member(1, 1, 0);
        x.member(2, 1, 0);
        x.member(0, 0, 0);
        CHECK.due("the SEQUENCE", x.close(), 3);
        CHECK.strict(x, 3, "30 06 02 01 01 02 01 02", "30 06 02 01 01 02 01 02");
        CHECK.strict(x, 3, "30 80 02 01 01 80 01 07 02 01 02 00 00", "30 09 02 01 01 80 01 ff 02 01 02");
        CHECK.strict(x, 3, "30 0c 02 01 01 01 01 05 80 01 00 02 01 02", "30 0c 02 01 01 01 01 ff 80 01 00 02 01 02");
        CHECK.refused(x, 3, "30 03 02 01 01");
        CHECK.refused(x, 3, "30 00");
        CHECK.refused(x, 3, "30 09 02 01 01 02 01 02 02 01 03");
        CHECK.refused(x, 3, "30 0c 02 01 01 80 01 00 01 01 05 02 01 02");
        CHECK.refused(x, 3, "30 0c 02 01 01 01 01 00 01 01 05 02 01 02");
        CHECK.refused(x, 3, "30 09 01 01 00 02 01 01 02 01 02");
        CHECK.refused(x, 3, "30 08 02 01 01 05 00 02 01 02");
        CHECK.refused(x, 3, "30 09 02 01 01 21 01 00 02 01 02");
        CHECK.refused(x, 3, "10 06 02 01 01 02 01 02");
        CHECK.refused(x, 3, "31 06 02 01 01 02 01 02");
        x.open(16);
        int empty = x.close();
        CHECK.strict(x, empty, "30 80 00 00", "30 00");
        CHECK.refused(x, empty, "30 02 05 00");
    }

    private static void sequenceDefaults() {
        TagCoder x = basic(2);
        x.basic(1);
        int explicit = x.tagged(2, 0, true, x.tagged(2, 1, true, 0));
        x.open(16);
        x.member(0, 2, -129);
        x.member(1, 2, 1);
        x.member(explicit, 2, 0);
        int type = x.close();
        CHECK.strict(x, type, "30 00", "30 00");
        CHECK.strict(x, type, "30 04 02 02 ff 7f", "30 00");
        CHECK.strict(x, type, "30 03 02 01 7f", "30 03 02 01 7f");
        CHECK.strict(x, type, "30 80 01 01 01 00 00", "30 00");
        CHECK.strict(x, type, "30 03 01 01 00", "30 03 01 01 00");
        CHECK.strict(x, type, "30 07 a0 05 a1 03 02 01 00", "30 00");
        CHECK.strict(x, type, "30 0b a0 80 a1 80 02 01 01 00 00 00 00", "30 07 a0 05 a1 03 02 01 01");
        String wide = "02 09 01 ff ff ff ff ff ff ff 7f";
        CHECK.strict(x, type, "30 0b" + wide, "30 0b" + wide);
        CHECK.refused(x, type, "30 08 02 02 ff 7f 02 02 ff 7f");
        CHECK.refused(x, type, "30 07 01 01 01 02 02 ff 7f");
        x.open(16);
        x.member(1, 2, 0);
        int no = x.close();
        CHECK.strict(x, no, "30 03 01 01 00", "30 00");
        CHECK.strict(x, no, "30 03 01 01 10", "30 03 01 01 ff");
        x.open(16);
        x.member(0, 2, Long.MIN_VALUE);
        int least = x.close();
        CHECK.strict(x, least, "30 0a 02 08 80 00 00 00 00 00 00 00", "30 00");
    }

    private static void sets() {
        TagCoder x = basic(2);
        x.basic(1);
        x.basic(4);
        x.open(17);
        x.member(2, 1, 0);
        x.member(1, 2, 1);
        x.member(0, 0, 0);
        int type = x.close();
        CHECK.strict(x, type, "31 03 02 01 05", "31 03 02 01 05");
        CHECK.strict(x, type, "31 80 24 80 04 01 09 00 00 02 01 05 01 01 00 00 00", "31 09 01 01 00 02 01 05 04 01 09");
        CHECK.strict(x, type, "31 09 01 01 77 04 01 09 02 01 05", "31 06 02 01 05 04 01 09");
        CHECK.strict(x, type, "31 09 04 01 09 02 01 05 01 01 77", "31 06 02 01 05 04 01 09");
        CHECK.refused(x, type, "31 00");
        CHECK.refused(x, type, "31 03 04 01 09");
        CHECK.refused(x, type, "31 06 02 01 05 02 01 05");
        CHECK.refused(x, type, "31 09 02 01 05 01 01 77 01 01 77");
        CHECK.refused(x, type, "31 05 02 01 05 05 00");
        CHECK.refused(x, type, "11 03 02 01 05");
        CHECK.refused(x, type, "30 03 02 01 05");
        x.open(17);
        int empty = x.close();
        CHECK.strict(x, empty, "31 80 00 00", "31 00");
        CHECK.refused(x, empty, "31 02 05 00");
    }

    private static void setsByTags() {
        TagCoder x = basic(5);
        int a = x.tagged(1, 128, true, 0);
        int b = x.tagged(1, 127, false, 0);
        int c = x.tagged(2, 0, true, 0);
        int d = x.tagged(1, 30, true, 0);
        int e = x.tagged(1, 3, false, 0);
        int f = x.tagged(3, 2, false, 0);
        x.open(20);
        x.member(f, 0, 0);
        x.member(e, 0, 0);
        int inner = x.close();
        x.open(20);
        x.member(0, 0, 0);
        x.member(inner, 0, 0);
        int choice = x.close();
        x.open(17);
        for (int member : new int[] {c, a, choice, b, d}) {
            x.member(member, 0, 0);
        }
        int type = x.close();
        String tagC = "a0 02 05 00";
        String tagA = "7f 81 00 02 05 00";
        String tagB = "5f 7f 00";
        String tagD = "7e 02 05 00";
        String tail = tagB + tagA + tagC;
        CHECK.strict(x, type, "31 80" + tagC + tagA + "43 00" + tagB + tagD + "00 00", "31 13 43 00" + tagD + tail);
        CHECK.strict(x, type, "31 13" + tagD + tagB + tagA + tagC + "05 00", "31 13 05 00" + tagD + tail);
        CHECK.strict(x, type, "31 13" + "c2 00" + tagC + tagA + tagB + tagD, "31 13" + tagD + tail + "c2 00");
        CHECK.refused(x, type, "31 15" + "c2 00 05 00" + tagC + tagA + tagB + tagD);
    }

    private static void sequencesOf() {
        TagCoder x = basic(2);
        int type = x.list(16, 0);
        CHECK.strict(x, type, "30 00", "30 00");
        CHECK.strict(x, type, "30 80 02 01 09 02 81 01 03 00 00", "30 06 02 01 09 02 01 03");
        CHECK.refused(x, type, "30 03 01 01 00");
        CHECK.refused(x, type, "30 02 02 01 09");
        CHECK.refused(x, type, "10 00");
        CHECK.refused(x, type, "31 00");
    }

    private static void setsOf() {
        TagCoder x = basic(2);
        int type = x.list(17, 0);
        CHECK.strict(x, type, "31 80 00 00", "31 00");
        CHECK.strict(x, type, "31 0f 02 01 ff 02 01 01 02 01 80 02 01 01 02 01 00",
            "31 0f 02 01 00 02 01 01 02 01 01 02 01 80 02 01 ff");
        CHECK.strict(x, type, "31 0b 02 02 01 00 02 01 7f 02 81 01 05", "31 0a 02 01 05 02 01 7f 02 02 01 00");
        CHECK.refused(x, type, "31 03 01 01 00");
        CHECK.refused(x, type, "11 00");
        CHECK.refused(x, type, "30 00");
        int nested = x.list(17, type);
        CHECK.strict(x, nested, "31 0e 31 06 02 01 09 02 01 02 31 04 02 02 01 00",
            "31 0e 31 04 02 02 01 00 31 06 02 01 02 02 01 09");
        x.basic(4);
        int strings = x.list(17, nested + 1);
        CHECK.strict(x, strings, "31 80 04 02 05 00 24 80 04 01 05 00 00 04 00 00 00",
            "31 09 04 00 04 01 05 04 02 05 00");
    }

    private static void choices() {
        TagCoder x = basic(2);
        x.basic(4);
        int around = x.tagged(2, 0, true, 0);
        x.open(20);
        x.member(1, 0, 0);
        x.member(around, 0, 0);
        int inner = x.close();
        x.open(20);
        x.member(0, 0, 0);
        x.member(inner, 0, 0);
        int type = x.close();
        CHECK.strict(x, type, "02 81 01 05", "02 01 05");
        CHECK.strict(x, type, "24 03 04 01 05", "04 01 05");
        CHECK.strict(x, type, "a0 80 02 01 05 00 00", "a0 03 02 01 05");
        CHECK.refused(x, type, "01 01 05");
        CHECK.refused(x, type, "a0 03 04 01 05");
        CHECK.refused(x, type, "02 01 05 04 01 05");
        CHECK.refused(x, inner, "02 01 05");
        int tagged = x.tagged(2, 9, false, x.tagged(2, 8, true, type));
        CHECK.strict(x, tagged, "a9 80 24 80 04 01 05 00 00 00 00", "a9 03 04 01 05");
        int list = x.list(17, type);
        CHECK.strict(x, list, "31 0b a0 03 02 01 05 04 00 02 02 01 00", "31 0b 02 02 01 00 04 00 a0 03 02 01 05");
    }

    private static void deepTypes() {
        TagCoder x = basic(2);
        for (int n = 1; n < 16; n++) {
            x.list(17, n - 1);
        }
        StringBuilder loose = new StringBuilder();
        StringBuilder tail = new StringBuilder();
        String strict = "02 01 05";
        for (int n = 1; n < 16; n++) {
            loose.append("31 80");
            tail.append("00 00");
            strict = String.format("31 %02x", Check.plain(strict).length() / 2) + strict;
        }
        CHECK.strict(x, 15, loose + "02 01 05" + tail, strict);
        CHECK.refused(x, 15, loose + "31 80 00 00" + tail);
        CHECK.refused(x, 14, strict);
    }
}
