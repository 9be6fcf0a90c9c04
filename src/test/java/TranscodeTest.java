/** Promise 11, sentence by sentence; what an encoding and its strict form are is asked in tests of their own. */
public final class TranscodeTest {
    private static final Check CHECK = new Check("TranscodeTest");
    private static final int LEAST = Integer.MIN_VALUE;
    private static final int MOST = Integer.MAX_VALUE;

    public static void main(String[] args) {
        sizes();
        noSuchType();
        noEncoding();
        octetsAndResultStay();
        earlierCallsLeaveNothing();
        CHECK.finish();
    }

    private static void sizes() {
        CHECK.sentence("Takes the octets as an encoding of a value of a type: the result is the strict form;"
            + " answers its size.");
        TagCoder x = new TagCoder();
        int string = x.basic(4);
        int none = x.basic(5);
        x.feed(0x24800000, 4);
        CHECK.due("size of an empty string", x.transcode(string), 2);
        CHECK.due("its result", Check.result(x), "0400");
        CHECK.due("the same again", x.transcode(string), 2);
        CHECK.due("its result", Check.result(x), "0400");
        x.clear();
        x.feed(0x05840000, 4);
        x.feed(0, 2);
        CHECK.due("size of a NULL", x.transcode(none), 2);
        CHECK.due("its result", Check.result(x), "0500");
        x.clear();
        String longest = "0481c5" + "00".repeat(197);
        Check.feed(x, longest);
        CHECK.due("size of 200 octets", x.transcode(string), 200);
        CHECK.due("their result", Check.result(x), longest);
    }

    private static void noSuchType() {
        CHECK.sentence("IndexOutOfBoundsException when there is no such type");
        TagCoder x = new TagCoder();
        CHECK.due("type 0 of none, no octets", Check.transcoded(x, 0), "IndexOutOfBoundsException");
        x.basic(5);
        x.feed(0x058100, 3);
        x.transcode(0);
        for (int type : new int[] {-1, 1, 2, 15, 16, 17, LEAST, MOST}) {
            CHECK.due("type " + type + " of 1", Check.transcoded(x, type), "IndexOutOfBoundsException");
            CHECK.due("result then", Check.result(x), "0500");
            CHECK.due("octets then", Check.octets(x), "058100");
        }
        x.open(16);
        x.member(0, 0, 0);
        CHECK.due("a list that is still open", Check.transcoded(x, 1), "IndexOutOfBoundsException");
        CHECK.due("counts then", x.counts(), 1 + 32 * 16 + 1024);
        x.clear();
        CHECK.due("type 1 of 1, no octets", Check.transcoded(x, 1), "IndexOutOfBoundsException");
        TagCoder full = new TagCoder();
        for (int n = 0; n < 16; n++) {
            full.basic(5);
        }
        full.feed(0x0500, 2);
        CHECK.due("type 15 of 16", Check.transcoded(full, 15), "0500");
        CHECK.due("type 16 of 16", Check.transcoded(full, 16), "IndexOutOfBoundsException");
    }

    private static void noEncoding() {
        CHECK.sentence("IllegalArgumentException when they are no encoding (no octets are none).");
        Recipe[] types = {Recipe.BOOLEAN, Recipe.INTEGER, Recipe.BIT_STRING, Recipe.OCTET_STRING, Recipe.NULL,
            Recipe.OBJECT_IDENTIFIER, Recipe.UTF8_STRING, Recipe.IA5_STRING, Recipe.OCTET_STRING.within(0, 0),
            Recipe.NULL.implicit(1, 0), Recipe.NULL.explicit(1, 0), Recipe.sequence(), Recipe.set(),
            Recipe.sequence(Recipe.NULL.optional()), Recipe.set(Recipe.BOOLEAN.byDefault(0)),
            Recipe.sequenceOf(Recipe.NULL), Recipe.setOf(Recipe.NULL), Recipe.choice(Recipe.NULL)};
        for (Recipe type : types) {
            CHECK.refused(type, "");
            CHECK.refused(type, "00");
            CHECK.refused(type, "00 00");
            CHECK.refused(type, "ff".repeat(200));
            CHECK.refused(type, "00".repeat(200));
            CHECK.refused(type, "30 80".repeat(100));
            CHECK.refused(type, "24 80".repeat(100));
        }
    }

    private static void octetsAndResultStay() {
        CHECK.sentence("The octets stay; when it throws the result, too.");
        TagCoder x = new TagCoder();
        int pair = Recipe.sequence(Recipe.INTEGER.mandatory(), Recipe.BOOLEAN.byDefault(0)).make(x);
        String right = "308002010501010000" + "00";
        Check.feed(x, right);
        CHECK.due("right octets", Check.transcoded(x, pair), "3003020105");
        CHECK.due("octets behind them", Check.octets(x), right);
        CHECK.due("another type", Check.transcoded(x, 0), "IllegalArgumentException");
        CHECK.due("result behind it", Check.result(x), "3003020105");
        x.feed(0, 1);
        CHECK.due("one octet too many", Check.transcoded(x, pair), "IllegalArgumentException");
        CHECK.due("result behind it", Check.result(x), "3003020105");
        CHECK.due("octets behind it", Check.octets(x), right + "00");
        CHECK.due("no such type", Check.transcoded(x, 9), "IndexOutOfBoundsException");
        CHECK.due("result behind it", Check.result(x), "3003020105");
        x.clear();
        Check.feed(x, "30 06 02 01 09 01 01 01");
        CHECK.due("right ones again", Check.transcoded(x, pair), "30060201090101ff");
        x.clear();
        CHECK.due("none", Check.transcoded(x, pair), "IllegalArgumentException");
        CHECK.due("result behind none", Check.result(x), "30060201090101ff");
    }

    private static void earlierCallsLeaveNothing() {
        CHECK.sentence("Takes the octets as an encoding of a value of a type: the result is the strict form");
        String[] earlier = {"04 81 b0" + "ff".repeat(176), "04 81 b0" + "00".repeat(176),
            "31 81 c4" + "05 00".repeat(98), "30 0f 02 09 01 00 00 00 00 00 00 00 05 03 02 07 ff",
            "24 80 24 80 04 05 01 02 03 04 05", "03 02 07 ff"};
        Recipe one = Recipe.choice(Recipe.sequenceOf(Recipe.choice(Recipe.INTEGER, Recipe.BIT_STRING)),
            Recipe.setOf(Recipe.NULL), Recipe.OCTET_STRING, Recipe.IA5_STRING, Recipe.UTF8_STRING, Recipe.BIT_STRING);
        String[] taken = {"16 01 41", "0c 02 c3 a9", "03 01 00", "03 02 00 ff", "04 00", "30 00", "31 00",
            "30 03 02 01 05"};
        String[] refused = {"16", "16 01", "16 02 41", "0c 01 c3", "30 80", "30 80 00", "31 80 05", "31 02 05",
            "24 80 04", "03", "23 80 03 01 00", "04 81", "30 03 02 01", ""};
        for (String before : earlier) {
            for (String octets : taken) {
                CHECK.due(octets + " behind " + before, behind(one, before, octets), Check.plain(octets));
            }
            for (String octets : refused) {
                CHECK.due(octets + " behind " + before, behind(one, before, octets), "IllegalArgumentException");
            }
        }
    }

    private static String behind(Recipe recipe, String before, String octets) {
        TagCoder x = new TagCoder();
        int type = recipe.make(x);
        Check.feed(x, before);
        Check.transcoded(x, type);
        x.clear();
        Check.feed(x, octets);
        return Check.transcoded(x, type);
    }
}
