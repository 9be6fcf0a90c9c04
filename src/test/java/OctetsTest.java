import java.util.function.Consumer;

/** Promises 9, 10, 12 and 13, sentence by sentence: the octets that are fed, and the result as it is asked for. */
public final class OctetsTest {
    private static final Check CHECK = new Check("OctetsTest");
    private static final int LEAST = Integer.MIN_VALUE;
    private static final int MOST = Integer.MAX_VALUE;
    private static final String LONGEST = "0481c5" + "5b".repeat(196) + "fe";

    public static void main(String[] args) {
        feedTheLowest();
        feedToTheEnd();
        feedOtherCounts();
        feedTooMany();
        clearAll();
        resultOctets();
        noResultOctet();
        octets();
        CHECK.finish();
    }

    private static Consumer<TagCoder> fed(int count) {
        return x -> {
            for (int k = 0; k < count; k += 8) {
                x.feed(0x0102030405060708L, Math.min(8, count - k));
            }
        };
    }

    private static void feedTheLowest() {
        CHECK.sentence("The n lowest octets of a long, n 1 .. 8, the highest of them first,"
            + " are appended to the octets.");
        String all = "81f2c3a4e5060798";
        for (int n = 1; n <= 8; n++) {
            TagCoder x = new TagCoder();
            CHECK.due("feed of " + n, x.feed(0x81F2C3A4E5060798L, n), true);
            CHECK.due("octets behind feed of " + n, Check.octets(x), all.substring(16 - 2 * n));
            CHECK.due("feed of another", x.feed(-2, 1), true);
            CHECK.due("octets behind both", Check.octets(x), all.substring(16 - 2 * n) + "fe");
        }
        TagCoder y = new TagCoder();
        y.feed(-1, 8);
        y.feed(Long.MIN_VALUE, 8);
        y.feed(0, 8);
        y.feed(Long.MIN_VALUE, 7);
        CHECK.due("octets of feeds in a row", Check.octets(y), "ff".repeat(8) + "80" + "00".repeat(22));
    }

    private static void feedToTheEnd() {
        CHECK.sentence("or when there would be more than 200.");
        for (int n = 1; n <= 8; n++) {
            int size = n;
            TagCoder x = new TagCoder();
            fed(200 - n).accept(x);
            CHECK.due("feed of " + n + " behind " + (200 - n), x.feed(0x1112131415161718L, n), true);
            CHECK.due("octets then", x.octet(-1), 200);
            CHECK.due("the last then", x.octet(199), 0x18);
            CHECK.due("feed of 1 behind 200", x.feed(9, 1), false);
            CHECK.due("octets then", x.octet(-1), 200);
            CHECK.due("the last then", x.octet(199), 0x18);
            CHECK.due("behind the last then", x.octet(200), -1);
            TagCoder y = new TagCoder();
            fed(201 - n).accept(y);
            String before = Check.octets(y);
            CHECK.due("feed of " + n + " behind " + (201 - n), y.feed(0x1112131415161718L, size), false);
            CHECK.due("octets then", Check.octets(y), before);
        }
        TagCoder z = new TagCoder();
        fed(200).accept(z);
        CHECK.due("feed of 8 behind 200", z.feed(9, 8), false);
        z.clear();
        CHECK.due("feed of 8 behind clear", z.feed(9, 8), true);
        CHECK.due("octets then", Check.octets(z), "0000000000000009");
    }

    private static void feedOtherCounts() {
        CHECK.sentence("False (changing nothing) for another n");
        for (int n : new int[] {0, -1, 9, 10, 16, -8, 256 + 1, LEAST, LEAST + 1, MOST, MOST - 1}) {
            CHECK.idle("feed of " + n, x -> { }, x -> x.feed(-1, n));
            CHECK.idle("feed of " + n + " behind 7", fed(7), x -> x.feed(-1, n));
        }
    }

    private static void feedTooMany() {
        CHECK.sentence("False (changing nothing) for another n, or when there would be more than 200.");
        TagCoder x = new TagCoder();
        fed(200).accept(x);
        for (int n : new int[] {0, 1, 8, 9, LEAST, MOST}) {
            CHECK.due("feed of " + n + " behind 200", x.feed(-1, n), false);
        }
        CHECK.due("octets then", Check.octets(x), "0102030405060708".repeat(25));
    }

    private static void clearAll() {
        CHECK.sentence("No octets.");
        for (int count : new int[] {0, 1, 8, 199, 200}) {
            TagCoder x = new TagCoder();
            fed(count).accept(x);
            x.clear();
            CHECK.due("octet(-1) behind clear of " + count, x.octet(-1), 0);
            CHECK.due("octet(0) behind clear of " + count, x.octet(0), -1);
        }
        TagCoder y = new TagCoder();
        y.basic(5);
        y.open(17);
        y.member(0, 1, 0);
        y.feed(0x058100, 3);
        y.transcode(0);
        int counts = y.counts();
        y.clear();
        CHECK.due("result behind clear", Check.result(y), "0500");
        CHECK.due("counts behind clear", y.counts(), counts);
        y.clear();
        CHECK.due("octets behind clear of none", y.octet(-1), 0);
        CHECK.due("transcode behind clear", Check.transcoded(y, 0), "IllegalArgumentException");
        y.feed(0x77, 1);
        CHECK.due("octets fed behind clear", Check.octets(y), "77");
    }

    private static void resultOctets() {
        CHECK.sentence("Octet k of the result; how many there are for k = -1 (0 without a result)");
        TagCoder x = new TagCoder();
        x.basic(4);
        CHECK.due("result(-1) without a result", x.result(-1), 0);
        x.feed(0x0405, 2);
        CHECK.due("wrong octets", Check.transcoded(x, 0), "IllegalArgumentException");
        CHECK.due("result(-1) behind them", x.result(-1), 0);
        x.clear();
        x.feed(0x0481030080FFL, 6);
        CHECK.due("right octets", x.transcode(0), 5);
        int[] due = {5, 4, 3, 0, 0x80, 0xFF, -1};
        for (int k = -1; k < 6; k++) {
            CHECK.due("result(" + k + ")", x.result(k), due[k + 1]);
        }
        x.clear();
        x.feed(0x0400, 2);
        CHECK.due("fewer octets", x.transcode(0), 2);
        CHECK.due("result(-1) of fewer", x.result(-1), 2);
        CHECK.due("result(1) of fewer", x.result(1), 0);
        CHECK.due("result(2) of fewer", x.result(2), -1);
        TagCoder y = new TagCoder();
        y.basic(4);
        Check.feed(y, LONGEST);
        CHECK.due("the longest", Check.transcoded(y, 0), LONGEST);
        CHECK.due("result(-1) of the longest", y.result(-1), 200);
        CHECK.due("result(199) of the longest", y.result(199), 0xFE);
        CHECK.due("result(200) of the longest", y.result(200), -1);
    }

    private static void noResultOctet() {
        CHECK.sentence("-1 when there is none.");
        TagCoder x = new TagCoder();
        x.basic(5);
        for (int k : new int[] {0, 1, -2, 199, 200, LEAST, MOST}) {
            CHECK.due("result(" + k + ") without a result", x.result(k), -1);
        }
        x.feed(0x0500, 2);
        x.transcode(0);
        for (int k : new int[] {2, 3, -2, -3, 199, 200, 201, LEAST, LEAST + 1, MOST}) {
            CHECK.due("result(" + k + ") of two", x.result(k), -1);
        }
    }

    private static void octets() {
        CHECK.sentence("Octet k of the octets, alike.");
        TagCoder x = new TagCoder();
        CHECK.due("octet(-1) without octets", x.octet(-1), 0);
        for (int k : new int[] {0, 1, -2, 199, 200, LEAST, MOST}) {
            CHECK.due("octet(" + k + ") without octets", x.octet(k), -1);
        }
        x.feed(0x0080FF, 3);
        int[] due = {3, 0, 0x80, 0xFF, -1};
        for (int k = -1; k < 4; k++) {
            CHECK.due("octet(" + k + ")", x.octet(k), due[k + 1]);
        }
        for (int k : new int[] {4, -2, -3, 199, 200, 201, LEAST, LEAST + 1, MOST}) {
            CHECK.due("octet(" + k + ") of three", x.octet(k), -1);
        }
        TagCoder y = new TagCoder();
        Check.feed(y, LONGEST);
        CHECK.due("octet(-1) of 200", y.octet(-1), 200);
        CHECK.due("octet(199) of 200", y.octet(199), 0xFE);
        CHECK.due("octet(200) of 200", y.octet(200), -1);
    }
}
