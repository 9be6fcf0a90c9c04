/** Promises 9, 10, 12 and 13: the octets that are fed, and the result as it is asked for. */
public final class OctetsTest {
    private static final Check CHECK = new Check("OctetsTest");

    public static void main(String[] args) {
        feed();
        feedToTheEnd();
        clearLeavesTheResult();
        resultOfAShorterOne();
        CHECK.finish();
    }

    private static void feed() {
        TagCoder x = new TagCoder();
        for (int n : new int[] {0, -1, 9, 16, Integer.MAX_VALUE, Integer.MIN_VALUE}) {
            CHECK.due("feed of " + n, x.feed(1, n), false);
        }
        CHECK.due("octets behind refusals", x.octet(-1), 0);
        CHECK.due("feed of 1", x.feed(-1L, 1), true);
        CHECK.due("feed of 3", x.feed(0x1122334455667788L, 3), true);
        CHECK.due("octets", Check.octets(x), "ff667788");
        CHECK.due("feed of 8", x.feed(0x80F0000000000001L, 8), true);
        CHECK.due("octets", Check.octets(x), "ff66778880f0000000000001");
        CHECK.due("octet(-2)", x.octet(-2), -1);
        CHECK.due("octet(11)", x.octet(11), 1);
        CHECK.due("octet(12)", x.octet(12), -1);
        CHECK.due("octet(MAX)", x.octet(Integer.MAX_VALUE), -1);
        CHECK.due("octet(MIN)", x.octet(Integer.MIN_VALUE), -1);
        x.clear();
        CHECK.due("octet(-1) behind clear", x.octet(-1), 0);
        CHECK.due("octet(0) behind clear", x.octet(0), -1);
    }

    private static void feedToTheEnd() {
        TagCoder x = new TagCoder();
        for (int n = 0; n < 24; n++) {
            x.feed(n, 8);
        }
        CHECK.due("feed to 199", x.feed(7, 7), true);
        CHECK.due("feed past 200", x.feed(9, 2), false);
        CHECK.due("octets as before", x.octet(-1), 199);
        CHECK.due("feed to 200", x.feed(9, 1), true);
        CHECK.due("feed behind 200", x.feed(9, 1), false);
        CHECK.due("all of them", x.octet(-1), 200);
        CHECK.due("the last", x.octet(199), 9);
        CHECK.due("behind the last", x.octet(200), -1);
        x.clear();
        CHECK.due("feed behind clear", x.feed(5, 1), true);
        CHECK.due("its octets", Check.octets(x), "05");
    }

    private static void clearLeavesTheResult() {
        TagCoder x = new TagCoder();
        x.basic(2);
        Check.feed(x, "02 81 01 07");
        CHECK.due("result before transcode", x.result(-1), 0);
        CHECK.due("transcode", x.transcode(0), 3);
        CHECK.due("result", Check.result(x), "020107");
        CHECK.due("octets stay", Check.octets(x), "02810107");
        x.clear();
        CHECK.due("result behind clear", Check.result(x), "020107");
        CHECK.due("result(3)", x.result(3), -1);
        CHECK.due("result(-2)", x.result(-2), -1);
        CHECK.due("result(MAX)", x.result(Integer.MAX_VALUE), -1);
        CHECK.due("result(MIN)", x.result(Integer.MIN_VALUE), -1);
        CHECK.due("transcode of none", Check.transcoded(x, 0), "IllegalArgumentException");
        CHECK.due("transcode(1)", Check.transcoded(x, 1), "IndexOutOfBoundsException");
        CHECK.due("transcode(-1)", Check.transcoded(x, -1), "IndexOutOfBoundsException");
        CHECK.due("result behind both", Check.result(x), "020107");
    }

    private static void resultOfAShorterOne() {
        TagCoder x = new TagCoder();
        x.basic(4);
        CHECK.strict(x, 0, "04 05 01 02 03 04 05", "04 05 01 02 03 04 05");
        CHECK.strict(x, 0, "04 01 09", "04 01 09");
        CHECK.due("result(3) of the shorter one", x.result(3), -1);
    }
}
