/** Promises 1 to 8, 14 and 15: how types are made, counted and asked for their first tags. */
public final class TypesTest {
    private static final Check CHECK = new Check("TypesTest");
    private static final int TAG_CLASS = 1 << 21;

    public static void main(String[] args) {
        newObject();
        basic();
        bounded();
        tagged();
        list();
        sixteenTypes();
        openAndCounts();
        members();
        defaults();
        closeWithoutRules();
        choiceRules();
        setRules();
        sequenceRules();
        firstTags();
        CHECK.finish();
    }

    private static void newObject() {
        TagCoder x = new TagCoder();
        CHECK.due("counts of a new object", x.counts(), 0);
        CHECK.due("octet(-1) of a new object", x.octet(-1), 0);
        CHECK.due("result(-1) of a new object", x.result(-1), 0);
        CHECK.due("octet(0) of a new object", x.octet(0), -1);
        CHECK.due("result(0) of a new object", x.result(0), -1);
        CHECK.due("close of a new object", x.close(), -1);
        CHECK.due("member of a new object", x.member(0, 0, 0), false);
        CHECK.due("firstTag of a new object", x.firstTag(0, 0), -1);
        CHECK.due("transcode of a new object", Check.transcoded(x, 0), "IndexOutOfBoundsException");
    }

    private static void basic() {
        TagCoder x = new TagCoder();
        int made = 0;
        for (int kind = -2; kind < 40; kind++) {
            boolean known = kind >= 1 && kind <= 6 || kind == 12 || kind == 22;
            CHECK.due("basic(" + kind + ")", x.basic(kind), known ? made : -1);
            if (known) {
                CHECK.due("firstTag of kind " + kind, x.firstTag(made, 0), kind);
                CHECK.due("second firstTag of kind " + kind, x.firstTag(made, 1), -1);
                made++;
            }
            CHECK.due("counts behind basic(" + kind + ")", x.counts(), made);
        }
        CHECK.due("basic of a large kind", x.basic(Integer.MAX_VALUE), -1);
        CHECK.due("basic of a small kind", x.basic(Integer.MIN_VALUE), -1);
    }

    private static void bounded() {
        int[] kinds = {1, 2, 3, 4, 5, 6, 12, 22};
        for (int kind : kinds) {
            TagCoder x = new TagCoder();
            x.basic(kind);
            boolean sized = kind == 4 || kind == 12 || kind == 22;
            boolean may = kind == 2 || sized;
            String of = " of kind " + kind;
            CHECK.due("bounded(0, 3, 2)" + of, x.bounded(0, 3, 2), -1);
            CHECK.due("bounded(1, 0, 1)" + of, x.bounded(1, 0, 1), -1);
            CHECK.due("bounded(-1, 0, 1)" + of, x.bounded(-1, 0, 1), -1);
            CHECK.due("bounded(0, 2, 2)" + of, x.bounded(0, 2, 2), may ? 1 : -1);
            CHECK.due("bounded of bounded" + of, x.bounded(1, 2, 2), -1);
            int low = x.bounded(0, -1, 5);
            CHECK.due("bounded(0, -1, 5)" + of, low, kind == 2 ? 2 : -1);
            int wide = x.bounded(0, sized ? 0 : Long.MIN_VALUE, Long.MAX_VALUE);
            CHECK.due("bounded to the ends" + of, wide, kind == 2 ? 3 : sized ? 2 : -1);
            int tagged = x.tagged(1, 1, false, 0);
            CHECK.due("bounded of tagged" + of, x.bounded(tagged, 0, 1), -1);
            int explicit = x.tagged(1, 1, true, 0);
            CHECK.due("bounded of explicit" + of, x.bounded(explicit, 0, 1), -1);
            CHECK.due("bounded of list" + of, x.bounded(x.list(16, 0), 0, 1), -1);
        }
    }

    private static void tagged() {
        TagCoder x = new TagCoder();
        x.basic(2);
        CHECK.due("class 0", x.tagged(0, 5, true, 0), -1);
        CHECK.due("class 4", x.tagged(4, 5, true, 0), -1);
        CHECK.due("class -1", x.tagged(-1, 5, false, 0), -1);
        CHECK.due("number -1", x.tagged(1, -1, true, 0), -1);
        CHECK.due("number 2001", x.tagged(1, 2001, true, 0), -1);
        CHECK.due("type -1", x.tagged(1, 1, true, -1), -1);
        CHECK.due("type 1 before it is made", x.tagged(1, 1, true, 1), -1);
        CHECK.due("counts behind refusals", x.counts(), 1);
        CHECK.due("class 1, number 0", x.tagged(1, 0, true, 0), 1);
        CHECK.due("class 3, number 2000", x.tagged(3, 2000, false, 0), 2);
        CHECK.due("its tag", x.firstTag(2, 0), 3 * TAG_CLASS + 2000);
        CHECK.due("explicit tag", x.firstTag(1, 0), TAG_CLASS);
        CHECK.due("explicit tag alone", x.firstTag(1, 1), -1);
        x.open(20);
        x.member(0, 0, 0);
        CHECK.due("choice", x.close(), 3);
        CHECK.due("choice without EXPLICIT", x.tagged(1, 1, false, 3), -1);
        CHECK.due("choice with EXPLICIT", x.tagged(1, 1, true, 3), 4);
        CHECK.due("explicit choice without EXPLICIT", x.tagged(1, 2, false, 4), 5);
        CHECK.due("tag in place of an explicit one", x.firstTag(5, 0), TAG_CLASS + 2);
    }

    private static void list() {
        TagCoder x = new TagCoder();
        CHECK.due("list without types", x.list(16, 0), -1);
        x.basic(5);
        CHECK.due("list(15)", x.list(15, 0), -1);
        CHECK.due("list(18)", x.list(18, 0), -1);
        CHECK.due("list(20)", x.list(20, 0), -1);
        CHECK.due("list of type 1", x.list(16, 1), -1);
        CHECK.due("list of type -1", x.list(17, -1), -1);
        CHECK.due("SEQUENCE OF", x.list(16, 0), 1);
        CHECK.due("SET OF", x.list(17, 1), 2);
        CHECK.due("tag of SEQUENCE OF", x.firstTag(1, 0), 16);
        CHECK.due("tag of SET OF", x.firstTag(2, 0), 17);
    }

    private static void sixteenTypes() {
        TagCoder x = new TagCoder();
        for (int n = 0; n < 15; n++) {
            CHECK.due("basic number " + n, x.basic(2), n);
        }
        x.open(16);
        x.member(0, 0, 0);
        CHECK.due("the sixteenth", x.basic(4), 15);
        CHECK.due("basic behind it", x.basic(2), -1);
        CHECK.due("bounded behind it", x.bounded(0, 1, 2), -1);
        CHECK.due("tagged behind it", x.tagged(1, 1, true, 0), -1);
        CHECK.due("list behind it", x.list(16, 0), -1);
        CHECK.due("close behind it", x.close(), -1);
        CHECK.due("the list stays open", x.counts(), 16 + 32 * 16 + 1024);
        CHECK.due("and takes members", x.member(15, 1, 0), true);
        CHECK.due("open behind it", x.open(20), true);
        CHECK.due("counts behind it", x.counts(), 16 + 32 * 20);
    }

    private static void openAndCounts() {
        TagCoder x = new TagCoder();
        x.basic(1);
        int[] wrong = {0, 15, 18, 19, 21, -16, Integer.MAX_VALUE};
        for (int kind : wrong) {
            CHECK.due("open(" + kind + ")", x.open(kind), false);
        }
        CHECK.due("counts with none open", x.counts(), 1);
        CHECK.due("open(17)", x.open(17), true);
        x.member(0, 0, 0);
        CHECK.due("counts of a SET", x.counts(), 1 + 32 * 17 + 1024);
        CHECK.due("open(19) behind it", x.open(19), false);
        CHECK.due("counts of the same SET", x.counts(), 1 + 32 * 17 + 1024);
        CHECK.due("open(16) in its place", x.open(16), true);
        CHECK.due("counts of an empty SEQUENCE", x.counts(), 1 + 32 * 16);
        CHECK.due("close of an empty SEQUENCE", x.close(), 1);
        CHECK.due("counts behind close", x.counts(), 2);
        CHECK.due("close again", x.close(), -1);
        CHECK.due("member behind close", x.member(0, 0, 0), false);
    }

    private static void members() {
        TagCoder x = new TagCoder();
        x.basic(2);
        x.open(16);
        CHECK.due("how -1", x.member(0, -1, 0), false);
        CHECK.due("how 3", x.member(0, 3, 0), false);
        CHECK.due("type 1", x.member(1, 0, 0), false);
        CHECK.due("type -1", x.member(-1, 0, 0), false);
        CHECK.due("counts behind refusals", x.counts(), 1 + 32 * 16);
        for (int n = 0; n < 6; n++) {
            CHECK.due("member " + n, x.member(0, 0, Long.MAX_VALUE), true);
        }
        CHECK.due("a seventh", x.member(0, 0, 0), false);
        CHECK.due("counts with six", x.counts(), 1 + 32 * 16 + 6 * 1024);
        x.open(20);
        CHECK.due("OPTIONAL alternative", x.member(0, 1, 0), false);
        CHECK.due("DEFAULT alternative", x.member(0, 2, 0), false);
        CHECK.due("alternative", x.member(0, 0, 99), true);
    }

    private static void defaults() {
        TagCoder x = new TagCoder();
        int[] kinds = {1, 2, 3, 4, 5, 6, 12, 22};
        for (int kind : kinds) {
            int type = x.basic(kind);
            x.open(17);
            CHECK.due("DEFAULT of kind " + kind, x.member(type, 2, 0), kind <= 2);
        }
        int bounded = x.bounded(1, -3, 300);
        int tagged = x.tagged(2, 1, false, bounded);
        int explicit = x.tagged(2, 2, true, tagged);
        int twice = x.tagged(2, 3, false, explicit);
        int truth = x.tagged(2, 4, true, 0);
        int list = x.list(16, 1);
        x.open(20);
        x.member(1, 0, 0);
        int choice = x.close();
        int behind = x.tagged(2, 5, true, choice);
        for (int type : new int[] {bounded, tagged, explicit, twice}) {
            defaultDue(x, type, -4, false);
            defaultDue(x, type, -3, true);
            defaultDue(x, type, 300, true);
            defaultDue(x, type, 301, false);
        }
        for (int type : new int[] {0, truth}) {
            defaultDue(x, type, -1, false);
            defaultDue(x, type, 0, true);
            defaultDue(x, type, 1, true);
            defaultDue(x, type, 2, false);
            defaultDue(x, type, 255, false);
            defaultDue(x, type, 1L << 32, false);
        }
        defaultDue(x, 1, Long.MIN_VALUE, true);
        defaultDue(x, 1, Long.MAX_VALUE, true);
        defaultDue(x, list, 0, false);
        defaultDue(x, choice, 0, false);
        defaultDue(x, behind, 0, false);
    }

    private static void defaultDue(TagCoder x, int type, long value, boolean want) {
        x.open(16);
        CHECK.due("DEFAULT " + value + " of type " + type, x.member(type, 2, value), want);
        CHECK.due("counts behind it", x.counts() >> 10, want ? 1 : 0);
    }

    private static void closeWithoutRules() {
        TagCoder x = new TagCoder();
        CHECK.due("close without open", x.close(), -1);
        x.open(20);
        CHECK.due("close of an empty CHOICE", x.close(), -1);
        CHECK.due("it stays open", x.counts(), 32 * 20);
        x.open(17);
        CHECK.due("close of an empty SET", x.close(), 0);
        CHECK.due("tag of a SET", x.firstTag(0, 0), 17);
        x.open(16);
        CHECK.due("close of an empty SEQUENCE", x.close(), 1);
        CHECK.due("tag of a SEQUENCE", x.firstTag(1, 0), 16);
    }

    /** Types 0 INTEGER, 1 BOOLEAN, 2 bounded INTEGER, 3 class 2 number 1, 4 CHOICE of 1 and 3. */
    private static TagCoder withTypes() {
        TagCoder x = new TagCoder();
        x.basic(2);
        x.basic(1);
        x.bounded(0, 0, 9);
        x.tagged(2, 1, true, 0);
        x.open(20);
        x.member(1, 0, 0);
        x.member(3, 0, 0);
        x.close();
        return x;
    }

    /** Each member as type * 10 + how. */
    private static void closeDue(int kind, boolean allowed, int... members) {
        TagCoder x = withTypes();
        x.open(kind);
        StringBuilder told = new StringBuilder("close of " + kind);
        for (int member : members) {
            x.member(member / 10, member % 10, 1);
            told.append(' ').append(member);
        }
        int open = 5 + 32 * kind + 1024 * members.length;
        CHECK.due("counts before " + told, x.counts(), open);
        CHECK.due(told.toString(), x.close(), allowed ? 5 : -1);
        CHECK.due("counts behind " + told, x.counts(), allowed ? 6 : open);
    }

    private static void choiceRules() {
        closeDue(20, true, 0);
        closeDue(20, true, 0, 10);
        closeDue(20, false, 0, 0);
        closeDue(20, false, 0, 20);
        closeDue(20, false, 10, 0, 20);
        closeDue(20, true, 40, 0);
        closeDue(20, false, 40, 10);
        closeDue(20, false, 30, 0, 40);
        closeDue(20, false, 40, 40);
    }

    private static void setRules() {
        closeDue(17, true, 0, 10, 30);
        closeDue(17, false, 0, 10, 20);
        closeDue(17, false, 1, 2);
        closeDue(17, true, 1, 40);
        closeDue(17, false, 41, 12);
    }

    private static void sequenceRules() {
        closeDue(16, true, 0, 0, 0, 0, 0, 0);
        closeDue(16, true, 0, 1);
        closeDue(16, false, 1, 0);
        closeDue(16, false, 2, 20);
        closeDue(16, true, 1, 10, 0);
        closeDue(16, true, 1, 10, 1);
        closeDue(16, false, 1, 11, 0);
        closeDue(16, false, 1, 11, 21);
        closeDue(16, false, 0, 11, 31, 10);
        closeDue(16, true, 0, 11, 31, 0);
        closeDue(16, false, 11, 40);
        closeDue(16, true, 11, 0, 40);
        closeDue(16, false, 0, 41, 30);
        closeDue(16, true, 40, 41, 0);
        closeDue(16, false, 40, 41, 1, 32);
    }

    private static void firstTags() {
        TagCoder x = withTypes();
        CHECK.due("of BOOLEAN in CHOICE", x.firstTag(4, 0), 1);
        CHECK.due("of tagged in CHOICE", x.firstTag(4, 1), 2 * TAG_CLASS + 1);
        CHECK.due("behind the last", x.firstTag(4, 2), -1);
        CHECK.due("j -1", x.firstTag(4, -1), -1);
        CHECK.due("type -1", x.firstTag(-1, 0), -1);
        CHECK.due("type 5", x.firstTag(5, 0), -1);
        CHECK.due("of bounded", x.firstTag(2, 0), 2);
        x.basic(5);
        x.open(20);
        x.member(5, 0, 0);
        x.member(4, 0, 0);
        x.member(0, 0, 0);
        CHECK.due("CHOICE with a CHOICE", x.close(), 6);
        int[] want = {5, 1, 2 * TAG_CLASS + 1, 2, -1};
        for (int j = 0; j < want.length; j++) {
            CHECK.due("tag " + j + " of nested CHOICE", x.firstTag(6, j), want[j]);
        }
        int around = x.tagged(3, 7, true, 6);
        CHECK.due("of a tagged CHOICE", x.firstTag(around, 0), 3 * TAG_CLASS + 7);
        CHECK.due("alone", x.firstTag(around, 1), -1);
    }
}
