import java.util.function.Consumer;

/** Promises 1 to 8, 14 and 15, sentence by sentence: how types are made, counted and asked for their tags. */
public final class MakingTest {
    private static final Check CHECK = new Check("MakingTest");
    private static final int TAG_CLASS = 1 << 21;
    private static final int[] BASIC_KINDS = {1, 2, 3, 4, 5, 6, 12, 22};
    private static final int LEAST = Integer.MIN_VALUE;
    private static final int MOST = Integer.MAX_VALUE;

    public static void main(String[] args) {
        newObject();
        lastPromisedCall();
        basicNumbers();
        otherBasicKinds();
        sixteenTypes();
        boundedNumbers();
        boundedOfOtherTypes();
        boundedTheWrongWay();
        taggedEdges();
        taggedRefused();
        listKinds();
        listRefused();
        openInPlace();
        openOtherKinds();
        memberHows();
        memberDefaults();
        memberRefused();
        closeMakesAType();
        closeRefused();
        counts();
        firstTags();
        noFirstTag();
        CHECK.finish();
    }

    private static Consumer<TagCoder> types(int count) {
        return x -> {
            for (int n = 0; n < count; n++) {
                x.basic(2);
            }
        };
    }

    private static Consumer<TagCoder> made(Recipe recipe) {
        return recipe::make;
    }

    private static void newObject() {
        CHECK.sentence("No types, no octets, no result, no list open.");
        TagCoder x = new TagCoder();
        CHECK.due("counts", x.counts(), 0);
        CHECK.due("octet(-1)", x.octet(-1), 0);
        CHECK.due("octet(0)", x.octet(0), -1);
        CHECK.due("result(-1)", x.result(-1), 0);
        CHECK.due("result(0)", x.result(0), -1);
        CHECK.due("close", x.close(), -1);
        CHECK.due("member", x.member(0, 0, 0), false);
        CHECK.due("firstTag(0, 0)", x.firstTag(0, 0), -1);
        CHECK.due("bounded of type 0", x.bounded(0, 0, 1), -1);
        CHECK.due("tagged of type 0", x.tagged(1, 1, true, 0), -1);
        CHECK.due("list of type 0", x.list(16, 0), -1);
        CHECK.due("transcode(0)", Check.transcoded(x, 0), "IndexOutOfBoundsException");
        CHECK.due("counts behind all that", x.counts(), 0);
        x.feed(0x0500, 2);
        x.transcode(x.basic(5));
        x.open(16);
        TagCoder y = new TagCoder();
        CHECK.due("state of another new object", Check.state(y), Check.state(new TagCoder()));
        CHECK.due("its counts", y.counts(), 0);
        CHECK.due("its octets", y.octet(-1), 0);
        CHECK.due("its result", y.result(-1), 0);
    }

    private static void lastPromisedCall() {
        CHECK.sentence("An object is used for at most 512 calls after it has been made");
        TagCoder x = new TagCoder();
        x.basic(2);
        for (int n = 2; n <= 509; n++) {
            x.open(16);
        }
        CHECK.due("call 510, feed", x.feed(0x02810107, 4), true);
        CHECK.due("call 511, transcode", x.transcode(0), 3);
        CHECK.due("call 512, result", x.result(2), 7);
        TagCoder y = new TagCoder();
        y.basic(2);
        y.open(17);
        for (int n = 3; n <= 511; n++) {
            y.member(0, 0, 0);
        }
        CHECK.due("call 512, counts", y.counts(), 1 + 32 * 17 + 6 * 1024);
        TagCoder z = new TagCoder();
        z.basic(2);
        z.feed(0x0200, 2);
        for (int n = 3; n <= 511; n++) {
            CHECK.due("call " + n + ", transcode", Check.transcoded(z, 0), "IllegalArgumentException");
        }
        CHECK.due("call 512, basic", z.basic(22), 1);
    }

    private static void basicNumbers() {
        CHECK.sentence("A new basic type: its number.");
        TagCoder x = new TagCoder();
        int made = 0;
        for (int kind : BASIC_KINDS) {
            CHECK.due("basic(" + kind + ")", x.basic(kind), made);
            made++;
            CHECK.due("counts behind basic(" + kind + ")", x.counts(), made);
        }
        CHECK.due("the same kind again", x.basic(22), 8);
    }

    private static void otherBasicKinds() {
        CHECK.sentence("-1 for another kind, or when there are 16.");
        int[] others = {0, 7, 8, 9, 10, 11, 13, 14, 15, 16, 17, 18, 19, 20, 21, 23, 24, 30, 31, 32, 33, 34, 54, -1, -2,
            -4, 258, 260, 65538, LEAST, LEAST + 2, MOST, MOST - 1};
        for (int kind : others) {
            CHECK.idle("basic(" + kind + ")", x -> { }, x -> x.basic(kind), -1);
            CHECK.idle("basic(" + kind + ") behind 15 types", types(15), x -> x.basic(kind), -1);
        }
        for (int kind : BASIC_KINDS) {
            TagCoder x = new TagCoder();
            types(15).accept(x);
            CHECK.due("basic(" + kind + ") behind 15 types", x.basic(kind), 15);
            CHECK.idle("basic(" + kind + ") behind 16 types", types(16), y -> y.basic(kind), -1);
        }
    }

    private static void sixteenTypes() {
        CHECK.sentence("(So for the next three: -1 when there are 16 types.)");
        TagCoder x = new TagCoder();
        types(15).accept(x);
        CHECK.due("bounded behind 15 types", x.bounded(14, 1, 2), 15);
        TagCoder y = new TagCoder();
        types(15).accept(y);
        CHECK.due("tagged behind 15 types", y.tagged(1, 1, false, 14), 15);
        TagCoder z = new TagCoder();
        types(15).accept(z);
        CHECK.due("list behind 15 types", z.list(17, 14), 15);
        CHECK.idle("bounded behind 16 types", types(16), a -> a.bounded(0, 1, 2), -1);
        CHECK.idle("tagged behind 16 types", types(16), a -> a.tagged(1, 1, false, 15), -1);
        CHECK.idle("tagged EXPLICIT behind 16 types", types(16), a -> a.tagged(1, 1, true, 15), -1);
        CHECK.idle("list(16, 0) behind 16 types", types(16), a -> a.list(16, 0), -1);
        CHECK.idle("list(17, 15) behind 16 types", types(16), a -> a.list(17, 15), -1);
    }

    private static void boundedNumbers() {
        CHECK.sentence("A new bounded type.");
        long[][] bounds = {{0, 0}, {0, 1}, {5, 5}, {0, Long.MAX_VALUE}, {Long.MAX_VALUE, Long.MAX_VALUE}};
        for (int kind : new int[] {2, 4, 12, 22}) {
            for (long[] bound : bounds) {
                TagCoder x = new TagCoder();
                x.basic(kind);
                String what = "bounded(0, " + bound[0] + ", " + bound[1] + ") of kind " + kind;
                CHECK.due(what, x.bounded(0, bound[0], bound[1]), 1);
                CHECK.due("counts behind it", x.counts(), 2);
                CHECK.due("another " + what, x.bounded(0, bound[0], bound[1]), 2);
            }
        }
        long[][] below = {{-1, -1}, {-1, 0}, {Long.MIN_VALUE, Long.MIN_VALUE}, {Long.MIN_VALUE, Long.MAX_VALUE}};
        for (long[] bound : below) {
            CHECK.allowed("INTEGER " + bound[0] + " to " + bound[1], Recipe.INTEGER.within(bound[0], bound[1]));
        }
    }

    private static void boundedOfOtherTypes() {
        CHECK.sentence("-1, too, when the type is no basic one of those kinds (a bounded or tagged one is none)");
        for (int kind : new int[] {1, 3, 5, 6}) {
            CHECK.idle("bounded of kind " + kind, x -> x.basic(kind), x -> x.bounded(0, 0, 1), -1);
        }
        for (int type : new int[] {-1, 2, 3, 15, 16, 17, LEAST, MOST}) {
            CHECK.idle("bounded of type " + type + " of 2", types(2), x -> x.bounded(type, 0, 1), -1);
        }
        for (int kind : new int[] {2, 4, 12, 22}) {
            Recipe basic = x -> x.basic(kind);
            String of = " of kind " + kind;
            CHECK.idle("bounded of bounded" + of, made(basic.within(0, 9)), x -> x.bounded(1, 0, 9), -1);
            CHECK.idle("bounded of tagged" + of, made(basic.implicit(1, kind)), x -> x.bounded(1, 0, 9), -1);
            CHECK.idle("bounded of EXPLICIT" + of, made(basic.explicit(2, kind)), x -> x.bounded(1, 0, 9), -1);
            CHECK.idle("bounded of list" + of, made(Recipe.sequenceOf(basic)), x -> x.bounded(1, 0, 9), -1);
            CHECK.idle("bounded of CHOICE" + of, made(Recipe.choice(basic)), x -> x.bounded(1, 0, 9), -1);
        }
        CHECK.forbidden("bounded of SEQUENCE", Recipe.sequence().within(0, 1));
        CHECK.forbidden("bounded of SET", Recipe.set().within(0, 1));
        CHECK.forbidden("bounded of SET OF", Recipe.setOf(Recipe.INTEGER).within(0, 1));
    }

    private static void boundedTheWrongWay() {
        CHECK.sentence("low is above high, or, for a size, below 0.");
        long[][] crossed = {{1, 0}, {0, -1}, {-1, -2}, {Long.MAX_VALUE, Long.MIN_VALUE}, {Long.MAX_VALUE, 0},
            {Long.MAX_VALUE, Long.MAX_VALUE - 1}, {Long.MIN_VALUE + 1, Long.MIN_VALUE}, {0, Long.MIN_VALUE},
            {1L << 32, 1}};
        long[][] below = {{-1, 5}, {-1, -1}, {-1, 0}, {Long.MIN_VALUE, Long.MAX_VALUE}};
        for (int kind : new int[] {2, 4, 12, 22}) {
            for (long[] bound : crossed) {
                String what = "bounded(0, " + bound[0] + ", " + bound[1] + ") of kind " + kind;
                CHECK.idle(what, x -> x.basic(kind), x -> x.bounded(0, bound[0], bound[1]), -1);
            }
        }
        for (int kind : new int[] {4, 12, 22}) {
            for (long[] bound : below) {
                String what = "bounded(0, " + bound[0] + ", " + bound[1] + ") of kind " + kind;
                CHECK.idle(what, x -> x.basic(kind), x -> x.bounded(0, bound[0], bound[1]), -1);
            }
        }
    }

    private static void taggedEdges() {
        CHECK.sentence("A new tagged type.");
        for (boolean explicit : new boolean[] {false, true}) {
            TagCoder x = new TagCoder();
            x.basic(3);
            int made = 1;
            for (int tagClass = 1; tagClass <= 3; tagClass++) {
                for (int number : new int[] {0, 1, 1999, 2000}) {
                    String what = "tagged(" + tagClass + ", " + number + ", " + explicit + ", " + (made - 1) + ")";
                    CHECK.due(what, x.tagged(tagClass, number, explicit, made - 1), made);
                    CHECK.due("tag of " + what, x.firstTag(made, 0), tagClass * TAG_CLASS + number);
                    made++;
                }
            }
            CHECK.due("counts behind them", x.counts(), made);
        }
    }

    private static void taggedRefused() {
        CHECK.sentence("-1, too, when there is no such type, the class is not 1 .. 3, the number not 0 .. 2000,"
            + " or the rule forbids it.");
        for (boolean explicit : new boolean[] {false, true}) {
            String behind = explicit ? " EXPLICIT" : "";
            for (int type : new int[] {-1, 2, 3, 15, 16, LEAST, MOST}) {
                CHECK.idle("type " + type + " of 2" + behind, types(2), x -> x.tagged(1, 1, explicit, type), -1);
            }
            for (int tagClass : new int[] {0, 4, 5, -1, -3, 257, LEAST, LEAST + 1, MOST}) {
                CHECK.idle("class " + tagClass + behind, types(1), x -> x.tagged(tagClass, 1, explicit, 0), -1);
            }
            for (int number : new int[] {-1, 2001, 2048, 65536, 1 << 21, LEAST, MOST}) {
                CHECK.idle("number " + number + behind, types(1), x -> x.tagged(2, number, explicit, 0), -1);
            }
        }
        Recipe choice = Recipe.choice(Recipe.INTEGER);
        CHECK.idle("CHOICE", made(choice), x -> x.tagged(1, 1, false, 1), -1);
        CHECK.allowed("CHOICE, EXPLICIT", choice.explicit(1, 1));
    }

    private static void listKinds() {
        CHECK.sentence("A new SEQUENCE OF (16) or SET OF (17).");
        TagCoder x = new TagCoder();
        x.basic(5);
        CHECK.due("list(16, 0)", x.list(16, 0), 1);
        CHECK.due("its tag", x.firstTag(1, 0), 16);
        CHECK.due("list(17, 1)", x.list(17, 1), 2);
        CHECK.due("its tag", x.firstTag(2, 0), 17);
        CHECK.due("list(17, 2)", x.list(17, 2), 3);
        CHECK.due("counts", x.counts(), 4);
        CHECK.allowed("list of a CHOICE", Recipe.setOf(Recipe.choice(Recipe.NULL)));
    }

    private static void listRefused() {
        CHECK.sentence("-1, too, for another kind, or when there is no such type.");
        for (int kind : new int[] {15, 18, 19, 20, 0, 1, -16, -17, 16 + 256, 17 + 65536, 116, 117, LEAST, MOST}) {
            CHECK.idle("list(" + kind + ", 0)", types(1), x -> x.list(kind, 0), -1);
        }
        for (int type : new int[] {-1, 2, 3, 15, 16, LEAST, MOST}) {
            CHECK.idle("list(16, " + type + ") of 2", types(2), x -> x.list(16, type), -1);
            CHECK.idle("list(17, " + type + ") of 2", types(2), x -> x.list(17, type), -1);
        }
    }

    private static void openInPlace() {
        CHECK.sentence("Opens an empty list of members of a SEQUENCE (16), SET (17), or CHOICE (20),"
            + " in place of another one.");
        int[] kinds = {16, 17, 20};
        for (int first : kinds) {
            for (int second : kinds) {
                TagCoder x = new TagCoder();
                x.basic(2);
                CHECK.due("open(" + first + ")", x.open(first), true);
                CHECK.due("counts behind it", x.counts(), 1 + 32 * first);
                x.member(0, 0, 0);
                CHECK.due("open(" + second + ") in its place", x.open(second), true);
                CHECK.due("counts behind it", x.counts(), 1 + 32 * second);
                CHECK.due("close", x.close(), second == 20 ? -1 : 1);
            }
        }
        TagCoder full = new TagCoder();
        types(16).accept(full);
        CHECK.due("open behind 16 types", full.open(16), true);
        CHECK.due("a member of it", full.member(15, 0, 0), true);
    }

    private static void openOtherKinds() {
        CHECK.sentence("False for another kind.");
        Consumer<TagCoder> open = x -> {
            x.basic(2);
            x.open(17);
            x.member(0, 1, 0);
        };
        for (int kind : new int[] {0, 1, 15, 18, 19, 21, 22, -16, -17, -20, 16 + 32, 17 + 256, LEAST, MOST}) {
            CHECK.idle("open(" + kind + ")", types(1), x -> x.open(kind));
            CHECK.idle("open(" + kind + ") with a list open", open, x -> x.open(kind));
        }
    }

    private static void memberHows() {
        CHECK.sentence("A member more: MANDATORY (0), OPTIONAL (1), or with the DEFAULT value"
            + " (2; else value does not matter");
        long[] values = {0, 1, 2, -1, Long.MIN_VALUE, Long.MAX_VALUE};
        for (int kind : BASIC_KINDS) {
            for (long value : values) {
                for (int list : new int[] {16, 17, 20}) {
                    TagCoder x = new TagCoder();
                    x.basic(kind);
                    x.open(list);
                    String what = "value " + value + " of kind " + kind + " in " + list;
                    CHECK.due("MANDATORY, " + what, x.member(0, 0, value), true);
                    CHECK.due("OPTIONAL, " + what, x.member(0, 1, value), list != 20);
                }
            }
        }
        Recipe bounded = Recipe.INTEGER.within(5, 6);
        TagCoder y = new TagCoder();
        y.open(16);
        CHECK.due("MANDATORY, out of bounds", y.member(bounded.make(y), 0, 7), true);
        CHECK.due("OPTIONAL, out of bounds", y.member(1, 1, 4), true);
        CHECK.due("counts", y.counts(), 2 + 32 * 16 + 2 * 1024);
        CHECK.taken(Recipe.sequence(new Recipe.Part(Recipe.INTEGER, 1, 7)), "30 03 02 01 07", "30 03 02 01 07");
        CHECK.taken(Recipe.set(new Recipe.Part(Recipe.INTEGER, 0, 7)), "31 03 02 01 07", "31 03 02 01 07");
    }

    private static void memberDefaults() {
        CHECK.sentence("the type is a BOOLEAN, value 0 or 1, or an INTEGER, BOUNDED or not, to whose bounds it keeps,"
            + " or tagged such a one)");
        for (Recipe type : new Recipe[] {Recipe.BOOLEAN, Recipe.BOOLEAN.implicit(1, 1), Recipe.BOOLEAN.explicit(1, 1),
            Recipe.BOOLEAN.explicit(1, 1).implicit(2, 2), Recipe.BOOLEAN.implicit(1, 1).explicit(2, 2)}) {
            defaultsDue("BOOLEAN", type, true, 0, 1);
            defaultsDue("BOOLEAN", type, false, -1, 2, 255, 256, 1L << 32, 1 + (1L << 32), Long.MIN_VALUE,
                Long.MAX_VALUE);
        }
        for (Recipe type : new Recipe[] {Recipe.INTEGER, Recipe.INTEGER.implicit(3, 0), Recipe.INTEGER.explicit(3,
            0)}) {
            defaultsDue("INTEGER", type, true, 0, 1, 2, -1, Long.MIN_VALUE, Long.MAX_VALUE);
        }
        Recipe bounded = Recipe.INTEGER.within(-3, 300);
        for (Recipe type : new Recipe[] {bounded, bounded.implicit(1, 1), bounded.explicit(1, 1),
            bounded.implicit(1, 1).explicit(1, 2), bounded.explicit(1, 1).explicit(1, 2).implicit(1, 3)}) {
            defaultsDue("INTEGER from -3 to 300", type, true, -3, -2, 0, 299, 300);
            defaultsDue("INTEGER from -3 to 300", type, false, -4, 301, 300 + (1L << 32), Long.MIN_VALUE,
                Long.MAX_VALUE);
        }
        defaultsDue("INTEGER of one value", Recipe.INTEGER.within(7, 7), true, 7);
        defaultsDue("INTEGER of one value", Recipe.INTEGER.within(7, 7), false, 6, 8);
        defaultsDue("INTEGER up to the ends", Recipe.INTEGER.within(Long.MIN_VALUE, Long.MAX_VALUE), true,
            Long.MIN_VALUE, Long.MAX_VALUE);
        for (Recipe type : new Recipe[] {Recipe.BIT_STRING, Recipe.OCTET_STRING, Recipe.NULL, Recipe.OBJECT_IDENTIFIER,
            Recipe.UTF8_STRING, Recipe.IA5_STRING, Recipe.OCTET_STRING.within(0, 1), Recipe.NULL.explicit(1, 1),
            Recipe.sequenceOf(Recipe.INTEGER), Recipe.setOf(Recipe.BOOLEAN), Recipe.choice(Recipe.INTEGER),
            Recipe.choice(Recipe.BOOLEAN).explicit(1, 1), Recipe.sequence(Recipe.INTEGER.mandatory()),
            Recipe.set().implicit(1, 2)}) {
            defaultsDue("another type", type, false, 0, 1);
        }
    }

    private static void defaultsDue(String what, Recipe type, boolean want, long... values) {
        for (int kind : new int[] {16, 17}) {
            for (long value : values) {
                TagCoder x = new TagCoder();
                int number = type.make(x);
                x.open(kind);
                CHECK.due("DEFAULT " + value + " of " + what, x.member(number, 2, value), want);
                CHECK.due("members behind it", x.counts() >> 10, want ? 1 : 0);
            }
        }
    }

    private static void memberRefused() {
        CHECK.sentence("False (changing nothing) when no list is open, there are 6, there is no such type,"
            + " or how is not as said (0 alone for CHOICE).");
        CHECK.idle("member without a list", types(1), x -> x.member(0, 0, 0));
        CHECK.idle("member behind close", made(Recipe.sequence(Recipe.INTEGER.mandatory())), x -> x.member(0, 0, 0));
        for (int kind : new int[] {16, 17, 20}) {
            Consumer<TagCoder> open = types(2).andThen(x -> x.open(kind));
            String of = " of a list of kind " + kind;
            for (int type : new int[] {-1, 2, 3, 15, 16, LEAST, MOST}) {
                CHECK.idle("type " + type + of, open, x -> x.member(type, 0, 0));
            }
            for (int how : new int[] {-1, 3, 4, 256, 257, LEAST, MOST}) {
                CHECK.idle("how " + how + of, open, x -> x.member(0, how, 0));
            }
            Consumer<TagCoder> full = open.andThen(x -> {
                for (int n = 0; n < 6; n++) {
                    CHECK.due("member " + n + of, x.member(0, 0, 0), true);
                }
            });
            CHECK.idle("a seventh" + of, full, x -> x.member(0, 0, 0));
            CHECK.idle("a seventh, OPTIONAL" + of, full, x -> x.member(1, 1, 0));
            CHECK.idle("a seventh, with DEFAULT" + of, full, x -> x.member(1, 2, 0));
        }
        Consumer<TagCoder> choice = types(1).andThen(x -> x.open(20));
        CHECK.idle("an OPTIONAL alternative", choice, x -> x.member(0, 1, 0));
        CHECK.idle("an alternative with DEFAULT", choice, x -> x.member(0, 2, 0));
        refusedMembersStayOut();
    }

    private static void refusedMembersStayOut() {
        TagCoder x = new TagCoder();
        x.basic(2);
        x.basic(1);
        x.open(16);
        x.member(0, 0, 0);
        x.member(1, 3, 0);
        x.member(1, 2, 2);
        x.member(2, 0, 0);
        for (int n = 1; n < 6; n++) {
            x.member(0, 0, 0);
        }
        CHECK.due("a seventh", x.member(1, 0, 0), false);
        CHECK.due("close behind refused members", x.close(), 2);
        String six = "30 12" + "02 01 05".repeat(6);
        Check.feed(x, six);
        CHECK.due("transcode of six INTEGERs", Check.transcoded(x, 2), Check.plain(six));
    }

    private static void closeMakesAType() {
        CHECK.sentence("The open list becomes a new type, and is open no more.");
        for (int kind : new int[] {16, 17, 20}) {
            TagCoder x = new TagCoder();
            x.basic(2);
            x.open(kind);
            x.member(0, 0, 0);
            CHECK.due("close of kind " + kind, x.close(), 1);
            CHECK.due("counts behind it", x.counts(), 2);
            CHECK.due("close again", x.close(), -1);
            CHECK.due("member behind it", x.member(0, 0, 0), false);
            CHECK.due("counts behind those", x.counts(), 2);
            CHECK.due("its tag", x.firstTag(1, 0), kind == 20 ? 2 : kind);
            x.open(kind);
            CHECK.due("a new list is empty", x.counts(), 2 + 32 * kind);
            x.feed(0x020107, 3);
            CHECK.due("the type behind open", Check.transcoded(x, 1),
                kind == 20 ? "020107" : "IllegalArgumentException");
        }
        TagCoder y = new TagCoder();
        types(15).accept(y);
        y.open(17);
        CHECK.due("close behind 15 types", y.close(), 15);
    }

    private static void closeRefused() {
        CHECK.sentence("-1 (then it stays open) when there is none, it breaks the rules, a CHOICE has no alternative,"
            + " or there are 16 types.");
        CHECK.idle("close without a list", types(1), TagCoder::close, -1);
        for (int kind : new int[] {17, 20}) {
            Consumer<TagCoder> twice = types(2).andThen(x -> {
                x.open(kind);
                x.member(0, 0, 0);
                x.member(1, 0, 0);
            });
            CHECK.idle("close of two of a tag, kind " + kind, twice, TagCoder::close, -1);
        }
        Consumer<TagCoder> unclear = types(2).andThen(x -> {
            x.open(16);
            x.member(0, 1, 0);
            x.member(1, 0, 0);
        });
        CHECK.idle("close of an unclear SEQUENCE", unclear, TagCoder::close, -1);
        CHECK.idle("close of an empty CHOICE", x -> x.open(20), TagCoder::close, -1);
        for (int kind : new int[] {16, 17, 20}) {
            Consumer<TagCoder> full = types(16).andThen(x -> {
                x.open(kind);
                x.member(0, 0, 0);
            });
            CHECK.idle("close behind 16 types, kind " + kind, full, TagCoder::close, -1);
        }
        CHECK.allowed("an empty SEQUENCE", Recipe.sequence());
        CHECK.allowed("an empty SET", Recipe.set());
        refusedCloseGoesOn();
    }

    private static void refusedCloseGoesOn() {
        TagCoder x = new TagCoder();
        x.basic(2);
        x.open(20);
        CHECK.due("close of an empty CHOICE", x.close(), -1);
        CHECK.due("an alternative then", x.member(0, 0, 0), true);
        CHECK.due("close then", x.close(), 1);
        CHECK.due("its tag", x.firstTag(1, 0), 2);
    }

    private static void counts() {
        CHECK.sentence("How many types there are, plus 32 times the kind of the open list (0 for none),"
            + " plus 1024 times how many members that has.");
        int[] kinds = {16, 17, 20};
        for (int kind : kinds) {
            TagCoder x = new TagCoder();
            x.open(kind);
            CHECK.due("counts without types", x.counts(), 32 * kind);
            for (int n = 1; n <= 16; n++) {
                x.basic(5);
                CHECK.due("counts of " + n + " types", x.counts(), n + 32 * kind);
            }
            for (int n = 1; n <= 6; n++) {
                x.member(n, 0, 0);
                CHECK.due("counts of " + n + " members", x.counts(), 16 + 32 * kind + 1024 * n);
            }
        }
        TagCoder y = new TagCoder();
        types(16).accept(y);
        CHECK.due("counts of 16 types alone", y.counts(), 16);
    }

    private static void firstTags() {
        CHECK.sentence("The j-th of the first tags of a type, from 0 (alternatives in their order):"
            + " 2^21 times the class, plus the number");
        Recipe inner = Recipe.choice(Recipe.BOOLEAN, Recipe.INTEGER.explicit(2, 1), Recipe.NULL.implicit(3, 2000));
        firstTagsDue("BOOLEAN", Recipe.BOOLEAN, 1);
        firstTagsDue("IA5String", Recipe.IA5_STRING, 22);
        firstTagsDue("class 1, number 0", Recipe.NULL.implicit(1, 0), TAG_CLASS);
        firstTagsDue("class 3, number 2000", Recipe.NULL.explicit(3, 2000), 3 * TAG_CLASS + 2000);
        firstTagsDue("a SEQUENCE", Recipe.sequence(Recipe.NULL.mandatory()), 16);
        firstTagsDue("a SET", Recipe.set(Recipe.NULL.mandatory()), 17);
        firstTagsDue("a CHOICE", inner, 1, 2 * TAG_CLASS + 1, 3 * TAG_CLASS + 2000);
        firstTagsDue("a CHOICE of a CHOICE", Recipe.choice(Recipe.NULL, inner, Recipe.UTF8_STRING),
            5, 1, 2 * TAG_CLASS + 1, 3 * TAG_CLASS + 2000, 12);
        firstTagsDue("an EXPLICIT CHOICE", inner.explicit(1, 7), TAG_CLASS + 7);
        firstTagsDue("a CHOICE of six", Recipe.choice(Recipe.IA5_STRING, Recipe.UTF8_STRING, Recipe.NULL,
            Recipe.OCTET_STRING, Recipe.INTEGER, Recipe.BOOLEAN), 22, 12, 5, 4, 2, 1);
    }

    private static void firstTagsDue(String what, Recipe recipe, int... tags) {
        TagCoder x = new TagCoder();
        int type = recipe.make(x);
        for (int j = 0; j < tags.length; j++) {
            CHECK.due("tag " + j + " of " + what, x.firstTag(type, j), tags[j]);
        }
        CHECK.due("tag behind the last of " + what, x.firstTag(type, tags.length), -1);
    }

    private static void noFirstTag() {
        CHECK.sentence("-1 when there is none.");
        TagCoder x = new TagCoder();
        int choice = Recipe.choice(Recipe.NULL, Recipe.INTEGER).make(x);
        for (int j : new int[] {-1, 2, 3, 6, 16, LEAST, MOST}) {
            CHECK.due("tag " + j + " of a CHOICE of two", x.firstTag(choice, j), -1);
        }
        for (int j : new int[] {-1, 1, 2, LEAST, MOST}) {
            CHECK.due("tag " + j + " of a NULL", x.firstTag(0, j), -1);
        }
        for (int type : new int[] {-1, 3, 15, 16, LEAST, MOST}) {
            CHECK.due("tag 0 of type " + type + " of 3", x.firstTag(type, 0), -1);
        }
        x.open(20);
        x.member(0, 0, 0);
        CHECK.due("tag 0 of a list that is still open", x.firstTag(3, 0), -1);
        TagCoder full = new TagCoder();
        types(16).accept(full);
        CHECK.due("tag 0 of type 15", full.firstTag(15, 0), 2);
        CHECK.due("tag 0 of type 16", full.firstTag(16, 0), -1);
    }
}
