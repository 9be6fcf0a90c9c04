import java.util.HashSet;
import java.util.Locale;
import java.util.Set;
import java.util.function.Consumer;
import java.util.function.Predicate;
import java.util.function.ToLongFunction;

/** What the tests share: a count of wrong answers, and octets as texts of hexadecimal digits. */
final class Check {
    private static final int MOST_TYPES = 16;

    private final String name;
    private String sentence = "";
    private final Set<String> sentences = new HashSet<>();
    private int asked = 0;
    private int askedBefore = -1;
    private int wrong = 0;

    Check(String name) {
        this.name = name;
    }

    /** The document's words that the next answers are about; they stand in what is printed. */
    void sentence(String words) {
        countSilence();
        sentence = " \"" + words + "\"";
        sentences.add(words);
        askedBefore = asked;
    }

    private void countSilence() {
        if (asked == askedBefore) {
            wrong++;
            System.out.println(name + sentence + ": nothing was asked");
        }
    }

    void due(String what, long got, long want) {
        due(what, Long.toString(got), Long.toString(want));
    }

    void due(String what, boolean got, boolean want) {
        due(what, Boolean.toString(got), Boolean.toString(want));
    }

    void due(String what, String got, String want) {
        asked++;
        if (!got.equals(want)) {
            wrong++;
            System.out.println(name + sentence + ": " + what + " answered " + got + ", due is " + want);
        }
    }

    /** Octets that encode a value of a type: their strict form is the result, and they stay. */
    void taken(Recipe recipe, String octets, String want) {
        TagCoder x = new TagCoder();
        int type = recipe.make(x);
        feed(x, octets);
        due("transcode of " + octets, transcoded(x, type), plain(want));
        due("octets behind " + octets, octets(x), plain(octets));
    }

    /** Octets that are in the strict form already. */
    void kept(Recipe recipe, String octets) {
        taken(recipe, octets, octets);
    }

    /** Octets that are no encoding: refused, and all stays as it was, an earlier result, too. */
    void refused(Recipe recipe, String octets) {
        TagCoder x = new TagCoder();
        feed(x, "05 00");
        due("a first result", transcoded(x, x.basic(5)), "0500");
        x.clear();
        int type = recipe.make(x);
        int counts = x.counts();
        feed(x, octets);
        due("transcode of " + octets, transcoded(x, type), "IllegalArgumentException");
        due("result behind " + octets, result(x), "0500");
        due("octets behind " + octets, octets(x), plain(octets));
        due("counts behind " + octets, x.counts(), counts);
    }

    /** A type that can be made. */
    void allowed(String what, Recipe recipe) {
        due(what, recipe.make(new TagCoder()) >= 0, true);
    }

    /** A type that can't. */
    void forbidden(String what, Recipe recipe) {
        due(what, recipe.make(new TagCoder()), -1);
    }

    /** A refused call on a new object that has been made ready: its answer, and that all stays as it was. */
    void idle(String what, Consumer<TagCoder> ready, ToLongFunction<TagCoder> call, long want) {
        TagCoder x = new TagCoder();
        ready.accept(x);
        String before = state(x);
        due(what, call.applyAsLong(x), want);
        due("state behind " + what, state(x), before);
    }

    /** A refused call that answers true or false. */
    void idle(String what, Consumer<TagCoder> ready, Predicate<TagCoder> call) {
        idle(what, ready, x -> call.test(x) ? 1 : 0, 0);
    }

    /** All that can be asked for, in far fewer than 512 calls when there are few octets. */
    static String state(TagCoder x) {
        StringBuilder told = new StringBuilder("counts " + x.counts());
        told.append(" octets ").append(octets(x)).append(" result ").append(result(x)).append(" tags");
        for (int type = 0; type < MOST_TYPES; type++) {
            int tag = x.firstTag(type, 0);
            for (int j = 1; tag >= 0; j++) {
                told.append(' ').append(tag);
                tag = x.firstTag(type, j);
            }
            told.append(';');
        }
        return told.toString();
    }

    static String transcoded(TagCoder x, int type) {
        try {
            int size = x.transcode(type);
            String result = result(x);
            return size * 2 == result.length() ? result : "size " + size + " for " + result;
        } catch (IllegalArgumentException | IndexOutOfBoundsException e) {
            return e.getClass().getSimpleName();
        }
    }

    static void feed(TagCoder x, String octets) {
        String digits = plain(octets);
        for (int k = 0; k < digits.length(); k += 16) {
            int end = Math.min(digits.length(), k + 16);
            x.feed(Long.parseUnsignedLong(digits.substring(k, end), 16), (end - k) / 2);
        }
    }

    static String result(TagCoder x) {
        StringBuilder digits = new StringBuilder();
        int size = x.result(-1);
        for (int k = 0; k < size; k++) {
            digits.append(String.format("%02x", x.result(k)));
        }
        return digits.toString();
    }

    static String octets(TagCoder x) {
        StringBuilder digits = new StringBuilder();
        int size = x.octet(-1);
        for (int k = 0; k < size; k++) {
            digits.append(String.format("%02x", x.octet(k)));
        }
        return digits.toString();
    }

    static String plain(String octets) {
        return octets.replace(" ", "").toLowerCase(Locale.ROOT);
    }

    void finish() {
        countSilence();
        String about = sentences.isEmpty() ? "" : " about " + sentences.size() + " sentences";
        System.out.println(name + ": " + wrong + " of " + asked + " answers" + about + " are wrong");
        if (wrong != 0 || asked == 0) {
            System.exit(1);
        }
    }
}
