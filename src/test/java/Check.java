import java.util.Locale;

/** What the tests share: a count of wrong answers, and octets as texts of hexadecimal digits. */
final class Check {
    private final String name;
    private int asked = 0;
    private int wrong = 0;

    Check(String name) {
        this.name = name;
    }

    void due(String what, long got, long want) {
        due(what, Long.toString(got), Long.toString(want));
    }

    void due(String what, boolean got, boolean want) {
        due(what, Boolean.toString(got), Boolean.toString(want));
    }

    void due(String what, String got, String want) {
        asked++;
        if (!got.equals(want)) {
            wrong++;
            System.out.println(name + ": " + what + " answered " + got + ", due is " + want);
        }
    }

    /** Transcodes octets on their own and looks at all of the result. */
    void strict(TagCoder coder, int type, String octets, String want) {
        coder.clear();
        feed(coder, octets);
        due("transcode(" + type + ") of " + octets, transcoded(coder, type), plain(want));
    }

    /** Octets that are no encoding: refused, with octets and result left alone. */
    void refused(TagCoder coder, int type, String octets) {
        coder.clear();
        feed(coder, octets);
        String before = result(coder);
        due("transcode(" + type + ") of " + octets, transcoded(coder, type), "IllegalArgumentException");
        due("result behind " + octets, result(coder), before);
        due("octets behind " + octets, octets(coder), plain(octets));
    }

    static String transcoded(TagCoder coder, int type) {
        try {
            int size = coder.transcode(type);
            String result = result(coder);
            return size * 2 == result.length() ? result : "size " + size + " for " + result;
        } catch (IllegalArgumentException | IndexOutOfBoundsException e) {
            return e.getClass().getSimpleName();
        }
    }

    static void feed(TagCoder coder, String octets) {
        String digits = plain(octets);
        for (int k = 0; k < digits.length(); k += 16) {
            int end = Math.min(digits.length(), k + 16);
            coder.feed(Long.parseUnsignedLong(digits.substring(k, end), 16), (end - k) / 2);
        }
    }

    static String result(TagCoder coder) {
        StringBuilder digits = new StringBuilder();
        for (int k = 0; k < coder.result(-1); k++) {
            digits.append(String.format("%02x", coder.result(k)));
        }
        return digits.toString();
    }

    static String octets(TagCoder coder) {
        StringBuilder digits = new StringBuilder();
        for (int k = 0; k < coder.octet(-1); k++) {
            digits.append(String.format("%02x", coder.octet(k)));
        }
        return digits.toString();
    }

    static String plain(String octets) {
        return octets.replace(" ", "").toLowerCase(Locale.ROOT);
    }

    void finish() {
        System.out.println(name + ": " + wrong + " of " + asked + " answers are wrong");
        if (wrong != 0 || asked == 0) {
            System.exit(1);
        }
    }
}
