import java.util.Random;

/** All promises: chance calls, the same ones each time, answered by the program and by the model. */
public final class ModelTest {
    private static final int RUNS = 3000;
    private static final int MOST_CALLS = 512;
    private static final int MOST_MAKING_CALLS = 200;
    private static final int[] KINDS = {1, 2, 3, 4, 5, 6, 12, 22, 2, 4, 0, 16};
    private static final Check CHECK = new Check("ModelTest");

    private final Random chance;
    private final Loose loose;
    private final TagCoder coder = new TagCoder();
    private final Model model = new Model();
    private final StringBuilder told = new StringBuilder();
    private int calls = 0;

    // How many encodings were taken and refused: a test that only refuses would show nothing.
    private static int taken = 0;
    private static int refused = 0;

    private ModelTest(int run) {
        chance = new Random(run);
        loose = new Loose(chance);
        told.append("run ").append(run).append(':');
    }

    public static void main(String[] args) {
        int runs = args.length > 0 ? Integer.parseInt(args[0]) : RUNS;
        for (int run = 0; run < runs; run++) {
            new ModelTest(run).go();
        }
        System.out.println("ModelTest: " + taken + " encodings taken, " + refused + " refused");
        CHECK.due("enough encodings taken", taken > 4 * runs, true);
        CHECK.due("enough encodings refused", refused > runs, true);
        CHECK.finish();
    }

    private void go() {
        for (int n = 4 + chance.nextInt(40); n > 0 && calls < MOST_MAKING_CALLS; n--) {
            makeSomething();
            same("counts", coder.counts(), model.counts());
        }
        for (int type = -1; type <= model.types.size(); type++) {
            int tag = 0;
            for (int j = -1; j < 1 || tag >= 0; j++) {
                tag = model.firstTag(type, j);
                same("firstTag(" + type + ", " + j + ")", coder.firstTag(type, j), tag);
            }
        }
        for (int n = 0; n < 12; n++) {
            transcodeSomething();
        }
    }

    private void same(String call, long got, long want) {
        calls++;
        CHECK.due(told + " " + call, got, want);
        told.append(' ').append(call);
    }

    private int someType() {
        return chance.nextInt(model.types.size() + 2) - (chance.nextInt(10) == 0 ? 1 : 0);
    }

    private void makeSomething() {
        int type = someType();
        switch (chance.nextInt(8)) {
            case 0:
                int kind = KINDS[chance.nextInt(KINDS.length)];
                same("basic(" + kind + ")", coder.basic(kind), model.basic(kind));
                break;
            case 1:
                long low = chance.nextInt(6) - 2;
                long high = low + chance.nextInt(5) - 1;
                same("bounded(" + type + ", " + low + ", " + high + ")",
                    coder.bounded(type, low, high), model.bounded(type, low, high));
                break;
            case 2:
            case 3:
                tagSomething(type);
                break;
            case 4:
                int of = 15 + chance.nextInt(4);
                same("list(" + of + ", " + type + ")", coder.list(of, type), model.list(of, type));
                break;
            default:
                putTogether();
                break;
        }
    }

    private void tagSomething(int type) {
        int[] numbers = {0, 1, 2, 30, 31, 127, 128, 2000, 2001, -1};
        int tagClass = chance.nextInt(10) == 0 ? chance.nextInt(6) - 1 : 1 + chance.nextInt(3);
        int number = numbers[chance.nextInt(numbers.length)];
        boolean explicit = chance.nextBoolean();
        same("tagged(" + tagClass + ", " + number + ", " + explicit + ", " + type + ")",
            coder.tagged(tagClass, number, explicit, type), model.tagged(tagClass, number, explicit, type));
    }

    private void putTogether() {
        if (chance.nextInt(10) > 0) {
            int kind = new int[] {16, 17, 20, 16, 17, 18}[chance.nextInt(6)];
            same("open(" + kind + ")", coder.open(kind) ? 1 : 0, model.open(kind) ? 1 : 0);
        }
        for (int n = chance.nextInt(8); n > 0; n--) {
            int type = someType();
            int how = chance.nextInt(4) == 0 ? chance.nextInt(5) - 1 : chance.nextInt(3);
            long value = chance.nextInt(4) - 1;
            same("member(" + type + ", " + how + ", " + value + ")",
                coder.member(type, how, value) ? 1 : 0, model.member(type, how, value) ? 1 : 0);
        }
        same("close", coder.close(), model.close());
    }

    private void transcodeSomething() {
        if (model.types.isEmpty()) {
            return;
        }
        int type = chance.nextInt(model.types.size());
        byte[] octets = loose.encoding(model.types.get(type));
        if (chance.nextInt(4) == 0) {
            octets = spoilt(octets);
        }
        // A feed an octet, as many octets in the result, and some calls beside them, at the most.
        if (octets.length > 200 || calls + 2 * octets.length + 5 > MOST_CALLS) {
            return;
        }
        coder.clear();
        model.clear();
        feedInParts(octets);
        String want = modelTranscoded(type);
        String call = "transcode(" + type + ")";
        CHECK.due(told + " " + call, Check.transcoded(coder, type), want);
        calls += 3 + want.length() / 2;
        told.append(' ').append(call);
        if (want.startsWith("Illegal")) {
            refused++;
        } else {
            taken++;
        }
        same("result(-1)", coder.result(-1), model.result(-1));
        same("octet(-1)", coder.octet(-1), model.octet(-1));
    }

    private void feedInParts(byte[] octets) {
        int fed = 0;
        while (fed < octets.length) {
            int n = 1 + chance.nextInt(Math.min(8, octets.length - fed));
            long some = chance.nextLong();
            for (int k = 0; k < n; k++) {
                some = some << 8 | octets[fed + k] & 255;
            }
            long part = some;
            same("feed(" + part + ", " + n + ")", coder.feed(part, n) ? 1 : 0, model.feed(part, n) ? 1 : 0);
            fed += n;
        }
    }

    private byte[] spoilt(byte[] octets) {
        byte[] other = octets.clone();
        int k = chance.nextInt(other.length);
        switch (chance.nextInt(3)) {
            case 0:
                other[k] ^= (byte) (1 << chance.nextInt(8));
                return other;
            case 1:
                other[k] = (byte) new int[] {0, 1, 127, 128, 129, 255}[chance.nextInt(6)];
                return other;
            default:
                return java.util.Arrays.copyOf(other, Math.max(1, other.length + chance.nextInt(3) - 1));
        }
    }

    private String modelTranscoded(int type) {
        try {
            model.transcode(type);
        } catch (IllegalArgumentException e) {
            return "IllegalArgumentException";
        }
        StringBuilder digits = new StringBuilder();
        for (int k = 0; k < model.result(-1); k++) {
            digits.append(String.format("%02x", model.result(k)));
        }
        return digits.toString();
    }
}
