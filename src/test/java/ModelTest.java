import java.util.Random;

/** Long runs of calls, drawn from fixed seeds, on the program and on the model of it. */
public final class ModelTest {
    private static final String[] NAMES = {"a", "b", "aa", "ab", "te", "pl", "id", "gz", "zzzz"};
    private static final String NEAR = "abiz/-*;, 0159\u0000\u007fA{`:";
    private static final int RUNS = 250;
    private static final int CALLS = 512;

    private final Random random;
    private final RatherDesk desk = new RatherDesk();
    private final Model model = new Model();
    private final StringBuilder trail = new StringBuilder();
    private int calls = 0;
    // One less than all at first: the last call is for the digest.
    private int limit = CALLS - 1;

    private ModelTest(long seed) {
        random = new Random(seed);
    }

    private int pick(int bound) {
        return random.nextInt(bound);
    }

    private String name() {
        return NAMES[pick(pick(3) == 0 ? NAMES.length : 3)];
    }

    private String spaces() {
        return pick(8) == 0 ? " ".repeat(1 + pick(2)) : "";
    }

    private String typeText(boolean range) {
        int kind = range ? pick(4) : 3;
        return kind == 0 ? "*/*" : kind == 1 ? name() + "/*" : name() + "/" + name();
    }

    private String languageText(boolean range) {
        if (range && pick(4) == 0) {
            return "*";
        }
        int kind = pick(5);
        String first = name();
        return kind < 2 ? first : kind < 4 ? first + "-" + name()
                : first + "-" + name() + "-" + name();
    }

    private String codingText(boolean range) {
        return range && pick(3) == 0 ? "*" : pick(2) == 0 ? "id" : name();
    }

    private String weightText() {
        switch (pick(8)) {
            case 0: return "";
            case 1: return spaces() + ";" + spaces() + "0";
            case 2: return ";1000";
            case 3: return ";" + (995 + pick(10));
            case 4: return ";" + pick(12);
            case 5: return ";0" + pick(1000);
            default: return ";" + (800 + pick(201));
        }
    }

    private String listText(int list) {
        StringBuilder told = new StringBuilder(spaces());
        int entries = pick(40) == 0 ? 9 + pick(4) : pick(6);
        for (int entry = 0; entry < entries; entry++) {
            String range = list == 0 ? typeText(true) : list == 1 ? languageText(true)
                    : codingText(true);
            told.append(entry > 0 ? "," : "").append(spaces()).append(range).append(weightText())
                    .append(spaces());
        }
        return told.toString();
    }

    private String variantText() {
        String space = pick(9) == 0 ? "  " : " ";
        int size = pick(6) == 0 ? pick(1000000) : pick(4);
        return spaces() + typeText(false) + space + languageText(false) + " " + codingText(false)
                + space + (pick(9) == 0 ? "0" : "") + size + spaces();
    }

    /** Now and then a byte is put in, left out, or another one. */
    private String spoilt(String text) {
        if (pick(5) > 0) {
            return text;
        }
        int at = pick(text.length() + 1);
        String put = pick(3) == 0 ? "" : "" + NEAR.charAt(pick(NEAR.length()));
        int behind = Math.min(text.length(), at + pick(2));
        return pick(6) == 0 ? text.substring(0, at) : text.substring(0, at) + put
                + text.substring(behind);
    }

    private interface Call {
        long answer();
    }

    private static String outcome(Call call) {
        try {
            return Long.toString(call.answer());
        } catch (RuntimeException thrown) {
            return thrown.getClass().getSimpleName();
        }
    }

    private void both(String call, Call got, Call want) {
        if (calls >= limit) {
            return;
        }
        calls++;
        trail.append(call).append('\n');
        String due = outcome(want);
        String answered = outcome(got);
        if (!due.equals(answered)) {
            throw new AssertionError(trail + "answered " + answered + ", due is " + due);
        }
    }

    private void text(String text) {
        both("clearText()", () -> desk.clearText(), () -> model.clearText());
        for (char letter : text.toCharArray()) {
            both("type " + letter, () -> desk.type(letter), () -> model.type(letter));
        }
    }

    private void typing() {
        int value = pick(140) - 5;
        both("type " + value, () -> desk.type(value), () -> model.type(value));
    }

    private void listing() {
        int side = side();
        int list = list();
        text(spoilt(listText(list < 0 || list > 2 ? 0 : list)));
        both("listFault " + list, () -> desk.listFault(list), () -> model.listFault(list));
        int other = pick(3);
        both("listFault " + other, () -> desk.listFault(other), () -> model.listFault(other));
        both("takeList " + side + " " + list, () -> desk.takeList(side, list),
                () -> model.takeList(side, list));
    }

    private void adding() {
        text(spoilt(variantText()));
        both("variantFault", () -> desk.variantFault(), () -> model.variantFault());
        both("addVariant", () -> desk.addVariant(), () -> model.addVariant());
    }

    private int near(int bound) {
        return pick(12) == 0 ? pick(2) * (bound + 1) - 1 : pick(Math.max(1, bound));
    }

    private int side() {
        return pick(15) == 0 ? near(2) : pick(2);
    }

    private int list() {
        return pick(15) == 0 ? near(3) : pick(3);
    }

    private int variant() {
        return near((int) model.whole(0));
    }

    private int place() {
        return near(1 + pick(5));
    }

    private int thousandth() {
        int kind = pick(5);
        return kind == 0 ? near(1001) : kind == 1 ? pick(5) : 900 + pick(101);
    }

    private void change() {
        int side = side();
        int list = list();
        int entry = place();
        int variant = variant();
        int value = thousandth();
        switch (pick(9)) {
            case 0:
                both("removeVariant " + variant, () -> desk.removeVariant(variant),
                        () -> model.removeVariant(variant));
                break;
            case 1:
            case 2:
                both("setQuality " + variant + " " + value, () -> desk.setQuality(variant, value),
                        () -> model.setQuality(variant, value));
                break;
            case 3:
                int size = pick(3) == 0 ? near(1000000) : pick(3);
                both("setSize " + variant + " " + size, () -> desk.setSize(variant, size),
                        () -> model.setSize(variant, size));
                break;
            case 4:
            case 5:
                both("setWeight " + side + " " + list + " " + entry + " " + value,
                        () -> desk.setWeight(side, list, entry, value),
                        () -> model.setWeight(side, list, entry, value));
                break;
            case 6:
                both("removeEntry " + side + " " + list + " " + entry,
                        () -> desk.removeEntry(side, list, entry),
                        () -> model.removeEntry(side, list, entry));
                break;
            case 7:
                both("swapSides", () -> desk.swapSides(), () -> model.swapSides());
                break;
            default:
                int first = near(6);
                int second = near(6);
                int third = near(6);
                both("setTies " + first + " " + second + " " + third,
                        () -> desk.setTies(first, second, third),
                        () -> model.setTies(first, second, third));
        }
    }

    private void value() {
        int side = side();
        int list = list();
        int entry = place();
        int variant = variant();
        int what = near(7);
        switch (pick(8)) {
            case 0:
                both("variant " + variant + " " + what, () -> desk.variant(variant, what),
                        () -> model.variant(variant, what));
                break;
            case 1:
                both("weight " + side + " " + list + " " + variant,
                        () -> desk.weight(side, list, variant),
                        () -> model.weight(side, list, variant));
                break;
            case 2:
                both("counting " + side + " " + list + " " + variant,
                        () -> desk.counting(side, list, variant),
                        () -> model.counting(side, list, variant));
                break;
            case 3:
                int part = near(4);
                both("entry " + side + " " + list + " " + entry + " " + part,
                        () -> desk.entry(side, list, entry, part),
                        () -> model.entry(side, list, entry, part));
                break;
            case 4:
                both("ranked " + variant, () -> desk.ranked(variant), () -> model.ranked(variant));
                break;
            case 5:
                int all = near(11);
                both("whole " + all, () -> desk.whole(all), () -> model.whole(all));
                break;
            case 6:
                both("listed " + variant, () -> desk.listed(variant), () -> model.listed(variant));
                break;
            default:
                int index = near(200);
                both("listingByte " + index, () -> desk.listingByte(index),
                        () -> model.listingByte(index));
        }
    }

    private void question() {
        int side = side();
        int list = list();
        int entry = place();
        int variant = variant();
        switch (pick(5)) {
            case 0:
                both("servedFor " + side, () -> desk.servedFor(side), () -> model.servedFor(side));
                break;
            case 1:
                both("servedWithout " + variant, () -> desk.servedWithout(variant),
                        () -> model.servedWithout(variant));
                break;
            case 2:
                both("leastWeight " + side + " " + list + " " + entry + " " + variant,
                        () -> desk.leastWeight(side, list, entry, variant),
                        () -> model.leastWeight(side, list, entry, variant));
                break;
            case 3:
                both("leastQuality " + variant, () -> desk.leastQuality(variant),
                        () -> model.leastQuality(variant));
                break;
            default:
                both("agree", () -> desk.agree() ? 1 : 0, () -> model.agree());
        }
    }

    private void step() {
        int kind = pick(40);
        if (kind < 2 || calls < 60 && kind < 25) {
            adding();
        } else if (kind < 4) {
            listing();
        } else if (kind < 5) {
            typing();
        } else if (kind < 15) {
            change();
        } else if (kind < 28) {
            value();
        } else if (kind < 34) {
            question();
        } else if (kind < 37) {
            both("undo", () -> desk.undo(), () -> model.undo());
        } else {
            both("digest", () -> desk.digest(), () -> model.digest());
        }
    }

    private void run() {
        while (calls < limit) {
            step();
        }
        limit = CALLS;
        both("digest", () -> desk.digest(), () -> model.digest());
    }

    public static void main(String[] args) {
        int runs = args.length > 0 ? Integer.parseInt(args[0]) : RUNS;
        for (int run = 0; run < runs; run++) {
            new ModelTest(12856 + run).run();
        }
        System.out.println(runs + " runs as the model has them");
    }
}
