import java.util.ArrayDeque;
import java.util.ArrayList;
import java.util.Comparator;
import java.util.Deque;
import java.util.List;
import java.util.regex.Matcher;
import java.util.regex.Pattern;

/** The document written a second time, in the plainest way that the Java library allows. */
final class Model {
    private static final String NAME = "[a-z]{1,4}";
    private static final String TYPE = NAME + "/" + NAME;
    private static final String LANGUAGE = NAME + "(?:-" + NAME + "){0,2}";
    private static final String[] RANGES = {
        "(?:" + TYPE + "|" + NAME + "/\\*|\\*/\\*)", "(?:" + LANGUAGE + "|\\*)",
        "(?:" + NAME + "|\\*)",
    };
    private static final Pattern VARIANT = Pattern.compile(" *(" + TYPE + ") +(" + LANGUAGE
            + ") +(" + NAME + ") +([0-9]{1,6}) *");

    private record Variant(String type, String language, String coding, int size, int quality) {
        String key(int list) {
            return list == 0 ? type : list == 1 ? language : coding;
        }

        boolean isTwin(Variant other) {
            return type.equals(other.type) && language.equals(other.language)
                    && coding.equals(other.coding);
        }
    }

    private record Entry(String range, int weight) {
        int names() {
            return (int) java.util.Arrays.stream(range.split("[/-]"))
                    .filter(name -> !name.equals("*")).count();
        }

        boolean matches(int list, String key) {
            if (range.startsWith("*")) {
                return true;
            }
            if (list == 0 && range.endsWith("/*")) {
                return key.startsWith(range.substring(0, range.length() - 1));
            }
            return key.equals(range) || list == 1 && key.startsWith(range + "-");
        }
    }

    private record State(List<Variant> variants, List<List<Entry>> lists, List<Integer> ties) {
        State copy() {
            List<List<Entry>> copies = new ArrayList<>();
            for (List<Entry> list : lists) {
                copies.add(new ArrayList<>(list));
            }
            return new State(new ArrayList<>(variants), copies, new ArrayList<>(ties));
        }
    }

    private State state = new State(new ArrayList<>(), new ArrayList<>(),
            new ArrayList<>(List.of(1, 0, 0)));
    private final Deque<State> saved = new ArrayDeque<>();
    private String text = "";

    Model() {
        for (int slot = 0; slot < 6; slot++) {
            state.lists.add(new ArrayList<>());
        }
    }

    private void save() {
        saved.push(state.copy());
        if (saved.size() > 4) {
            saved.removeLast();
        }
    }

    private static void inBounds(boolean there) {
        if (!there) {
            throw new IndexOutOfBoundsException();
        }
    }

    private static void inRange(int value, int least, int most) {
        if (value < least || value > most) {
            throw new IllegalArgumentException();
        }
    }

    private void isList(int side, int list) {
        inBounds(side == 0 || side == 1);
        inBounds(list >= 0 && list <= 2);
    }

    private void isVariant(int variant) {
        inBounds(variant >= 0 && variant < state.variants.size());
    }

    private List<Entry> list(int side, int list) {
        return state.lists.get(3 * side + list);
    }

    private void isEntry(int side, int list, int entry) {
        isList(side, list);
        inBounds(entry >= 0 && entry < list(side, list).size());
    }

    // ---- texts

    long type(int value) {
        inRange(value, 0, 127);
        if (text.length() == 120) {
            throw new IllegalStateException();
        }
        text += (char) value;
        return text.length();
    }

    long clearText() {
        int length = text.length();
        text = "";
        return length;
    }

    /** The first byte with which no valid text can begin that has the bytes ahead of it. */
    private int grammarFault(Pattern pattern) {
        Matcher whole = pattern.matcher(text);
        if (whole.matches()) {
            return -1;
        }
        for (int end = 0; end <= text.length(); end++) {
            Matcher start = pattern.matcher(text.substring(0, end));
            if (!start.matches() && !start.hitEnd()) {
                return end - 1;
            }
        }
        return text.length();
    }

    long listFault(int list) {
        isList(0, list);
        return fault(list);
    }

    private int fault(int list) {
        String entry = RANGES[list] + "(?: *; *[0-9]{1,4})?";
        int fault = grammarFault(Pattern.compile(" *(?:" + entry + " *(?:, *" + entry + " *)*)?"));
        int end = fault < 0 ? text.length() : fault;
        int comma = -1;
        for (int behind = 0; behind < 10 && comma < end; behind++) {
            int next = text.indexOf(',', comma + 1);
            comma = next < 0 ? end : next;
        }
        if (comma < end) {
            int eleventh = comma + 1;
            while (eleventh < text.length() && text.charAt(eleventh) == ' ') {
                eleventh++;
            }
            fault = eleventh < text.length() ? eleventh : text.length();
        }
        Matcher weights = Pattern.compile("; *([0-9]{4})(?![0-9])").matcher(text);
        while (weights.find()) {
            boolean first = fault < 0 || weights.start(1) < fault;
            if (first && Integer.parseInt(weights.group(1)) > 1000) {
                return weights.start(1);
            }
        }
        return fault;
    }

    long variantFault() {
        return grammarFault(VARIANT);
    }

    long takeList(int side, int list) {
        isList(side, list);
        int fault = fault(list);
        if (fault >= 0) {
            return -10 - fault;
        }
        save();
        List<Entry> entries = list(side, list);
        entries.clear();
        for (String part : text.replace(" ", "").split(",")) {
            if (!part.isEmpty()) {
                String[] halves = part.split(";");
                entries.add(new Entry(halves[0],
                        halves.length > 1 ? Integer.parseInt(halves[1]) : 1000));
            }
        }
        return entries.size();
    }

    long addVariant() {
        int fault = grammarFault(VARIANT);
        if (fault >= 0) {
            return -10 - fault;
        }
        String[] parts = text.trim().split(" +");
        Variant added = new Variant(parts[0], parts[1], parts[2], Integer.parseInt(parts[3]), 1000);
        if (state.variants.size() == 16 || state.variants.stream().anyMatch(added::isTwin)) {
            throw new IllegalStateException();
        }
        save();
        state.variants.add(added);
        return state.variants.size() - 1;
    }

    // ---- changes

    long removeVariant(int variant) {
        isVariant(variant);
        save();
        state.variants.remove(variant);
        return state.variants.size();
    }

    private void put(int number, int size, int quality) {
        Variant old = state.variants.get(number);
        state.variants.set(number, new Variant(old.type, old.language, old.coding, size, quality));
    }

    long setQuality(int variant, int quality) {
        isVariant(variant);
        inRange(quality, 0, 1000);
        save();
        Variant old = state.variants.get(variant);
        put(variant, old.size, quality);
        return old.quality;
    }

    long setSize(int variant, int size) {
        isVariant(variant);
        inRange(size, 0, 999999);
        save();
        Variant old = state.variants.get(variant);
        put(variant, size, old.quality);
        return old.size;
    }

    long setWeight(int side, int list, int entry, int weight) {
        isEntry(side, list, entry);
        inRange(weight, 0, 1000);
        save();
        return putWeight(side, list, entry, weight);
    }

    private int putWeight(int side, int list, int entry, int weight) {
        Entry old = list(side, list).get(entry);
        list(side, list).set(entry, new Entry(old.range, weight));
        return old.weight;
    }

    long removeEntry(int side, int list, int entry) {
        isEntry(side, list, entry);
        save();
        list(side, list).remove(entry);
        return list(side, list).size();
    }

    long swapSides() {
        save();
        for (int list = 0; list < 3; list++) {
            List<Entry> first = state.lists.get(list);
            state.lists.set(list, state.lists.get(3 + list));
            state.lists.set(3 + list, first);
        }
        return entries(0);
    }

    private int entries(int side) {
        return list(side, 0).size() + list(side, 1).size() + list(side, 2).size();
    }

    long setTies(int first, int second, int third) {
        inRange(first, 0, 5);
        inRange(second, 0, 5);
        inRange(third, 0, 5);
        save();
        int old = 100 * state.ties.get(0) + 10 * state.ties.get(1) + state.ties.get(2);
        state.ties.set(0, first);
        state.ties.set(1, second);
        state.ties.set(2, third);
        return old;
    }

    // ---- values

    private int place(int slot, int number) {
        Variant variant = state.variants.get(number);
        List<Entry> entries = state.lists.get(slot);
        int best = -1;
        for (int place = 0; place < entries.size(); place++) {
            Entry entry = entries.get(place);
            if (entry.matches(slot % 3, variant.key(slot % 3))
                    && (best < 0 || entry.names() > entries.get(best).names())) {
                best = place;
            }
        }
        return best;
    }

    private int weightOf(int slot, int number) {
        int place = place(slot, number);
        if (place >= 0) {
            return state.lists.get(slot).get(place).weight;
        }
        boolean free = state.lists.get(slot).isEmpty()
                || slot % 3 == 2 && state.variants.get(number).coding.equals("id");
        return free ? 1000 : 0;
    }

    private int score(int number) {
        int score = state.variants.get(number).quality;
        for (int slot = 0; slot < 6; slot++) {
            score = Math.floorDiv(score * weightOf(slot, number), 1000);
        }
        return score;
    }

    private int reason(int number) {
        if (score(number) > 0) {
            return 0;
        }
        for (int slot = 0; slot < 6; slot++) {
            if (weightOf(slot, number) == 0) {
                return 1 + slot;
            }
        }
        return state.variants.get(number).quality == 0 ? 7 : 8;
    }

    private int tie(int rule, int number) {
        Variant variant = state.variants.get(number);
        int place = rule == 3 || rule == 4 ? place(rule - 3, number) : 0;
        switch (rule) {
            case 1: return variant.size;
            case 2: return -variant.size;
            case 3:
            case 4: return place < 0 ? 100 : place;
            case 5: return -variant.quality;
            default: return 0;
        }
    }

    private List<Integer> ranking() {
        Comparator<Integer> order = Comparator.comparingInt(number -> -score(number));
        for (int rule : state.ties) {
            order = order.thenComparingInt(number -> tie(rule, number));
        }
        List<Integer> ranking = new ArrayList<>();
        for (int number = 0; number < state.variants.size(); number++) {
            if (score(number) > 0) {
                ranking.add(number);
            }
        }
        ranking.sort(order);
        return ranking;
    }

    private int served() {
        List<Integer> ranking = ranking();
        return ranking.isEmpty() ? -1 : ranking.get(0);
    }

    private List<Integer> listing() {
        List<Integer> listing = new ArrayList<>();
        for (int number = 0; number < state.variants.size(); number++) {
            listing.add(number);
        }
        listing.sort(Comparator.comparing((Integer number) -> state.variants.get(number).type)
                .thenComparing(number -> state.variants.get(number).language)
                .thenComparing(number -> state.variants.get(number).coding));
        return listing;
    }

    private String written() {
        List<String> parts = new ArrayList<>();
        for (int number : listing()) {
            Variant variant = state.variants.get(number);
            parts.add(variant.type + " " + variant.language + " " + variant.coding + " "
                    + variant.size);
        }
        return String.join(", ", parts);
    }

    long variant(int variant, int what) {
        isVariant(variant);
        inRange(what, 0, 6);
        Variant told = state.variants.get(variant);
        int[] values = {told.size, told.quality, score(variant), reason(variant),
            ranking().indexOf(variant), listing().indexOf(variant),
            told.language.split("-").length};
        return values[what];
    }

    long weight(int side, int list, int variant) {
        isList(side, list);
        isVariant(variant);
        return weightOf(3 * side + list, variant);
    }

    long counting(int side, int list, int variant) {
        isList(side, list);
        isVariant(variant);
        return place(3 * side + list, variant);
    }

    long entry(int side, int list, int entry, int what) {
        isEntry(side, list, entry);
        inRange(what, 0, 3);
        Entry told = list(side, list).get(entry);
        int matched = 0;
        int counted = 0;
        for (int number = 0; number < state.variants.size(); number++) {
            matched += told.matches(list, state.variants.get(number).key(list)) ? 1 : 0;
            counted += place(3 * side + list, number) == entry ? 1 : 0;
        }
        return new int[] {told.weight, told.names(), matched, counted}[what];
    }

    long ranked(int place) {
        inRange(place, 0, Integer.MAX_VALUE);
        List<Integer> ranking = ranking();
        return place < ranking.size() ? ranking.get(place) : -1;
    }

    long whole(int what) {
        inRange(what, 0, 10);
        int served = served();
        int[] values = {state.variants.size(), ranking().size(), served,
            served < 0 ? 0 : score(served), entries(0), entries(1), text.length(),
            state.ties.get(0), state.ties.get(1), state.ties.get(2), written().length()};
        return values[what];
    }

    long listed(int place) {
        inRange(place, 0, Integer.MAX_VALUE);
        List<Integer> listing = listing();
        return place < listing.size() ? listing.get(place) : -1;
    }

    long listingByte(int index) {
        inRange(index, 0, Integer.MAX_VALUE);
        String written = written();
        return index < written.length() ? written.charAt(index) : -1;
    }

    // ---- what if

    long servedFor(int side) {
        inBounds(side == 0 || side == 1);
        State before = state;
        state = state.copy();
        for (int list = 0; list < 3; list++) {
            list(1 - side, list).clear();
        }
        int served = served();
        state = before;
        return served;
    }

    long servedWithout(int variant) {
        isVariant(variant);
        State before = state;
        state = state.copy();
        state.variants.remove(variant);
        int served = served();
        state = before;
        return served >= variant ? served + 1 : served;
    }

    long leastWeight(int side, int list, int entry, int variant) {
        isEntry(side, list, entry);
        isVariant(variant);
        State before = state;
        state = state.copy();
        int least = -1;
        for (int weight = 0; weight <= 1000 && least < 0; weight++) {
            putWeight(side, list, entry, weight);
            least = served() == variant ? weight : -1;
        }
        state = before;
        return least;
    }

    long leastQuality(int variant) {
        isVariant(variant);
        State before = state;
        state = state.copy();
        int least = -1;
        for (int quality = 0; quality <= 1000 && least < 0; quality++) {
            put(variant, state.variants.get(variant).size, quality);
            least = served() == variant ? quality : -1;
        }
        state = before;
        return least;
    }

    long agree() {
        return servedFor(0) == servedFor(1) ? 1 : 0;
    }

    // ---- undo and checksum

    long undo() {
        if (saved.isEmpty()) {
            throw new IllegalStateException();
        }
        state = saved.pop();
        return saved.size();
    }

    long digest() {
        List<Long> values = new ArrayList<>();
        values.add((long) saved.size());
        for (int what = 0; what <= 10; what++) {
            values.add(whole(what));
        }
        for (int number = 0; number < state.variants.size(); number++) {
            for (int what = 0; what <= 6; what++) {
                values.add(variant(number, what));
            }
            for (int slot = 0; slot < 6; slot++) {
                values.add((long) weightOf(slot, number));
            }
        }
        for (int slot = 0; slot < 6; slot++) {
            for (int entry = 0; entry < state.lists.get(slot).size(); entry++) {
                for (int what = 0; what <= 3; what++) {
                    values.add(entry(slot / 3, slot % 3, entry, what));
                }
            }
        }
        for (int number : ranking()) {
            values.add((long) number);
        }
        for (char letter : written().toCharArray()) {
            values.add((long) letter);
        }
        long hash = 12856;
        for (long value : values) {
            hash = 31 * hash + value;
        }
        return hash;
    }
}
