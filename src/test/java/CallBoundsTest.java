import java.util.List;

/** Promises 1 to 22: a test for each sentence that names a boundary case. */
public final class CallBoundsTest {
    private static final int NONE = RatherDesk.NONE;
    private static final int CODINGS = 2;

    /** Two variants, and on each side two types, one language and three codings. */
    private static RatherDesk filled() {
        RatherDesk desk = Check.desk("a/a a id 1", "a/b b gz 22");
        for (int side = 0; side < 2; side++) {
            Check.list(desk, side, 0, "a/a;900,*/*;" + (800 + side));
            Check.list(desk, side, 1, "*;70" + side);
            Check.list(desk, side, 2, "*;600,gz;50" + side + ",id;400");
        }
        return desk;
    }

    private static String ten(String... cycle) {
        StringBuilder list = new StringBuilder();
        for (int entry = 0; entry < 10; entry++) {
            list.append(entry > 0 ? "," : "").append(cycle[entry % cycle.length]);
        }
        return list.toString();
    }

    // Promise 1: "a desk without variants, with empty lists, the tie rules as at first, an
    // empty text and an empty undo stack".
    private static void newDesk() {
        int[] due = {0, 0, NONE, 0, 0, 0, 0, 1, 0, 0, 0};
        for (int what = 0; what <= 10; what++) {
            Check.due("new whole(" + what + ")", due[what], new RatherDesk().whole(what));
        }
        Check.badState("new undo()", new RatherDesk(), () -> new RatherDesk().undo());
        Check.due("new clearText()", 0, new RatherDesk().clearText());
        Check.due("new variantFault()", 0, new RatherDesk().variantFault());
        Check.due("new addVariant()", -10, new RatherDesk().addVariant());
        Check.due("new ranked(0)", NONE, new RatherDesk().ranked(0));
        Check.due("new listed(0)", NONE, new RatherDesk().listed(0));
        Check.due("new listingByte(0)", NONE, new RatherDesk().listingByte(0));
        Check.due("new servedFor(0)", NONE, new RatherDesk().servedFor(0));
        Check.due("new servedFor(1)", NONE, new RatherDesk().servedFor(1));
        Check.due("new agree()", true, new RatherDesk().agree());
        Check.due("new swapSides()", 0, new RatherDesk().swapSides());
        Check.due("new setTies()", 100, new RatherDesk().setTies(5, 5, 5));
        for (int list = 0; list < 3; list++) {
            Check.due("new listFault()", NONE, new RatherDesk().listFault(list));
            Check.due("new takeList()", 0, new RatherDesk().takeList(1, list));
        }
        for (int variant : new int[] {-1, 0, 1}) {
            RatherDesk desk = new RatherDesk();
            Check.outOfBounds("removeVariant", desk, () -> desk.removeVariant(variant));
            Check.outOfBounds("setQuality", desk, () -> desk.setQuality(variant, 0));
            Check.outOfBounds("setSize", desk, () -> desk.setSize(variant, 0));
            Check.outOfBounds("variant", desk, () -> desk.variant(variant, 0));
            Check.outOfBounds("weight", desk, () -> desk.weight(0, 0, variant));
            Check.outOfBounds("counting", desk, () -> desk.counting(0, 0, variant));
            Check.outOfBounds("servedWithout", desk, () -> desk.servedWithout(variant));
            Check.outOfBounds("leastQuality", desk, () -> desk.leastQuality(variant));
        }
    }

    // Promise 2: "value: 0 to 127"; "if the text has 120 bytes".
    private static void type() {
        RatherDesk desk = new RatherDesk();
        for (int value : Check.outside(0, 127)) {
            Check.badArgument("type into an empty text", desk, () -> desk.type(value));
        }
        Check.due("still empty", 0, desk.whole(6));
        Check.due("type(0)", 1, desk.type(0));
        Check.due("type(127)", 2, desk.type(127));
        desk.clearText();
        for (int length = 1; length <= 120; length++) {
            Check.due("type()", length, desk.type(length == 120 ? 'b' : ' '));
        }
        Check.due("the last one is there", NONE, desk.listFault(CODINGS));
        for (int value : new int[] {0, 'x', ' ', 127}) {
            Check.badState("type into a full text", desk, () -> desk.type(value));
        }
        for (int value : Check.outside(0, 127)) {
            Check.badArgument("both", desk, () -> desk.type(value));
        }
        Check.due("still full", 120, desk.whole(6));
        Check.due("still a coding", 1, desk.takeList(0, CODINGS));
    }

    // Promise 2: every value from 0 to 127 is a byte of the text.
    private static void everyByte() {
        RatherDesk desk = new RatherDesk();
        for (int value = 0; value <= 127; value++) {
            boolean fits = value >= 'a' && value <= 'z';
            desk.clearText();
            Check.due("type(" + value + ")", 1, desk.type(value));
            int due = fits || value == ' ' || value == '*' ? NONE : 0;
            Check.due("listFault of " + value, due, desk.listFault(CODINGS));
        }
    }

    // Promise 3: "Returns the length that it had."
    private static void clearText() {
        RatherDesk desk = new RatherDesk();
        for (int length : new int[] {0, 1, 119, 120, 0}) {
            for (int at = 0; at < length; at++) {
                desk.type('?');
            }
            Check.due("clearText()", length, desk.clearText());
            Check.due("whole(6)", 0, desk.whole(6));
            Check.due("listFault()", NONE, desk.listFault(0));
        }
        Check.badState("it is not undoable", desk, () -> desk.undo());
    }

    // Promises 4 and 5: "if there is no such list"; "Returns the fault; NONE if ..".
    private static void faults() {
        for (String text : new String[] {"", "b", "?"}) {
            RatherDesk desk = new RatherDesk();
            Check.text(desk, text);
            for (int list : Check.outside(0, 2)) {
                Check.outOfBounds("listFault", desk, () -> desk.listFault(list));
            }
        }
        RatherDesk desk = new RatherDesk();
        Check.text(desk, "b/b b b 1");
        long before = desk.digest();
        Check.due("variantFault()", NONE, desk.variantFault());
        Check.due("listFault()", 4, desk.listFault(0));
        Check.due("digest()", before, desk.digest());
        Check.badState("none is undoable", desk, () -> desk.undo());
    }

    // Promise 6: "Returns the number of its entries; -10 minus the fault if it has one (then
    // nothing changes)."
    private static void takeList() {
        for (int slot = 0; slot < 6; slot++) {
            int side = slot / 3;
            int list = slot % 3;
            String one = list == 0 ? "c/c" : "c";
            RatherDesk desk = filled();
            int[] others = weightsBut(desk, slot);
            for (String text : new String[] {"", "  ", one, one + "," + one, ten(one + ";3")}) {
                Check.text(desk, text);
                int due = text.isBlank() ? 0 : text.split(",").length;
                Check.due("takeList of " + text, due, desk.takeList(side, list));
                Check.same("the others", java.util.Arrays.toString(others),
                        java.util.Arrays.toString(weightsBut(desk, slot)));
                Check.due("the text stays", text.length(), desk.whole(6));
            }
            Check.due("the tenth's weight", 3, desk.entry(side, list, 9, 0));
            Check.outOfBounds("no eleventh", desk, () -> desk.entry(side, list, 10, 0));
            Check.text(desk, "?");
            Check.due("a fault at 0", -10, desk.takeList(side, list));
            Check.text(desk, one + ";");
            Check.due("a fault at the end", -11 - one.length(), desk.takeList(side, list));
            Check.due("nothing changes", 3, desk.entry(side, list, 9, 0));
            Check.due("the five are saved, of which four are kept", 3, desk.undo());
        }
        RatherDesk desk = new RatherDesk();
        Check.text(desk, "b;" + " ".repeat(118));
        Check.due("a fault at 120", -130, desk.takeList(0, 2));
    }

    private static int[] weightsBut(RatherDesk desk, int slot) {
        int[] weights = new int[6];
        for (int other = 0; other < 6; other++) {
            weights[other] = other == slot ? 0 : desk.weight(other / 3, other % 3, 1);
        }
        return weights;
    }

    // Promise 6: "if there is no such side or list" (ahead of a fault, which is no exception).
    private static void takeListNowhere() {
        for (String text : new String[] {"", "b", "?"}) {
            RatherDesk desk = new RatherDesk();
            Check.text(desk, text);
            for (int side : Check.outside(0, 1)) {
                Check.outOfBounds("side", desk, () -> desk.takeList(side, 0));
                Check.outOfBounds("side and list", desk, () -> desk.takeList(side, side));
            }
            for (int list : Check.outside(0, 2)) {
                Check.outOfBounds("list", desk, () -> desk.takeList(1, list));
            }
            Check.badState("nothing is saved", desk, () -> desk.undo());
        }
    }

    // Promise 6: a list that both sides took is two lists.
    private static void takenTwice() {
        RatherDesk desk = Check.desk("a/a a gz 1");
        Check.text(desk, "gz;10,*;20");
        for (int side = 0; side < 2; side++) {
            Check.due("takeList()", 2, desk.takeList(side, CODINGS));
        }
        desk.setWeight(0, CODINGS, 0, 5);
        desk.removeEntry(0, CODINGS, 1);
        Check.due("side 1's weight", 10, desk.weight(1, CODINGS, 0));
        Check.due("side 1's entries", 2, desk.whole(5));
        Check.due("the text tells it still", 2, desk.takeList(0, CODINGS));
        Check.due("side 0's weight", 10, desk.weight(0, CODINGS, 0));
    }

    // Promise 7: "-10 minus the fault if it has one (then nothing changes)"; "if the text has
    // no fault, and there are 16 variants, or one with the same type, language and coding".
    private static void addVariant() {
        RatherDesk desk = new RatherDesk();
        String[] texts = {"", "?", "a/b c d", "a/b c d 1234567", "a/b c d" + " ".repeat(113)};
        int[] due = {-10, -10, -17, -24, -130};
        for (int row = 0; row < texts.length; row++) {
            Check.text(desk, texts[row]);
            Check.due("addVariant() of '" + texts[row] + "'", due[row], desk.addVariant());
            Check.due("variants", 0, desk.whole(0));
        }
        Check.badState("nothing is saved", desk, () -> desk.undo());
        RatherDesk full = sixteen();
        Check.text(full, "a/a b a 0");
        Check.badState("both", full, () -> full.addVariant());
        Check.text(full, "a/a b z 0");
        Check.badState("a seventeenth", full, () -> full.addVariant());
        Check.text(full, "a/a b z");
        Check.due("a fault is told of a full desk too", -17, full.addVariant());
        Check.due("four are saved", 3, full.undo());
    }

    private static RatherDesk sixteen() {
        RatherDesk desk = new RatherDesk();
        for (int variant = 0; variant < 16; variant++) {
            Check.text(desk, "a/a b " + (char) ('a' + variant) + " " + variant);
            Check.due("addVariant()", variant, desk.addVariant());
        }
        return desk;
    }

    // Promise 8: "the numbers of those behind it decrease by 1"; "if there is no such variant".
    private static void removeVariant() {
        for (int removed = 0; removed < 16; removed++) {
            RatherDesk desk = sixteen();
            for (int variant : Check.outside(0, 15)) {
                Check.outOfBounds("removeVariant", desk, () -> desk.removeVariant(variant));
            }
            for (int variant = 0; variant < 16; variant++) {
                desk.setQuality(variant, 500 + variant);
            }
            StringBuilder listing = new StringBuilder();
            Check.due("removeVariant()", 15, desk.removeVariant(removed));
            for (int variant = 0; variant < 15; variant++) {
                int due = variant < removed ? variant : variant + 1;
                Check.due("its size", due, desk.variant(variant, 0));
                Check.due("its quality", 500 + due, desk.variant(variant, 1));
                listing.append(variant > 0 ? ", " : "").append("a/a b ")
                        .append((char) ('a' + due)).append(' ').append(due);
            }
            Check.same("the listing", listing.toString(), Check.listing(desk));
            Check.outOfBounds("removeVariant(15)", desk, () -> desk.removeVariant(15));
        }
        RatherDesk desk = sixteen();
        for (int left = 15; left >= 0; left--) {
            Check.due("removeVariant(0)", left, desk.removeVariant(0));
        }
        Check.outOfBounds("none is left", desk, () -> desk.removeVariant(0));
        Check.due("no listing", 0, desk.whole(10));
    }

    // Promise 9: "quality: 0 to 1000".
    private static void setQuality() {
        RatherDesk desk = filled();
        int before = 1000;
        for (int quality : new int[] {0, 1000, 1, 999, 999, 0, 0, 500}) {
            Check.due("setQuality()", before, desk.setQuality(1, quality));
            Check.due("the quality", quality, desk.variant(1, 1));
            Check.due("the other one's", 1000, desk.variant(0, 1));
            before = quality;
        }
        for (int quality : Check.outside(0, 1000)) {
            Check.badArgument("quality", desk, () -> desk.setQuality(1, quality));
            for (int variant : Check.outside(0, 1)) {
                Check.outOfBounds("variant", desk, () -> desk.setQuality(variant, 5));
                Check.outOfBounds("both", desk, () -> desk.setQuality(variant, quality));
            }
        }
    }

    // Promise 10: "size: 0 to 999999".
    private static void setSize() {
        RatherDesk desk = filled();
        int before = 22;
        for (int size : new int[] {0, 999999, 1, 999998, 999998, 0, 0, 100000, 99999}) {
            Check.due("setSize()", before, desk.setSize(1, size));
            Check.due("the size", size, desk.variant(1, 0));
            Check.due("the other one's", 1, desk.variant(0, 0));
            before = size;
        }
        for (int size : Check.outside(0, 999999)) {
            Check.badArgument("size", desk, () -> desk.setSize(1, size));
            for (int variant : Check.outside(0, 1)) {
                Check.outOfBounds("variant", desk, () -> desk.setSize(variant, 5));
                Check.outOfBounds("both", desk, () -> desk.setSize(variant, size));
            }
        }
    }

    private static int lengthOf(int list) {
        return new int[] {2, 1, 3}[list];
    }

    // Promise 11: "entry: place of an entry, from 0", "weight: 0 to 1000".
    private static void setWeight() {
        for (int slot = 0; slot < 6; slot++) {
            int side = slot / 3;
            int list = slot % 3;
            for (int entry = 0; entry < lengthOf(list); entry++) {
                int place = entry;
                RatherDesk desk = filled();
                int before = desk.entry(side, list, entry, 0);
                for (int weight : new int[] {0, 1000, 1, 999, 999}) {
                    Check.due("setWeight()", before, desk.setWeight(side, list, entry, weight));
                    Check.due("the weight", weight, desk.entry(side, list, entry, 0));
                    before = weight;
                }
                for (int weight : Check.outside(0, 1000)) {
                    Check.badArgument("weight", desk,
                            () -> desk.setWeight(side, list, place, weight));
                    Check.outOfBounds("side, ahead of the weight", desk,
                            () -> desk.setWeight(2, list, place, weight));
                    Check.outOfBounds("list, ahead of the weight", desk,
                            () -> desk.setWeight(side, 3, place, weight));
                    Check.outOfBounds("entry, ahead of the weight", desk,
                            () -> desk.setWeight(side, list, lengthOf(list), weight));
                }
            }
        }
    }

    private interface Entries {
        void call(RatherDesk desk, int side, int list, int entry);
    }

    // Promises 11, 12, 18 and 25: "if there is no such side, list or entry".
    private static void noSuchEntry() {
        List<Entries> calls = List.of(
                (desk, side, list, entry) -> desk.setWeight(side, list, entry, 5),
                (desk, side, list, entry) -> desk.removeEntry(side, list, entry),
                (desk, side, list, entry) -> desk.entry(side, list, entry, 0),
                (desk, side, list, entry) -> desk.entry(side, list, entry, 4),
                (desk, side, list, entry) -> desk.leastWeight(side, list, entry, 0));
        for (Entries call : calls) {
            RatherDesk desk = filled();
            for (int side : Check.outside(0, 1)) {
                Check.outOfBounds("side", desk, () -> call.call(desk, side, 0, 0));
            }
            for (int list : Check.outside(0, 2)) {
                Check.outOfBounds("list", desk, () -> call.call(desk, 1, list, 0));
            }
            for (int slot = 0; slot < 6; slot++) {
                int side = slot / 3;
                int list = slot % 3;
                for (int entry : Check.outside(0, lengthOf(list) - 1)) {
                    Check.outOfBounds("entry", desk, () -> call.call(desk, side, list, entry));
                }
            }
            Check.list(desk, 1, 2, "");
            Check.outOfBounds("of an empty list", desk, () -> call.call(desk, 1, 2, 0));
            Check.list(desk, 1, 2, ten("gz", "*", "id"));
            Check.outOfBounds("behind ten", desk, () -> call.call(desk, 1, 2, 10));
        }
    }

    // Promise 12: "Returns the number of entries that are left."
    private static void removeEntry() {
        String[] ranges = {"*;0", "a;1", "b;2", "c;3", "d;4", "e;5", "f;6", "g;7", "h;8", "i;9"};
        int[] matched = {4, 1, 0, 0, 1, 0, 1, 0, 0, 1};
        for (int slot = 0; slot < 6; slot++) {
            int side = slot / 3;
            int list = slot % 3;
            for (int removed = 0; removed < 10; removed++) {
                RatherDesk desk = Check.desk("a/a a a 1", "d/d d d 1", "f/f f f 1", "i/i i i 1");
                String told = ten(ranges);
                Check.list(desk, side, list, list == 0 ? told.replace(";", "/*;") : told);
                Check.due("removeEntry()", 9, desk.removeEntry(side, list, removed));
                for (int entry = 0; entry < 9; entry++) {
                    int due = entry < removed ? entry : entry + 1;
                    Check.due("its weight", due, desk.entry(side, list, entry, 0));
                    Check.due("its names", due == 0 ? 0 : 1, desk.entry(side, list, entry, 1));
                    Check.due("its matches", matched[due], desk.entry(side, list, entry, 2));
                }
                Check.outOfBounds("the tenth", desk, () -> desk.removeEntry(side, list, 9));
            }
            RatherDesk desk = filled();
            for (int left = lengthOf(list) - 1; left >= 0; left--) {
                Check.due("entries left", left, desk.removeEntry(side, list, left));
            }
            Check.outOfBounds("none is left", desk, () -> desk.removeEntry(side, list, 0));
            Check.due("an empty list's weight", 1000, desk.weight(side, list, 1));
        }
    }

    // Promise 13: "each list of one becomes that of the other one" (also empty and full ones).
    private static void swapSides() {
        String[] texts = {"", "a;1", ten("a;2", "*;3")};
        for (int first = 0; first < 3; first++) {
            for (int second = 0; second < 3; second++) {
                for (int list = 1; list < 3; list++) {
                    RatherDesk desk = Check.desk("a/a a a 1");
                    Check.list(desk, 0, list, texts[first]);
                    Check.list(desk, 1, list, texts[second]);
                    int[] lengths = {desk.whole(4), desk.whole(5)};
                    int[] weights = {desk.weight(0, list, 0), desk.weight(1, list, 0)};
                    Check.due("swapSides()", lengths[1], desk.swapSides());
                    Check.due("whole(4)", lengths[1], desk.whole(4));
                    Check.due("whole(5)", lengths[0], desk.whole(5));
                    Check.due("side 0", weights[1], desk.weight(0, list, 0));
                    Check.due("side 1", weights[0], desk.weight(1, list, 0));
                    Check.due("back", lengths[0], desk.swapSides());
                }
            }
        }
        RatherDesk desk = filled();
        Check.due("two, one and three", 6, desk.swapSides());
        for (int slot = 0; slot < 6; slot++) {
            int entry = slot % 3 == 1 ? 0 : 1;
            int due = new int[] {800, 700, 500}[slot % 3] + 1 - slot / 3;
            Check.due("weight", due, desk.entry(slot / 3, slot % 3, entry, 0));
        }
    }

    // The same sentence: the ranges go with the weights.
    private static void swappedRanges() {
        String[][] lists = {{"a/a,*/*,b/*", "*/*,b/b"}, {"a-b-c,*,b", "*,a-b"},
            {"*,a", "b,a,*"}};
        int[][][] names = {{{2, 0, 1}, {0, 2}}, {{3, 0, 1}, {0, 2}}, {{0, 1}, {1, 1, 0}}};
        int[][][] matched = {{{1, 2, 1}, {2, 0}}, {{0, 2, 1}, {2, 1}}, {{2, 2}, {0, 2, 2}}};
        for (int list = 0; list < 3; list++) {
            RatherDesk desk = Check.desk("a/a a-b a 1", "b/c b a 1");
            Check.list(desk, 0, list, lists[list][0]);
            Check.list(desk, 1, list, lists[list][1]);
            for (int turn = 1; turn >= 0; turn--) {
                desk.swapSides();
                for (int side = 0; side < 2; side++) {
                    int from = turn == 1 ? 1 - side : side;
                    for (int entry = 0; entry < names[list][from].length; entry++) {
                        Check.due("names", names[list][from][entry],
                                desk.entry(side, list, entry, 1));
                        Check.due("matches", matched[list][from][entry],
                                desk.entry(side, list, entry, 2));
                    }
                }
            }
        }
    }

    // Promise 14: "0 to 5"; "Returns 100 * first + 10 * second + third, as they were."
    private static void setTies() {
        RatherDesk desk = new RatherDesk();
        int before = 100;
        int[][] rules = {{0, 0, 0}, {5, 5, 5}, {5, 0, 0}, {0, 5, 0}, {0, 0, 5}, {1, 2, 3},
            {1, 2, 3}, {4, 5, 0}};
        for (int[] rule : rules) {
            Check.due("setTies()", before, desk.setTies(rule[0], rule[1], rule[2]));
            before = 100 * rule[0] + 10 * rule[1] + rule[2];
            for (int at = 0; at < 3; at++) {
                Check.due("a rule", rule[at], desk.whole(7 + at));
            }
        }
        for (int rule : Check.outside(0, 5)) {
            Check.badArgument("first", desk, () -> desk.setTies(rule, 5, 0));
            Check.badArgument("second", desk, () -> desk.setTies(0, rule, 5));
            Check.badArgument("third", desk, () -> desk.setTies(5, 0, rule));
            Check.badArgument("all", desk, () -> desk.setTies(rule, rule, rule));
        }
        Check.due("the rules stay", 450, desk.setTies(0, 0, 0));
    }

    // Promise 15: "0 size, .. 6 number of names of its language".
    private static void variant() {
        RatherDesk desk = Check.desk("b/a a-b-c id 999999", "a/b a gz 0", "b/a a-b id 5");
        desk.setQuality(1, 0);
        desk.setQuality(2, 1);
        int[][] due = {{999999, 1000, 1000, 0, 0, 2, 3}, {0, 0, 0, 7, NONE, 0, 1},
            {5, 1, 1, 0, 1, 1, 2}};
        for (int variant = 0; variant < 3; variant++) {
            for (int what = 0; what <= 6; what++) {
                Check.due("variant " + variant + " " + what, due[variant][what],
                        desk.variant(variant, what));
            }
        }
        for (int what : Check.outside(0, 6)) {
            Check.badArgument("what", desk, () -> desk.variant(2, what));
            for (int variant : Check.outside(0, 2)) {
                Check.outOfBounds("variant", desk, () -> desk.variant(variant, 6));
                Check.outOfBounds("both", desk, () -> desk.variant(variant, what));
            }
        }
    }

    // Promises 16 and 17: "if there is no such side, list or variant"; "NONE if none matches".
    private static void weightAndCounting() {
        RatherDesk desk = filled();
        for (int at : Check.outside(0, 1)) {
            Check.outOfBounds("weight's side", desk, () -> desk.weight(at, 2, 1));
            Check.outOfBounds("counting's side", desk, () -> desk.counting(at, 2, 1));
            Check.outOfBounds("weight's variant", desk, () -> desk.weight(1, 2, at));
            Check.outOfBounds("counting's variant", desk, () -> desk.counting(1, 2, at));
        }
        for (int list : Check.outside(0, 2)) {
            Check.outOfBounds("weight's list", desk, () -> desk.weight(1, list, 1));
            Check.outOfBounds("counting's list", desk, () -> desk.counting(1, list, 1));
        }
        Check.due("the first place", 0, desk.counting(0, 0, 0));
        Check.due("the last place", 2, desk.counting(1, 2, 0));
        Check.due("the last weight", 400, desk.weight(1, 2, 0));
        Check.list(desk, 1, 2, "x,y,z,w,v,u,t,s,r,gz;0");
        Check.due("the tenth place", 9, desk.counting(1, 2, 1));
        Check.due("a weight of 0", 0, desk.weight(1, 2, 1));
        Check.due("none matches", NONE, desk.counting(1, 2, 0));
        Check.due("the last variant", 0, desk.counting(0, 1, 1));
        RatherDesk full = sixteen();
        Check.list(full, 1, 2, "p;7");
        Check.due("the sixteenth", 7, full.weight(1, 2, 15));
        Check.due("its place", 0, full.counting(1, 2, 15));
        Check.outOfBounds("a seventeenth", full, () -> full.weight(1, 2, 16));
    }

    // Promise 18: "0 weight, .. 3 number of variants for which it counts".
    private static void entry() {
        RatherDesk desk = filled();
        int[][] due = {{600, 0, 2, 0}, {501, 1, 1, 1}, {400, 1, 1, 1}};
        for (int entry = 0; entry < 3; entry++) {
            int place = entry;
            for (int what = 0; what <= 3; what++) {
                Check.due("entry " + entry + " " + what, due[entry][what],
                        desk.entry(1, 2, entry, what));
            }
            for (int what : Check.outside(0, 3)) {
                Check.badArgument("what", desk, () -> desk.entry(1, 2, place, what));
                Check.outOfBounds("both", desk, () -> desk.entry(1, 2, 3, what));
            }
        }
        RatherDesk full = sixteen();
        Check.list(full, 0, 2, ten("*"));
        Check.due("all match the tenth", 16, full.entry(0, 2, 9, 2));
        Check.due("it counts for none", 0, full.entry(0, 2, 9, 3));
        Check.due("the first one counts for all", 16, full.entry(0, 2, 0, 3));
        RatherDesk empty = new RatherDesk();
        Check.list(empty, 0, 1, "a-b-c;0,*");
        int[] none = {0, 3, 0, 0};
        for (int what = 0; what <= 3; what++) {
            Check.due("without variants", none[what], empty.entry(0, 1, 0, what));
        }
    }

    // Promise 19: "Returns the variant; NONE if there are not so many."; "if place is negative".
    private static void ranked() {
        RatherDesk desk = sixteen();
        desk.setQuality(3, 0);
        desk.setTies(2, 0, 0);
        for (int place = 0; place < 15; place++) {
            int due = 15 - place > 3 ? 15 - place : 14 - place;
            Check.due("ranked(" + place + ")", due, desk.ranked(place));
            Check.due("its place", place, desk.variant(due, 4));
        }
        for (int place : new int[] {15, 16, 17, Integer.MAX_VALUE}) {
            Check.due("ranked(" + place + ")", NONE, desk.ranked(place));
        }
        desk.setQuality(3, 1);
        Check.due("the sixteenth", 3, desk.ranked(15));
        Check.due("behind it", NONE, desk.ranked(16));
        for (int place : new int[] {-1, -2, Integer.MIN_VALUE}) {
            Check.badArgument("ranked", desk, () -> desk.ranked(place));
            Check.badArgument("of none", new RatherDesk(), () -> new RatherDesk().ranked(place));
        }
    }

    // Promise 20: "2 served variant (NONE without one), 3 its score (0 without one)".
    private static void whole() {
        // The second one's score: of 1000 come 800, 560, 280, and then 224, 157, 78.
        RatherDesk desk = filled();
        desk.setTies(5, 0, 4);
        int[] due = {2, 2, 1, 78, 6, 6, 17, 5, 0, 4, 23};
        Check.text(desk, "0123456789abcdef?");
        for (int what = 0; what <= 10; what++) {
            Check.due("whole(" + what + ")", due[what], desk.whole(what));
        }
        for (int what : Check.outside(0, 10)) {
            Check.badArgument("whole", desk, () -> desk.whole(what));
            Check.badArgument("of none", new RatherDesk(), () -> new RatherDesk().whole(what));
        }
        Check.list(desk, 0, 0, "c/c");
        Check.due("variants", 2, desk.whole(0));
        Check.due("all refused", 0, desk.whole(1));
        Check.due("none served", NONE, desk.whole(2));
        Check.due("no score", 0, desk.whole(3));
        Check.due("all listed", 23, desk.whole(10));
        RatherDesk full = sixteen();
        for (int slot = 0; slot < 6; slot++) {
            Check.list(full, slot / 3, slot % 3, ten(slot % 3 == 0 ? "*/*" : "*"));
            Check.due("entries", 10 * (slot % 3 + 1), full.whole(4 + slot / 3));
        }
        Check.due("sixteen", 16, full.whole(0));
        Check.due("sixteen not refused", 16, full.whole(1));
        Check.due("the full score", 1000, full.whole(3));
    }

    // Promise 21: "by their types, then by their languages, then by their codings, each
    // compared byte by byte as they are written (one that is the beginning of another one
    // comes first)"; "NONE if there are not so many"; "if place is negative".
    private static void listed() {
        String[] inOrder = {"a/a a a", "a/a a aa", "a/a a b", "a/a a-a a", "a/a a-a-a a",
            "a/a a-a-b a", "a/a a-aa a", "a/a a-b a", "a/a aa a", "a/a aa-a a", "a/a b a",
            "a/aa a a", "a/b a a", "aa/a a a", "ab/a a a", "b/a a a"};
        int[] numbers = {5, 0, 11, 7, 14, 2, 9, 4, 15, 1, 12, 6, 3, 13, 8, 10};
        String[] texts = new String[16];
        for (int place = 0; place < 16; place++) {
            texts[numbers[place]] = inOrder[place] + " 1";
        }
        RatherDesk desk = Check.desk(texts);
        desk.setQuality(5, 0);
        for (int place = 0; place < 16; place++) {
            Check.due("listed(" + place + ")", numbers[place], desk.listed(place));
            Check.due("its place", place, desk.variant(numbers[place], 5));
        }
        Check.due("listed(16)", NONE, desk.listed(16));
        desk.removeVariant(15);
        Check.due("listed(14), asked first behind a change", 10, desk.listed(14));
        desk.removeVariant(14);
        Check.due("listed(14) then", NONE, desk.listed(14));
        Check.due("listed(MAX)", NONE, desk.listed(Integer.MAX_VALUE));
        for (int place : new int[] {-1, -2, Integer.MIN_VALUE}) {
            Check.badArgument("listed", desk, () -> desk.listed(place));
            Check.badArgument("of none", new RatherDesk(), () -> new RatherDesk().listed(place));
        }
    }

    // Promise 22: "the size in decimal digits, with ", " between two variants"; "NONE if there
    // are not so many"; "if index is negative".
    private static void listingByte() {
        RatherDesk desk = Check.desk("bbbb/cccc d-ee-ffff gggg 0", "a/b c d 7");
        int[] sizes = {0, 1, 9, 10, 99, 100, 999, 1000, 9999, 10000, 99999, 100000, 999999};
        int index = 37;
        for (int size : sizes) {
            desk.setSize(0, size);
            int digits = Integer.toString(size).length();
            Check.due("whole(10)", index - 1 + digits, desk.whole(10));
            Check.due("the first digit", Integer.toString(size).charAt(0),
                    desk.listingByte(index - 1));
            Check.due("the last digit", '0' + size % 10, desk.listingByte(index + digits - 2));
            Check.due("behind it", NONE, desk.listingByte(index + digits - 1));
        }
        desk.setSize(0, 102030);
        Check.same("the listing", "a/b c d 7, bbbb/cccc d-ee-ffff gggg 102030",
                Check.listing(desk));
        Check.due("listingByte(MAX)", NONE, desk.listingByte(Integer.MAX_VALUE));
        for (int negative : new int[] {-1, -2, Integer.MIN_VALUE}) {
            Check.badArgument("listingByte", desk, () -> desk.listingByte(negative));
            Check.badArgument("of none", new RatherDesk(),
                    () -> new RatherDesk().listingByte(negative));
        }
        desk.removeVariant(1);
        Check.due("nothing ahead of one alone", 'b', desk.listingByte(0));
        desk.removeVariant(0);
        Check.due("no byte of none", NONE, desk.listingByte(0));
    }

    public static void main(String[] args) {
        newDesk();
        type();
        everyByte();
        clearText();
        faults();
        takeList();
        takeListNowhere();
        takenTwice();
        addVariant();
        removeVariant();
        setQuality();
        setSize();
        setWeight();
        noSuchEntry();
        removeEntry();
        swapSides();
        swappedRanges();
        setTies();
        variant();
        weightAndCounting();
        entry();
        ranked();
        whole();
        listed();
        listingByte();
        Check.end();
    }
}
