import java.util.List;
import java.util.function.Consumer;
import java.util.function.ToLongFunction;

/** Promises 8 to 14: the changes. */
public final class ChangesTest {
    private static final int MIN = Integer.MIN_VALUE;
    private static final int MAX = Integer.MAX_VALUE;

    private static RatherDesk three() {
        return Check.desk("a/a en id 1", "a/b en-gb id 22", "a/c fr-a-b gz 333");
    }

    private static void removing() {
        RatherDesk desk = three();
        desk.setQuality(2, 500);
        Check.outOfBounds("removeVariant(-1)", desk, () -> desk.removeVariant(-1));
        Check.outOfBounds("removeVariant(3)", desk, () -> desk.removeVariant(3));
        Check.outOfBounds("removeVariant(MIN)", desk, () -> desk.removeVariant(MIN));
        Check.outOfBounds("removeVariant(MAX)", desk, () -> desk.removeVariant(MAX));
        Check.due("removeVariant(1)", 2, desk.removeVariant(1));
        Check.same("listing", "a/a en id 1, a/c fr-a-b gz 333", Check.listing(desk));
        Check.due("variant(1, 0)", 333, desk.variant(1, 0));
        Check.due("variant(1, 1)", 500, desk.variant(1, 1));
        Check.due("variant(1, 6)", 3, desk.variant(1, 6));
        Check.outOfBounds("variant(2, 0)", desk, () -> desk.variant(2, 0));
        Check.due("undo()", 3, desk.undo());
        Check.due("variant(1, 0) then", 22, desk.variant(1, 0));
        Check.due("removeVariant(2)", 2, desk.removeVariant(2));
        Check.due("removeVariant(0)", 1, desk.removeVariant(0));
        Check.same("listing then", "a/b en-gb id 22", Check.listing(desk));
        Check.due("removeVariant(0) again", 0, desk.removeVariant(0));
        Check.same("listing at last", "", Check.listing(desk));
        Check.outOfBounds("removeVariant(0) of none", desk, () -> desk.removeVariant(0));
        Check.text(desk, "a/b en-gb id 4");
        Check.due("a removed one can be added", 0, desk.addVariant());
        Check.due("its quality", 1000, desk.variant(0, 1));
    }

    private static void qualities() {
        RatherDesk desk = three();
        Check.due("setQuality(1, 0)", 1000, desk.setQuality(1, 0));
        Check.due("setQuality(1, 1000)", 0, desk.setQuality(1, 1000));
        Check.due("setQuality(1, 7)", 1000, desk.setQuality(1, 7));
        Check.due("variant(1, 1)", 7, desk.variant(1, 1));
        Check.due("variant(0, 1)", 1000, desk.variant(0, 1));
        Check.badArgument("setQuality(1, -1)", desk, () -> desk.setQuality(1, -1));
        Check.badArgument("setQuality(1, 1001)", desk, () -> desk.setQuality(1, 1001));
        Check.outOfBounds("setQuality(3, 5)", desk, () -> desk.setQuality(3, 5));
        Check.outOfBounds("setQuality(-1, 5)", desk, () -> desk.setQuality(-1, 5));
        Check.outOfBounds("setQuality(3, -1)", desk, () -> desk.setQuality(3, -1));
        Check.due("undo()", 3, desk.undo());
        Check.due("variant(1, 1) then", 1000, desk.variant(1, 1));
        Check.due("the same again is undoable", 1000, desk.setQuality(1, 1000));
        Check.due("undo() of it", 3, desk.undo());
    }

    private static void sizes() {
        RatherDesk desk = three();
        Check.due("setSize(1, 0)", 22, desk.setSize(1, 0));
        Check.due("setSize(1, 999999)", 0, desk.setSize(1, 999999));
        Check.due("variant(1, 0)", 999999, desk.variant(1, 0));
        Check.same("listing", "a/a en id 1, a/b en-gb id 999999, a/c fr-a-b gz 333",
                Check.listing(desk));
        Check.badArgument("setSize(1, -1)", desk, () -> desk.setSize(1, -1));
        Check.badArgument("setSize(1, 1000000)", desk, () -> desk.setSize(1, 1000000));
        Check.outOfBounds("setSize(3, 5)", desk, () -> desk.setSize(3, 5));
        Check.outOfBounds("setSize(-1, -1)", desk, () -> desk.setSize(-1, -1));
        Check.due("undo()", 3, desk.undo());
        Check.due("undo() again", 2, desk.undo());
        Check.due("variant(1, 0) then", 22, desk.variant(1, 0));
    }

    private static void weights() {
        RatherDesk desk = three();
        Check.list(desk, 0, 1, "en;100,*");
        Check.list(desk, 1, 2, "id;5,gz;6,*;7");
        Check.due("setWeight(1, 2, 1, 0)", 6, desk.setWeight(1, 2, 1, 0));
        Check.due("setWeight(1, 2, 1, 1000)", 0, desk.setWeight(1, 2, 1, 1000));
        Check.due("setWeight(0, 1, 1, 8)", 1000, desk.setWeight(0, 1, 1, 8));
        Check.due("weight(1, 2, 2)", 1000, desk.weight(1, 2, 2));
        Check.due("weight(0, 1, 2)", 8, desk.weight(0, 1, 2));
        Check.due("weight(0, 1, 1)", 100, desk.weight(0, 1, 1));
        Check.badArgument("weight -1", desk, () -> desk.setWeight(1, 2, 1, -1));
        Check.badArgument("weight 1001", desk, () -> desk.setWeight(1, 2, 1, 1001));
        Check.outOfBounds("side -1", desk, () -> desk.setWeight(-1, 2, 1, 5));
        Check.outOfBounds("side 2", desk, () -> desk.setWeight(2, 2, 1, 5));
        Check.outOfBounds("list -1", desk, () -> desk.setWeight(1, -1, 1, 5));
        Check.outOfBounds("list 3", desk, () -> desk.setWeight(1, 3, 1, 5));
        Check.outOfBounds("entry -1", desk, () -> desk.setWeight(1, 2, -1, 5));
        Check.outOfBounds("entry 3", desk, () -> desk.setWeight(1, 2, 3, 5));
        Check.outOfBounds("of an empty list", desk, () -> desk.setWeight(1, 1, 0, 5));
        Check.outOfBounds("both", desk, () -> desk.setWeight(1, 2, 3, -1));
        Check.due("undo()", 3, desk.undo());
        Check.due("weight(0, 1, 2) then", 1000, desk.weight(0, 1, 2));
    }

    private static void entries() {
        RatherDesk desk = three();
        Check.list(desk, 1, 1, "en;1,en-gb;2,fr;3,*;4");
        Check.due("removeEntry(1, 1, 1)", 3, desk.removeEntry(1, 1, 1));
        int[] due = {1, 1, 2, 2, 3, 1, 1, 1, 4, 0, 3, 0};
        for (int row = 0; row < due.length; row++) {
            Check.due("entry " + row, due[row], desk.entry(1, 1, row / 4, row % 4));
        }
        Check.outOfBounds("entry 3", desk, () -> desk.removeEntry(1, 1, 3));
        Check.outOfBounds("entry -1", desk, () -> desk.removeEntry(1, 1, -1));
        Check.outOfBounds("side 2", desk, () -> desk.removeEntry(2, 1, 0));
        Check.outOfBounds("side -1", desk, () -> desk.removeEntry(-1, 1, 0));
        Check.outOfBounds("list 3", desk, () -> desk.removeEntry(1, 3, 0));
        Check.outOfBounds("list -1", desk, () -> desk.removeEntry(1, -1, 0));
        Check.outOfBounds("of an empty list", desk, () -> desk.removeEntry(0, 1, 0));
        Check.due("undo()", 3, desk.undo());
        Check.due("entries", 4, desk.whole(5));
        Check.due("the weight of entry 1", 2, desk.entry(1, 1, 1, 0));
        Check.due("the last one", 3, desk.removeEntry(1, 1, 3));
        Check.due("the first one", 2, desk.removeEntry(1, 1, 0));
        Check.due("the next one", 1, desk.removeEntry(1, 1, 0));
        Check.due("the weight of what is left", 3, desk.entry(1, 1, 0, 0));
        Check.due("weight(1, 1, 0)", 0, desk.weight(1, 1, 0));
        Check.due("the last of all", 0, desk.removeEntry(1, 1, 0));
        Check.due("weight(1, 1, 0) of the empty list", 1000, desk.weight(1, 1, 0));
    }

    private static void swapping() {
        RatherDesk desk = three();
        Check.list(desk, 0, 0, "a/a;10,a/b;20,*/*;30");
        Check.list(desk, 0, 1, "en;40");
        Check.list(desk, 1, 1, "fr;50,*;60");
        Check.list(desk, 1, 2, "gz;70");
        long before = desk.digest();
        Check.due("swapSides()", 3, desk.swapSides());
        Check.due("whole(4)", 3, desk.whole(4));
        Check.due("whole(5)", 4, desk.whole(5));
        int[] due = {1000, 60, 1000, 10, 40, 1000, 1000, 60, 1000, 20, 40, 1000,
            1000, 50, 70, 30, 0, 1000};
        for (int row = 0; row < due.length; row++) {
            Check.due("weight " + row, due[row], desk.weight(row / 3 % 2, row % 3, row / 6));
        }
        Check.due("back again", 4, desk.swapSides());
        Check.due("digest()", before, desk.digest());
        Check.due("undo()", 3, desk.undo());
        Check.due("whole(4) then", 3, desk.whole(4));
        RatherDesk empty = new RatherDesk();
        Check.due("swapSides() of nothing", 0, empty.swapSides());
        Check.due("it is undoable", 0, empty.undo());
    }

    private static void ties() {
        RatherDesk desk = three();
        Check.due("setTies(5, 4, 3)", 100, desk.setTies(5, 4, 3));
        Check.due("whole(7)", 5, desk.whole(7));
        Check.due("whole(8)", 4, desk.whole(8));
        Check.due("whole(9)", 3, desk.whole(9));
        Check.due("setTies(0, 0, 0)", 543, desk.setTies(0, 0, 0));
        Check.due("setTies(2, 2, 2)", 0, desk.setTies(2, 2, 2));
        int[] bad = {-1, 6, MIN, MAX};
        for (int rule : bad) {
            Check.badArgument("first " + rule, desk, () -> desk.setTies(rule, 0, 0));
            Check.badArgument("second " + rule, desk, () -> desk.setTies(0, rule, 0));
            Check.badArgument("third " + rule, desk, () -> desk.setTies(0, 0, rule));
        }
        Check.due("undo()", 3, desk.undo());
        Check.due("undo() again", 2, desk.undo());
        Check.due("whole(7) then", 5, desk.whole(7));
    }

    /** Each question, asked first behind each change, sees the change as a later one does. */
    private static void askedFirst() {
        List<ToLongFunction<RatherDesk>> questions = List.of(
                desk -> desk.variant(0, 2), desk -> desk.variant(0, 4), desk -> desk.variant(0, 5),
                desk -> desk.weight(0, 0, 0), desk -> desk.counting(0, 0, 0),
                desk -> desk.entry(0, 0, 0, 3), desk -> desk.ranked(0), desk -> desk.whole(1),
                desk -> desk.whole(2), desk -> desk.whole(3), desk -> desk.whole(10),
                desk -> desk.listed(0), desk -> desk.listingByte(0), desk -> desk.servedFor(0),
                desk -> desk.servedFor(1), desk -> desk.servedWithout(0),
                desk -> desk.leastWeight(0, 0, 0, 0), desk -> desk.leastQuality(0),
                desk -> desk.agree() ? 1 : 0, desk -> desk.digest());
        List<Consumer<RatherDesk>> changes = List.of(
                desk -> desk.removeVariant(0), desk -> desk.setQuality(0, 0),
                desk -> desk.setSize(0, 90), desk -> desk.setWeight(0, 0, 0, 0),
                desk -> desk.removeEntry(0, 0, 1), desk -> desk.swapSides(),
                desk -> desk.setTies(2, 0, 0), desk -> desk.takeList(0, 0),
                desk -> desk.addVariant(), desk -> desk.undo());
        for (int change = 0; change < changes.size(); change++) {
            for (int question = 0; question < questions.size(); question++) {
                RatherDesk asked = twoSides(change);
                questions.get(question).applyAsLong(asked);
                changes.get(change).accept(asked);
                RatherDesk fresh = twoSides(change);
                changes.get(change).accept(fresh);
                fresh.digest();
                Check.due("question " + question + " behind change " + change,
                        questions.get(question).applyAsLong(fresh),
                        questions.get(question).applyAsLong(asked));
            }
        }
    }

    private static RatherDesk twoSides(int change) {
        RatherDesk desk = Check.desk("b/a en id 1", "b/b en-gb id 22", "b/c fr-a-b gz 333");
        Check.list(desk, 0, 0, "b/a,*/*;500");
        Check.list(desk, 1, 0, "b/b,*/*;400");
        desk.setQuality(0, 900);
        Check.text(desk, change == 7 ? "b/c" : "a/a a id 0");
        return desk;
    }

    /** Sixteen variants, and ten entries in each list: every row is in use. */
    private static void fullDesk() {
        RatherDesk desk = new RatherDesk();
        for (int variant = 0; variant < 16; variant++) {
            Check.text(desk, "a/b en " + (char) ('a' + variant) + " " + variant);
            desk.addVariant();
        }
        for (int side = 0; side < 2; side++) {
            Check.list(desk, side, 0, "*/*,*/*,*/*,*/*,*/*,*/*,*/*,*/*,*/*,a/*");
            Check.list(desk, side, 1, "*,*,*,*,*,*,*,*,*,en");
            Check.list(desk, side, 2, "*,*,*,*,*,*,*,*,*;990,p;999");
        }
        Check.due("counting", 9, desk.counting(1, 1, 15));
        Check.due("counting the last", 9, desk.counting(1, 2, 15));
        Check.due("its score", 998, desk.variant(15, 2));
        Check.due("its place", 15, desk.variant(15, 4));
        Check.due("least weight", -1, desk.leastWeight(1, 2, 9, 15));
        Check.due("least quality", -1, desk.leastQuality(15));
        Check.due("the first one's least quality", 1000, desk.leastQuality(0));
        desk.setTies(2, 0, 0);
        Check.due("the greatest one's place", 15, desk.variant(15, 4));
        Check.due("a side's entries", 30, desk.swapSides());
        Check.due("removeEntry(1, 2, 0)", 9, desk.removeEntry(1, 2, 0));
        Check.due("the weight of what was the last but one", 990, desk.entry(1, 2, 7, 0));
        Check.due("the weight of what was the last", 999, desk.entry(1, 2, 8, 0));
        Check.due("removeVariant(0)", 15, desk.removeVariant(0));
        Check.due("the last one's size", 15, desk.variant(14, 0));
        Check.due("undo()", 3, desk.undo());
        Check.due("removeVariant(15)", 15, desk.removeVariant(15));
        Check.due("the last one's size then", 14, desk.variant(14, 0));
    }

    public static void main(String[] args) {
        askedFirst();
        fullDesk();
        removing();
        qualities();
        sizes();
        weights();
        entries();
        swapping();
        ties();
        Check.end();
    }
}
