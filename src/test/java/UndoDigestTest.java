import java.util.ArrayList;
import java.util.List;
import java.util.function.Consumer;

/** Promises 28 and 29: undo and digest. */
public final class UndoDigestTest {
    private static void undoing() {
        RatherDesk desk = Check.desk("a/a a id 1");
        Check.due("undo()", 0, desk.undo());
        Check.due("variants", 0, desk.whole(0));
        Check.badState("undo() of nothing", desk, () -> desk.undo());
        Check.due("the text stays", 10, desk.whole(6));
        Check.due("it can be added again", 0, desk.addVariant());
        for (int size = 2; size <= 7; size++) {
            Check.due("setSize()", size - 1, desk.setSize(0, size));
        }
        for (int size = 6; size >= 3; size--) {
            Check.due("undo()", size - 3, desk.undo());
            Check.due("size", size, desk.variant(0, 0));
        }
        Check.badState("older ones are dropped", desk, () -> desk.undo());
    }

    private static void everyChange() {
        List<Consumer<RatherDesk>> changes = List.of(
                desk -> desk.removeVariant(0), desk -> desk.setQuality(1, 5),
                desk -> desk.setSize(1, 6), desk -> desk.setWeight(0, 0, 1, 9),
                desk -> desk.removeEntry(0, 0, 0), desk -> desk.swapSides(),
                desk -> desk.setTies(3, 4, 5), desk -> desk.takeList(0, 1),
                desk -> desk.addVariant());
        String[] texts = {"", "", "", "", "", "", "", "b;8,*;9", "c/c c id 5"};
        for (int change = 0; change < texts.length; change++) {
            RatherDesk desk = Check.desk("a/a a id 1", "b/b b-c gz 2");
            Check.list(desk, 0, 0, "a/a;5,*/*;6");
            Check.list(desk, 1, 1, "b;7");
            Check.text(desk, texts[change]);
            String before = told(desk);
            changes.get(change).accept(desk);
            Check.due("change " + change + " changes", true, !before.equals(told(desk)));
            Check.due("undo() of change " + change, 3, desk.undo());
            Check.same("behind undo() of change " + change, before, told(desk));
        }
    }

    private static void noChange() {
        RatherDesk desk = Check.desk("a/a a id 1");
        Check.list(desk, 0, 1, "*");
        desk.undo();
        desk.undo();
        Check.due("takeList of a fault", -11, faulty(desk, "a?", true));
        Check.due("addVariant of a fault", -11, faulty(desk, "a?", false));
        Check.badState("neither is saved", desk, () -> desk.undo());
        Check.text(desk, "");
        Check.due("takeList of the same", 0, desk.takeList(0, 0));
        Check.due("it is saved", 0, desk.undo());
        desk.type(97);
        desk.clearText();
        desk.digest();
        desk.agree();
        Check.badState("texts and questions are not saved", desk, () -> desk.undo());
    }

    private static int faulty(RatherDesk desk, String text, boolean list) {
        Check.text(desk, text);
        return list ? desk.takeList(0, 1) : desk.addVariant();
    }

    /** All values but the number of states, which the digest has too. */
    private static String told(RatherDesk desk) {
        StringBuilder told = new StringBuilder();
        for (long value : values(desk, 0)) {
            told.append(value).append(' ');
        }
        return told.toString();
    }

    static long[] values(RatherDesk desk, int states) {
        List<Long> values = new ArrayList<>();
        values.add((long) states);
        for (int what = 0; what <= 10; what++) {
            values.add((long) desk.whole(what));
        }
        int variants = desk.whole(0);
        for (int variant = 0; variant < variants; variant++) {
            for (int what = 0; what <= 6; what++) {
                values.add((long) desk.variant(variant, what));
            }
            for (int slot = 0; slot < 6; slot++) {
                values.add((long) desk.weight(slot / 3, slot % 3, variant));
            }
        }
        for (int slot = 0; slot < 6; slot++) {
            for (int entry = 0; has(desk, slot, entry); entry++) {
                for (int what = 0; what <= 3; what++) {
                    values.add((long) desk.entry(slot / 3, slot % 3, entry, what));
                }
            }
        }
        int ranked = desk.whole(1);
        for (int place = 0; place < ranked; place++) {
            values.add((long) desk.ranked(place));
        }
        int length = desk.whole(10);
        for (int index = 0; index < length; index++) {
            values.add((long) desk.listingByte(index));
        }
        return values.stream().mapToLong(Long::longValue).toArray();
    }

    private static boolean has(RatherDesk desk, int slot, int entry) {
        try {
            desk.entry(slot / 3, slot % 3, entry, 0);
            return true;
        } catch (IndexOutOfBoundsException none) {
            return false;
        }
    }

    private static long hash(RatherDesk desk, int states) {
        long hash = 12856;
        for (long value : values(desk, states)) {
            hash = 31 * hash + value;
        }
        return hash;
    }

    private static void digests() {
        RatherDesk desk = new RatherDesk();
        Check.due("digest()", hash(desk, 0), desk.digest());
        Check.text(desk, "te/ht en-gb gz 400");
        Check.due("digest() with a text", hash(desk, 0), desk.digest());
        desk.addVariant();
        Check.due("digest() with a variant", hash(desk, 1), desk.digest());
        Check.list(desk, 0, 0, "te/*;500,*/*;100,te/ht;900");
        Check.due("digest() with a list", hash(desk, 2), desk.digest());
        Check.list(desk, 1, 2, "id;500,*;100,x");
        Check.due("digest() with another list", hash(desk, 3), desk.digest());
    }

    private static RatherDesk two() {
        RatherDesk desk = Check.desk("te/ht en-gb gz 400", "te/pl fr id 3");
        Check.list(desk, 0, 0, "te/*;500,*/*;100,te/ht;900");
        Check.list(desk, 1, 2, "id;500,*;100,x");
        return desk;
    }

    private static void digestsOfTwo() {
        RatherDesk desk = two();
        Check.due("digest() with two variants", hash(desk, 4), desk.digest());
        desk.setQuality(0, 0);
        Check.due("digest() with a refused one", hash(desk, 4), desk.digest());
    }

    private static void digestsOfRules() {
        RatherDesk desk = two();
        desk.setTies(5, 4, 3);
        Check.due("digest() with other rules", hash(desk, 4), desk.digest());
        desk.undo();
        Check.due("digest() behind undo()", hash(desk, 3), desk.digest());
    }

    public static void main(String[] args) {
        undoing();
        everyChange();
        noChange();
        digests();
        digestsOfTwo();
        digestsOfRules();
        Check.end();
    }
}
