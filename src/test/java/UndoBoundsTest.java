import java.math.BigInteger;
import java.util.ArrayList;
import java.util.LinkedHashMap;
import java.util.List;
import java.util.Map;
import java.util.function.Consumer;

/** UNDO, EXCEPTIONS and promises 28 and 29: a test for each sentence with a boundary case. */
public final class UndoBoundsTest {
    private static final int NONE = RatherDesk.NONE;

    /** Two variants, both sides with the list of types that the text tells; three saved states. */
    private static RatherDesk filled() {
        RatherDesk desk = Check.desk("a/a a id 1", "b/b b-c gz 2");
        Check.list(desk, 0, 0, "a/a;5,*/*");
        Check.list(desk, 1, 0, "a/a;5,*/*");
        desk.swapSides();
        desk.undo();
        return desk;
    }

    private static final String[] STARS = {"*/*,".repeat(9) + "*/*", "*,".repeat(9) + "*",
        "*,".repeat(9) + "*"};
    private static final String[] RANGES = {"*/*,a/b,a/c,a/d,a/a,b/*,a/*,a/o,a/p,z/z",
        "*,b-b,b-c,b-c-d,a,c,d,e,f,b", "*,a,b,c,gz,e,f,g,h,id"};

    /** Sixteen variants, ten entries in each list, and three saved states. */
    private static RatherDesk full(String[] lists) {
        RatherDesk desk = new RatherDesk();
        for (int variant = 0; variant < 16; variant++) {
            Check.text(desk, "a/" + (char) ('a' + variant) + " b id " + variant);
            desk.addVariant();
        }
        for (int side = 0; side < 2; side++) {
            for (int list = 0; list < 3; list++) {
                Check.list(desk, side, list, lists[list] + ";" + (7 - side));
            }
        }
        desk.swapSides();
        desk.undo();
        return desk;
    }

    private static Map<String, Consumer<RatherDesk>> undoable() {
        Map<String, Consumer<RatherDesk>> calls = new LinkedHashMap<>();
        for (int slot = 0; slot < 6; slot++) {
            int side = slot / 3;
            int list = slot % 3;
            calls.put("takeList " + side + " " + list, desk -> desk.takeList(side, list));
        }
        calls.put("addVariant", desk -> desk.addVariant());
        calls.put("removeVariant(0)", desk -> desk.removeVariant(0));
        calls.put("removeVariant of the last", desk -> desk.removeVariant(desk.whole(0) - 1));
        calls.put("setQuality", desk -> desk.setQuality(desk.whole(0) - 1, 7));
        calls.put("setSize", desk -> desk.setSize(desk.whole(0) - 1, 7777));
        calls.put("setWeight", desk -> desk.setWeight(0, 0, 1, 77));
        calls.put("removeEntry", desk -> desk.removeEntry(0, 0, 0));
        calls.put("swapSides", desk -> desk.swapSides());
        calls.put("setTies", desk -> desk.setTies(0, 0, 5));
        return calls;
    }

    private static String textFor(String call) {
        return !call.startsWith("takeList") ? "c/c c id 3" : call.endsWith("0") ? "y/y;3" : "yy;3";
    }

    // "saves the whole state but the text .. when it ends normally"; "The saved state is the
    // one from before the call."
    private static void everyCall() {
        undoable().forEach((name, call) -> {
            RatherDesk desk = filled();
            Check.text(desk, textFor(name));
            long before = desk.digest();
            call.accept(desk);
            long behind = desk.digest();
            Check.due(name + " is saved", 3, desk.undo());
            Check.due("the state from before " + name, before, desk.digest());
            call.accept(desk);
            Check.due(name + " again", behind, desk.digest());
        });
    }

    // The same sentences where every variant and every entry is in use.
    private static void everyCallOfFull() {
        undoable().forEach((name, call) -> {
            RatherDesk desk = full(RANGES);
            if (name.equals("addVariant")) {
                desk.undo();
                desk.removeVariant(3);
            }
            Check.text(desk, textFor(name));
            long before = desk.digest();
            call.accept(desk);
            Check.due(name + " changes", true, before != desk.digest());
            Check.due(name + " of a full desk is saved", 3, desk.undo());
            Check.due("the state from before " + name, before, desk.digest());
        });
    }

    // "also if it changes nothing"
    private static void savedWithoutChange() {
        Map<String, Consumer<RatherDesk>> calls = new LinkedHashMap<>();
        calls.put("takeList", desk -> desk.takeList(1, 0));
        calls.put("setQuality", desk -> desk.setQuality(1, 1000));
        calls.put("setSize", desk -> desk.setSize(1, 2));
        calls.put("setWeight", desk -> desk.setWeight(0, 0, 1, 1000));
        calls.put("swapSides", desk -> desk.swapSides());
        calls.put("setTies", desk -> desk.setTies(1, 0, 0));
        calls.forEach((name, call) -> {
            RatherDesk desk = filled();
            RatherDesk other = filled();
            long before = desk.digest();
            call.accept(desk);
            other.setSize(0, 1);
            Check.due(name + " changes nothing", other.digest(), desk.digest());
            Check.due(name + " is saved", 3, desk.undo());
            Check.due("the same state", before, desk.digest());
        });
        RatherDesk desk = new RatherDesk();
        desk.swapSides();
        desk.setTies(1, 0, 0);
        desk.takeList(0, 0);
        Check.due("of an empty desk", 2, desk.undo());
        Check.due("of an empty desk", 1, desk.undo());
        Check.due("of an empty desk", 0, desk.undo());
        Check.badState("no more", desk, () -> desk.undo());
    }

    // "The stack keeps the latest 4 saved states and drops older ones."
    private static void latestFour() {
        for (int changes = 0; changes <= 12; changes++) {
            RatherDesk desk = Check.desk("a/a a id 100");
            desk.undo();
            desk.addVariant();
            desk.undo();
            Check.badState("none is left", desk, () -> desk.undo());
            desk.addVariant();
            for (int change = 1; change <= changes; change++) {
                desk.setSize(0, 100 + change);
            }
            for (int left = Math.min(changes + 1, 4) - 1; left >= 0; left--) {
                Check.due("undo() of " + changes, left, desk.undo());
                changes(desk, changes - (Math.min(changes + 1, 4) - left));
            }
            Check.badState("older ones are dropped", desk, () -> desk.undo());
        }
    }

    /** The state behind a number of changes; behind -1 of them the variant is not there. */
    private static void changes(RatherDesk desk, int changes) {
        Check.due("variants", changes < 0 ? 0 : 1, desk.whole(0));
        if (changes >= 0) {
            Check.due("size", 100 + changes, desk.variant(0, 0));
        }
    }

    // Promise 28: "Restores the latest saved state and removes it": changes may come between.
    private static void between() {
        RatherDesk desk = Check.desk("a/a a id 0");
        for (int size = 1; size <= 6; size++) {
            desk.setSize(0, size);
        }
        Check.due("undo() to 5", 3, desk.undo());
        Check.due("undo() to 4", 2, desk.undo());
        desk.setSize(0, 7);
        desk.setSize(0, 8);
        Check.due("size", 8, desk.variant(0, 0));
        int[] sizes = {7, 4, 3, 2};
        for (int at = 0; at < 4; at++) {
            Check.due("undo()", 3 - at, desk.undo());
            Check.due("size", sizes[at], desk.variant(0, 0));
        }
        Check.badState("undo() is not undone", desk, () -> desk.undo());
        Check.due("size", 2, desk.variant(0, 0));
    }

    // "An object is used for at most 512 calls": four states are there up to the last call.
    private static void lastCalls() {
        RatherDesk desk = Check.desk("a/a a id 0");
        for (int calls = 12; calls < 506; calls++) {
            Check.due("setSize()", Math.max(0, calls - 12), desk.setSize(0, calls - 11));
        }
        for (int left = 3; left >= 0; left--) {
            Check.due("undo()", left, desk.undo());
        }
        Check.due("the 511th call", 490, desk.variant(0, 0));
        Check.due("the 512th call", 0, desk.whole(2));
    }

    // "saves the whole state but the text"
    private static void textStays() {
        RatherDesk desk = Check.desk("a/a a id 0");
        Check.text(desk, "b;");
        Check.due("undo()", 0, desk.undo());
        Check.due("the length", 2, desk.whole(6));
        Check.due("the fault", 2, desk.listFault(2));
        desk.type('9');
        Check.due("undoable", 1, desk.takeList(0, 2));
        desk.clearText();
        desk.undo();
        Check.due("still empty", 0, desk.whole(6));
        Check.due("no entries", 0, desk.whole(4));
    }

    // Questions, texts, and what finds a fault, are not marked "undoable".
    private static void notUndoable() {
        RatherDesk desk = new RatherDesk();
        Check.text(desk, "?");
        desk.takeList(0, 0);
        desk.addVariant();
        desk.variantFault();
        desk.listFault(0);
        desk.ranked(0);
        desk.whole(3);
        desk.listed(0);
        desk.listingByte(0);
        desk.servedFor(0);
        desk.agree();
        desk.digest();
        Check.badState("none is saved", desk, () -> desk.undo());
    }

    private static List<Runnable> refusedCalls(RatherDesk desk) {
        return new ArrayList<>(List.of(() -> desk.type(128), () -> desk.listFault(3),
                () -> desk.takeList(2, 0), () -> desk.addVariant(), () -> desk.removeVariant(2),
                () -> desk.setQuality(2, 5), () -> desk.setQuality(1, 1001),
                () -> desk.setSize(-1, 5), () -> desk.setSize(1, -1),
                () -> desk.setWeight(0, 0, 2, 5), () -> desk.setWeight(0, 0, 1, 1001),
                () -> desk.removeEntry(0, 0, 2), () -> desk.setTies(1, 2, 6),
                () -> desk.setTies(6, 2, 3), () -> desk.variant(1, 7), () -> desk.weight(0, 3, 0),
                () -> desk.counting(0, 0, 2), () -> desk.entry(0, 0, 0, 4), () -> desk.ranked(-1),
                () -> desk.whole(11), () -> desk.listed(-1), () -> desk.listingByte(-1),
                () -> desk.servedFor(2), () -> desk.servedWithout(2),
                () -> desk.leastWeight(0, 0, 0, 2), () -> desk.leastQuality(2)));
    }

    // "A call that throws an exception changes nothing.": neither what is saved, nor the text.
    private static void throwingChangesNothing() {
        int calls = refusedCalls(filled()).size();
        for (int call = 0; call < calls; call++) {
            RatherDesk asked = twinText(filled());
            RatherDesk spared = twinText(filled());
            boolean thrown = false;
            try {
                refusedCalls(asked).get(call).run();
            } catch (RuntimeException refused) {
                thrown = true;
            }
            Check.due("call " + call + " throws", true, thrown);
            for (int left = 2; left >= 0; left--) {
                Check.due("state behind call " + call, spared.digest(), asked.digest());
                Check.due("undo() behind call " + call, spared.undo(), asked.undo());
            }
            Check.due("first state behind call " + call, spared.digest(), asked.digest());
            Check.due("the text behind call " + call, NONE, asked.variantFault());
            Check.due("it tells the same variant", 1, asked.addVariant());
            Check.due("its size", 9, asked.variant(1, 0));
        }
    }

    private static RatherDesk twinText(RatherDesk desk) {
        Check.text(desk, "b/b b-c gz 9");
        return desk;
    }

    // Promise 28: "if the stack is empty"
    private static void emptyStack() {
        RatherDesk desk = new RatherDesk();
        Check.badState("undo() of a new desk", desk, () -> desk.undo());
        desk.type('?');
        Check.badState("behind a text", desk, () -> desk.undo());
        desk.setTies(0, 0, 0);
        Check.due("undo()", 0, desk.undo());
        Check.badState("undo() again", desk, () -> desk.undo());
        Check.due("the rule", 1, desk.whole(7));
    }

    /** The hash without a bound, of which the lowest 64 bits are the long that wraps. */
    private static long wrapped(long... values) {
        BigInteger hash = BigInteger.valueOf(12856);
        for (long value : values) {
            hash = hash.multiply(BigInteger.valueOf(31)).add(BigInteger.valueOf(value));
        }
        return hash.longValue();
    }

    // Promise 29: "It starts with h = 12856. .. h becomes 31 * h + v (long arithmetic,
    // overflow wraps)."
    private static void digestWraps() {
        Check.due("digest() of nothing", wrapped(0, 0, 0, -1, 0, 0, 0, 0, 1, 0, 0, 0),
                new RatherDesk().digest());
        RatherDesk desk = Check.desk("a/b c d 9");
        Check.due("digest() of one", wrapped(1, 1, 1, 0, 1000, 0, 0, 9, 1, 0, 0, 9,
                9, 1000, 1000, 0, 0, 0, 1, 1000, 1000, 1000, 1000, 1000, 1000, 0,
                'a', '/', 'b', ' ', 'c', ' ', 'd', ' ', '9'), desk.digest());
        desk.setQuality(0, 0);
        Check.due("digest() of one that is refused", wrapped(2, 1, 0, NONE, 0, 0, 0, 9, 1, 0, 0, 9,
                9, 0, 0, 7, NONE, 0, 1, 1000, 1000, 1000, 1000, 1000, 1000,
                'a', '/', 'b', ' ', 'c', ' ', 'd', ' ', '9'), desk.digest());
        RatherDesk lists = new RatherDesk();
        Check.list(lists, 1, 1, "a-b;0,*");
        Check.list(lists, 0, 2, "*;5");
        Check.due("digest() of lists alone", wrapped(2, 0, 0, NONE, 0, 1, 2, 3, 1, 0, 0, 0,
                5, 0, 0, 0, 0, 2, 0, 0, 1000, 0, 0, 0), lists.digest());
        RatherDesk filled = filled();
        Check.due("digest() of more", wrapped(UndoDigestTest.values(filled, 3)), filled.digest());
    }

    // Promise 29, of sixteen variants and ten entries in each list, worked out by hand.
    private static void digestOfFull() {
        RatherDesk desk = full(STARS);
        Check.list(desk, 1, 2, "*,*,*,*,*,*,*,*,*,*;6");
        List<Integer> values = new ArrayList<>(
                List.of(4, 16, 16, 0, 1000, 30, 30, 21, 1, 0, 0, 16 * 10 + 6 + 15 * 2));
        for (int variant = 0; variant < 16; variant++) {
            values.addAll(List.of(variant, 1000, 1000, 0, variant, variant, 1));
            values.addAll(List.of(1000, 1000, 1000, 1000, 1000, 1000));
        }
        for (int row = 0; row < 60; row++) {
            boolean last = row % 10 == 9;
            values.addAll(List.of(!last ? 1000 : row < 30 ? 7 : 6, 0, 16, row % 10 == 0 ? 16 : 0));
        }
        StringBuilder listing = new StringBuilder();
        for (int variant = 0; variant < 16; variant++) {
            values.add(variant);
            listing.append(variant > 0 ? ", " : "").append("a/").append((char) ('a' + variant))
                    .append(" b id ").append(variant);
        }
        listing.chars().forEach(values::add);
        Check.due("digest() of a full desk",
                wrapped(values.stream().mapToLong(Integer::longValue).toArray()), desk.digest());
    }

    public static void main(String[] args) {
        everyCall();
        everyCallOfFull();
        savedWithoutChange();
        latestFour();
        between();
        lastCalls();
        textStays();
        notUndoable();
        throwingChangesNothing();
        emptyStack();
        digestWraps();
        digestOfFull();
        Check.end();
    }
}
