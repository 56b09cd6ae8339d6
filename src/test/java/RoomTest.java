import com.sun.management.ThreadMXBean;
import java.lang.management.ManagementFactory;

/** No call makes an object or an array: all rows are made with the desk. */
public final class RoomTest {
    private static final ThreadMXBean ROOM =
            (ThreadMXBean) ManagementFactory.getThreadMXBean();
    private static final int TURNS = 200;

    private static void calls(RatherDesk desk) {
        desk.clearText();
        String text = "zz/y en-gb gz 999999";
        for (int index = 0; index < text.length(); index++) {
            desk.type(text.charAt(index));
        }
        desk.variantFault();
        desk.addVariant();
        desk.removeVariant(desk.whole(0) - 1);
        desk.clearText();
        desk.type('*');
        desk.takeList(1, 1);
        desk.listFault(0);
        desk.setQuality(0, 5);
        desk.setSize(0, 5);
        desk.setWeight(0, 0, 0, 5);
        desk.removeEntry(1, 1, 0);
        desk.swapSides();
        desk.undo();
        desk.setTies(5, 4, 3);
        desk.undo();
        desk.variant(0, 4);
        desk.weight(0, 0, 0);
        desk.counting(0, 0, 0);
        desk.entry(0, 0, 0, 3);
        desk.ranked(0);
        desk.listed(0);
        desk.listingByte(0);
        desk.servedFor(1);
        desk.servedWithout(0);
        desk.leastWeight(0, 0, 0, 1);
        desk.leastQuality(1);
        desk.agree();
        desk.digest();
    }

    public static void main(String[] args) {
        RatherDesk desk = Check.desk("a/a a id 1", "a/b b id 2", "b/c c gz 3");
        Check.list(desk, 0, 0, "*/*;800,a/*;900");
        calls(desk);
        long thread = Thread.currentThread().getId();
        ROOM.getThreadAllocatedBytes(thread);
        long before = ROOM.getThreadAllocatedBytes(thread);
        for (int turn = 0; turn < TURNS; turn++) {
            calls(desk);
        }
        long made = ROOM.getThreadAllocatedBytes(thread) - before;
        // Measuring may take a little room of its own.
        Check.due("bytes made a turn", 0, made / TURNS / 16);
        Check.end();
    }
}
