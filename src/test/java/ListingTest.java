/** Promises 21 and 22: the listing. */
public final class ListingTest {
    private static void order() {
        RatherDesk desk = Check.desk("b/a a id 1", "ab/c a id 2", "a/b a id 3", "a/ba a id 4",
                "a/b en-gb id 5", "a/b ena id 6", "a/b en id 7", "a/b en-gb-x id 8",
                "a/b en-gba id 9", "a/b en-gb gz 10", "a/b en-gb gzz 0");
        String due = "a/b a id 3, a/b en id 7, a/b en-gb gz 10, a/b en-gb gzz 0, a/b en-gb id 5, "
                + "a/b en-gb-x id 8, a/b en-gba id 9, a/b ena id 6, a/ba a id 4, ab/c a id 2, "
                + "b/a a id 1";
        Check.same("listing", due, Check.listing(desk));
        Check.due("whole(10)", due.length(), desk.whole(10));
        int[] places = {2, 6, 9, 10, 4, 7, 8, 5, 3, 1, 0};
        for (int place = 0; place < places.length; place++) {
            Check.due("listed(" + place + ")", places[place], desk.listed(place));
            Check.due("its place", place, desk.variant(places[place], 5));
        }
        Check.due("listed(11)", -1, desk.listed(11));
        Check.due("listed(16)", -1, desk.listed(16));
        Check.due("listed(MAX)", -1, desk.listed(Integer.MAX_VALUE));
        Check.due("listingByte behind the end", -1, desk.listingByte(due.length()));
        Check.due("listingByte(MAX)", -1, desk.listingByte(Integer.MAX_VALUE));
        Check.badArgument("listed(-1)", desk, () -> desk.listed(-1));
        Check.badArgument("listed(MIN)", desk, () -> desk.listed(Integer.MIN_VALUE));
        Check.badArgument("listingByte(-1)", desk, () -> desk.listingByte(-1));
        Check.badArgument("listingByte(MIN)", desk, () -> desk.listingByte(Integer.MIN_VALUE));
    }

    private static void refusedOnes() {
        RatherDesk desk = Check.desk("b/a a id 1", "a/b c-d e 999999");
        desk.setQuality(1, 0);
        Check.same("the refused one is there", "a/b c-d e 999999, b/a a id 1",
                Check.listing(desk));
        desk.setSize(1, 100000);
        Check.same("another size", "a/b c-d e 100000, b/a a id 1", Check.listing(desk));
        desk.setSize(1, 0);
        Check.same("no size", "a/b c-d e 0, b/a a id 1", Check.listing(desk));
        desk.undo();
        Check.same("behind undo()", "a/b c-d e 100000, b/a a id 1", Check.listing(desk));
        desk.removeVariant(0);
        Check.same("one alone", "a/b c-d e 100000", Check.listing(desk));
        Check.due("its number", 0, desk.listed(0));
    }

    /** As many of the longest variants as the calls that are promised can add. */
    private static void longest() {
        RatherDesk desk = new RatherDesk();
        for (int variant = 0; variant < 13; variant++) {
            Check.text(desk, "zzzz/zzzz yyyy-yyyy-yyyy zzz" + (char) ('a' + variant) + " 999999");
            Check.due("addVariant()", variant, desk.addVariant());
        }
        Check.due("its length", 492, desk.whole(10));
        Check.due("its first byte", 'z', desk.listingByte(0));
        Check.due("its last coding", 'm', desk.listingByte(484));
        Check.due("its last byte but six", ' ', desk.listingByte(485));
        Check.due("its last byte", '9', desk.listingByte(491));
        Check.due("behind it", -1, desk.listingByte(492));
        Check.due("the last comma", ',', desk.listingByte(454));
        Check.due("the last space between two", ' ', desk.listingByte(455));
    }

    public static void main(String[] args) {
        order();
        refusedOnes();
        longest();
        Check.end();
    }
}
