/** Promises 1 to 7: a new object, and the texts. */
public final class TextsTest {
    private static void newObject() {
        RatherDesk desk = new RatherDesk();
        int[] whole = {0, 0, -1, 0, 0, 0, 0, 1, 0, 0, 0};
        long hash = 31L * 12856;
        for (int what = 0; what <= 10; what++) {
            Check.due("new whole(" + what + ")", whole[what], desk.whole(what));
            hash = 31 * hash + whole[what];
        }
        Check.due("new digest()", hash, desk.digest());
        Check.due("new ranked(0)", -1, desk.ranked(0));
        Check.due("new listed(0)", -1, desk.listed(0));
        Check.due("new listingByte(0)", -1, desk.listingByte(0));
        Check.due("new variantFault()", 0, desk.variantFault());
        Check.due("new listFault(2)", -1, desk.listFault(2));
        Check.due("new agree()", true, desk.agree());
        Check.badState("new undo()", desk, () -> desk.undo());
        Check.outOfBounds("new variant(0, 0)", desk, () -> desk.variant(0, 0));
        Check.outOfBounds("new entry(1, 2, 0, 0)", desk, () -> desk.entry(1, 2, 0, 0));
    }

    private static void typing() {
        RatherDesk desk = new RatherDesk();
        Check.due("type(0)", 1, desk.type(0));
        Check.due("type(127)", 2, desk.type(127));
        Check.badArgument("type(-1)", desk, () -> desk.type(-1));
        Check.badArgument("type(128)", desk, () -> desk.type(128));
        Check.badArgument("type(MAX)", desk, () -> desk.type(Integer.MAX_VALUE));
        Check.badArgument("type(MIN)", desk, () -> desk.type(Integer.MIN_VALUE));
        Check.due("clearText()", 2, desk.clearText());
        Check.due("clearText() again", 0, desk.clearText());
        for (int length = 1; length <= 120; length++) {
            Check.due("type(32)", length, desk.type(32));
        }
        Check.badState("type(32) behind 120", desk, () -> desk.type(32));
        Check.badArgument("type(128) behind 120", desk, () -> desk.type(128));
        Check.due("whole(6)", 120, desk.whole(6));
        Check.due("120 spaces as a list", -1, desk.listFault(0));
        Check.due("120 spaces as a variant", 120, desk.variantFault());
        Check.due("clearText() of 120", 120, desk.clearText());
        Check.due("whole(6) then", 0, desk.whole(6));
        Check.due("type(97) then", 1, desk.type(97));
        Check.badState("typing is not undoable", desk, () -> desk.undo());
    }

    private static void faults(int list, Object... rows) {
        for (int row = 0; row < rows.length; row += 2) {
            RatherDesk desk = new RatherDesk();
            String text = (String) rows[row];
            int fault = (Integer) rows[row + 1];
            Check.text(desk, text);
            Check.due("listFault(" + list + ") of '" + text + "'", fault, desk.listFault(list));
            if (fault >= 0) {
                long before = desk.digest();
                Check.due("takeList of '" + text + "'", -10 - fault, desk.takeList(1, list));
                Check.due("digest() behind it", before, desk.digest());
            } else {
                Check.due("entries of '" + text + "'", desk.takeList(1, list), desk.whole(5));
            }
        }
    }

    private static void listFaults() {
        faults(0, "", -1, "  ", -1, "a/b", -1, "abcd/wxyz", -1, "a/*", -1, "*/*", -1, "*", 1,
                "*/", 2, "*/a", 2, "a", 1, "a/", 2, "a/*b", 3, "a/**", 3, "abcde/a", 4,
                "a/abcde", 6, "/a", 0, "a/b/c", 3, "a-b/c", 1, "**", 1, "a /b", 1, "a/ b", 2,
                "a/b,c/*,*/*", -1, "aa/*;1,", 7, ",a/b", 0, "a/b;1;1", 5, "a/b c/d", 4,
                "0", 0, "a1/b", 1, "`/b", 0, "{/b", 0, "z/z", -1, "A/b", 0, "* /*", 1);
        faults(1, "en", -1, "en-gb", -1, "a-b-c", -1, "abcd-abcd-abcd", -1, "a-b-c-d", 5,
                "a-b-c-", 5, "*", -1, "*-a", 1, "a-*", 2, "a-", 2, "-", 0, "a--b", 2, "a- b", 2,
                "abcde", 4, "a-bcdef", 6, "a-b-cdefg", 8, "a/b", 1, "**", 1, "a,*", -1, "a*", 1);
        faults(2, "gz", -1, "*", -1, "gzip", -1, "gzipp", 4, "a-b", 1, "a/b", 1, "**", 1,
                "a,b,c", -1, "a,,b", 2, "a,", 2, "a, ", 3, ",", 0, " ,", 1, "a b", 2, "a\tb", 1);
        faults(2, "a;0", -1, "a;00", -1, "a;0000", -1, "a;1000", -1, "a;0999", -1, "a;999", -1,
                "a;1001", 2, "a;9999", 2, "a;10000", 6, "a;10010", 6, "a;00001", 6, "a;00000", 6,
                "a;1001 ", 2, "a;1001 5", 2, "a;1001x", 2, "a;1001,", 2, "a;1001;", 2,
                "a;", 2, "a; ", 3, "a;,", 2, "a;-1", 2, "a;1.0", 3, "a;5 5", 4, "a;5x", 3,
                "a;5,b;1001", 6, "a;1001,b;5x", 2, ";5", 0, "*;1", -1, "a;:", 2, "a;/", 2);
        faults(2, " a ; 5 , b ; 6 ", -1, "  a  ;  5  ,  b  ", -1, "a ;5", -1, "a; 5", -1,
                "a ,b", -1, "a, b", -1, "a ", -1, " a", -1, "a ; 5 ; 6", 6, "a  b", 3);
        faults(2, "a,b,c,d,e,f,g,h,i,j", -1, "a,b,c,d,e,f,g,h,i,j ", -1,
                "a,b,c,d,e,f,g,h,i,j,k", 20, "a,b,c,d,e,f,g,h,i,j,  k", 22,
                "a,b,c,d,e,f,g,h,i,j,", 20, "a,b,c,d,e,f,g,h,i,j, ", 21,
                "a,b,c,d,e,f,g,h,i,j,*;5", 20, "a,b,c,d,e,f,g,h,i,j,0", 20,
                "a,b,c,d,e,f,g,h,i,j;1001,k", 20, "a,b,c,d,e,f,g,h,i,j;5;", 21);
        RatherDesk desk = new RatherDesk();
        Check.outOfBounds("listFault(-1)", desk, () -> desk.listFault(-1));
        Check.outOfBounds("listFault(3)", desk, () -> desk.listFault(3));
        Check.outOfBounds("listFault(MAX)", desk, () -> desk.listFault(Integer.MAX_VALUE));
    }

    private static void variantFaults(Object... rows) {
        for (int row = 0; row < rows.length; row += 2) {
            RatherDesk desk = new RatherDesk();
            String text = (String) rows[row];
            int fault = (Integer) rows[row + 1];
            Check.text(desk, text);
            Check.due("variantFault() of '" + text + "'", fault, desk.variantFault());
            long before = desk.digest();
            int due = fault < 0 ? 0 : -10 - fault;
            Check.due("addVariant() of '" + text + "'", due, desk.addVariant());
            Check.due("variants of '" + text + "'", fault < 0 ? 1 : 0, desk.whole(0));
            if (fault >= 0) {
                Check.due("digest() behind it", before, desk.digest());
            }
        }
    }

    private static void variantTexts() {
        variantFaults("a/b c d 0", -1, "abcd/efgh abcd-efgh-ijkl gzip 999999", -1,
                "a/b c-d id 000000", -1, "  a/b   c-d-e   id   12   ", -1, "", 0, "   ", 3,
                "a", 1, "a/", 2, "a/b", 3, "a/b ", 4, "a/b c", 5, "a/b c ", 6, "a/b c d", 7,
                "a/b c d ", 8, "a/* c d 1", 2, "*/* c d 1", 0, "a/b * d 1", 4, "a/b c * 1", 6,
                "a/b c-d-e-f g 1", 9, "a/b c- d 1", 6, "a/b c d-e 1", 7, "a/b c d/e 1", 7,
                "a/b/c d e 1", 3, "abcde/f g h 1", 4, "a/bcdef g h 1", 6, "a/b cdefg h 1", 8,
                "a/b c defgh 1", 10, "a/b c d 1234567", 14, "a/b c d 0000000", 14,
                "a/b c d 1 2", 10, "a/b c d 1x", 9, "a/b c d x", 8, "a/b c d -1", 8,
                "a/b,c d 1", 3, "a/b c d1", 7, "a/b c d 1;", 9, "A/b c d 1", 0);
        RatherDesk desk = Check.desk("a/b c d 77");
        int[] values = {77, 1000, 1000, 0, 0, 0, 1};
        for (int what = 0; what <= 6; what++) {
            Check.due("variant(0, " + what + ")", values[what], desk.variant(0, what));
        }
        Check.due("the text stays", 10, desk.whole(6));
        Check.badState("the same variant", desk, () -> desk.addVariant());
        Check.text(desk, " a/b  c d  78");
        Check.badState("another size alone", desk, () -> desk.addVariant());
        String[] others = {"b/b c d 1", "a/c c d 1", "a/b d d 1", "a/b c-d d 1", "a/b c e 1",
            "a/b c dd 1", "aa/b c d 1"};
        for (int other = 0; other < others.length; other++) {
            Check.text(desk, others[other]);
            Check.due("addVariant() of " + others[other], other + 1, desk.addVariant());
        }
    }

    private static void sixteen() {
        RatherDesk desk = new RatherDesk();
        for (int variant = 0; variant < 16; variant++) {
            Check.text(desk, "a/" + (char) ('a' + variant) + " en id 9");
            Check.due("addVariant()", variant, desk.addVariant());
        }
        Check.text(desk, "b/b en id 9");
        Check.badState("a seventeenth", desk, () -> desk.addVariant());
        Check.text(desk, "b/b en id");
        Check.due("a fault ahead of all", -19, desk.addVariant());
        Check.due("states", 3, desk.undo());
        Check.text(desk, "b/b en id 9");
        Check.due("addVariant() behind undo()", 15, desk.addVariant());
        Check.due("the sixteenth's size", 9, desk.variant(15, 0));
    }

    private static void taking() {
        RatherDesk desk = Check.desk("a/b c d 1");
        Check.text(desk, " a/* ; 7 , */*, a/b ;0 ");
        Check.due("takeList(1, 0)", 3, desk.takeList(1, 0));
        int[] due = {7, 1, 1, 0, 1000, 0, 1, 0, 0, 2, 1, 1};
        for (int row = 0; row < due.length; row++) {
            Check.due("entry " + row, due[row], desk.entry(1, 0, row / 4, row % 4));
        }
        Check.due("entries of the side 0", 0, desk.whole(4));
        Check.text(desk, "c;1");
        Check.due("another kind", 1, desk.takeList(1, 1));
        Check.due("entries of the side 1", 4, desk.whole(5));
        Check.text(desk, "x/y");
        Check.due("in its place", 1, desk.takeList(1, 0));
        Check.due("entries of the side 1 then", 2, desk.whole(5));
        Check.text(desk, "");
        Check.due("an empty one", 0, desk.takeList(1, 0));
        Check.due("the weight of an empty one", 1000, desk.weight(1, 0, 0));
        Check.due("undoable", 3, desk.undo());
        Check.due("the weight then", 0, desk.weight(1, 0, 0));
        Check.outOfBounds("takeList(-1, 0)", desk, () -> desk.takeList(-1, 0));
        Check.outOfBounds("takeList(2, 0)", desk, () -> desk.takeList(2, 0));
        Check.outOfBounds("takeList(0, -1)", desk, () -> desk.takeList(0, -1));
        Check.outOfBounds("takeList(0, 3)", desk, () -> desk.takeList(0, 3));
        Check.text(desk, "?");
        Check.outOfBounds("a fault comes second", desk, () -> desk.takeList(0, 3));
    }

    public static void main(String[] args) {
        newObject();
        typing();
        listFaults();
        variantTexts();
        sixteen();
        taking();
        Check.end();
    }
}
