/** The term TEXTS: a test for each of its sentences that names a boundary case. */
public final class TextBoundsTest {
    private static final int NONE = RatherDesk.NONE;
    private static final int TYPES = 0;
    private static final int LANGUAGES = 1;
    private static final int CODINGS = 2;
    private static final int VARIANT = 3;
    private static final String TEN = "a,b,c,d,e,f,g,h,i,j";

    private static RatherDesk typed(String text) {
        RatherDesk desk = new RatherDesk();
        Check.text(desk, text);
        return desk;
    }

    /** The fault of a text, as it is asked for and as it is told where the text is taken. */
    private static void fault(int kind, String text, int due) {
        RatherDesk desk = typed(text);
        int got = kind == VARIANT ? desk.variantFault() : desk.listFault(kind);
        Check.due("fault of '" + text + "' as " + kind, due, got);
        int taken = kind == VARIANT ? desk.addVariant() : desk.takeList(1, kind);
        if (due == NONE) {
            Check.due("'" + text + "' is taken as " + kind, true, taken >= 0);
            Check.due("it is saved", 0, desk.undo());
        } else {
            Check.due("taking '" + text + "' as " + kind, -10 - due, taken);
            Check.badState("it is not saved", desk, () -> desk.undo());
        }
    }

    private static void faults(int kind, Object... rows) {
        for (int row = 0; row < rows.length; row += 2) {
            fault(kind, (String) rows[row], (Integer) rows[row + 1]);
        }
    }

    // "A name has one to four letters a to z."
    private static void nameWhere(int kind, String form) {
        int at = form.indexOf('?');
        for (String name : "a z az mno wxyz aaaa zzzz".split(" ")) {
            fault(kind, form.replace("?", name), NONE);
        }
        fault(kind, form.replace("?", "abcde"), at + 4);
        fault(kind, form.replace("?", "zzzzzzzzz"), at + 4);
        for (char wrong : "`{@[AZ09_.\u0000\u001f!\u007f".toCharArray()) {
            fault(kind, form.replace("?", "" + wrong), at);
            fault(kind, form.replace("?", "a" + wrong), at + 1);
            fault(kind, form.replace("?", "abc" + wrong), at + 3);
            fault(kind, form.replace("?", "abcd" + wrong), at + 4);
        }
    }

    private static void names() {
        String[] types = {"?/b", "b/?", "?/*"};
        String[] languages = {"?", "?-b", "b-?", "?-b-b", "b-?-b", "b-b-?"};
        for (String type : types) {
            nameWhere(TYPES, type);
        }
        for (String language : languages) {
            nameWhere(LANGUAGES, language);
            nameWhere(VARIANT, "b/b " + language + " b 1");
        }
        nameWhere(CODINGS, "?");
        nameWhere(VARIANT, "?/b b b 1");
        nameWhere(VARIANT, "b/? b b 1");
        nameWhere(VARIANT, "b/b b ? 1");
    }

    // The same sentence: no name has no letters.
    private static void emptyNames() {
        faults(TYPES, "/b", 0, "b/", 2, "/*", 0, "/", 0, "b/,b/b", 2);
        faults(LANGUAGES, "-b", 0, "b-", 2, "-b-b", 0, "b--b", 2, "b-b-", 4, "-", 0, "b-,b", 2);
        faults(CODINGS, ";5", 0, "b,,b", 2);
        faults(VARIANT, "/b b b 1", 0, "b/ b b 1", 2, "b/b -b b 1", 4, "b/b b- b 1", 6,
                "b/b b--b b 1", 6, "b/b b-b- b 1", 8, "b/b b  1", 7);
    }

    // "A type is two names with "/" between them, a language one to three names with "-"
    // between two of them, a coding a name."
    private static void numbersOfNames() {
        faults(TYPES, "b", 1, "b/b", NONE, "b/b/b", 3, "b-b", 1, "b/b-b", 3, "b b", 1);
        faults(LANGUAGES, "b", NONE, "b-b", NONE, "b-b-b", NONE, "b-b-b-b", 5, "b-b-b-", 5,
                "b/b", 1, "bbbb-bbbb-bbbb", NONE, "bbbb-bbbb-bbbb-", 14);
        faults(CODINGS, "b", NONE, "b-b", 1, "b/b", 1);
        faults(VARIANT, "b b b 1", 1, "b/b b b 1", NONE, "b/b/b b b 1", 3, "b-b b b 1", 1,
                "b/b b-b b 1", NONE, "b/b b-b-b b 1", NONE, "b/b b-b-b-b b 1", 9,
                "b/b b/b b 1", 5, "b/b b b-b 1", 7, "b/b b b/b 1", 7);
    }

    // "A range of types is a type, a name with "/*" behind it, or "*" with "/*" behind it; a
    // range of languages is a language or "*"; a range of codings is a coding or "*"."
    private static void stars() {
        faults(TYPES, "*/*", NONE, "b/*", NONE, "*/b", 2, "*", 1, "*/", 2, "**", 1, "b*", 1,
                "b/**", 3, "*/**", 3, "b/b*", 3, "b/*b", 3, "*b/b", 1, "*/*/*", 3, "*;5", 1,
                "*-*", 1, "b/*/b", 3, "*,*/*", 1);
        faults(LANGUAGES, "*", NONE, "**", 1, "b*", 1, "*b", 1, "*-*", 1, "*-b", 1, "b-*", 2,
                "b-b-*", 4, "*/*", 1, "b/*", 1);
        faults(CODINGS, "*", NONE, "**", 1, "b*", 1, "*b", 1, "*/*", 1, "*-*", 1);
        faults(VARIANT, "*/* b b 1", 0, "b/* b b 1", 2, "b/b * b 1", 4, "b/b b-* b 1", 6,
                "b/b b * 1", 6, "b/b b b *", 8);
    }

    // "(perhaps none: a text that is empty, or has spaces alone, tells an empty list)"
    private static void emptyLists() {
        for (int list = 0; list < 3; list++) {
            for (int length : new int[] {0, 1, 2, 119, 120}) {
                RatherDesk desk = new RatherDesk();
                Check.list(desk, 0, list, list == TYPES ? "b/b;5" : "b;5");
                Check.text(desk, " ".repeat(length));
                Check.due(length + " spaces", NONE, desk.listFault(list));
                Check.due("entries of " + length + " spaces", 0, desk.takeList(0, list));
                Check.due("entries then", 0, desk.whole(4));
            }
        }
        faults(CODINGS, "\t", 0, " \u0000", 1, " !", 1, "  \u007f", 2);
    }

    // "with "," between two of them"
    private static void commas() {
        faults(CODINGS, "a,b", NONE, ",", 0, ",a", 0, "a,", 2, "a,,b", 2, " ,", 1, "a,b,", 4,
                "a, ", 3, "a , , b", 4, "a b", 2, "a;5 b", 4, "a;b", 2, "a.b", 1, "a-b", 1,
                "a+b", 1, "a,b c", 4, "a,;5", 2);
        faults(TYPES, "a/b,c/*,*/*", NONE, "a/b,", 4, "a/b c/d", 4, "a/b,,", 4, "a/*,", 4);
        faults(LANGUAGES, "a-b,c,*", NONE, "a-b,", 4, "a-b c", 4, "*,", 2, "*,,", 2, "* *", 2);
    }

    // "A weight has one to four digits (zeros in front are allowed), and is at most 1000"
    private static void weights() {
        String[] good = {"0", "1", "9", "00", "10", "99", "000", "100", "999", "0000", "0001",
            "0009", "0010", "0100", "0999", "1000"};
        for (String weight : good) {
            RatherDesk desk = typed("b;" + weight);
            Check.due("takeList of " + weight, 1, desk.takeList(0, CODINGS));
            Check.due("its weight", Integer.parseInt(weight), desk.entry(0, CODINGS, 0, 0));
        }
        faults(CODINGS, "b;", 2, "b; ", 3, "b;,", 2, "b;;", 2, "b;5;", 3, "b;5;5", 3, "b;x", 2,
                "b;-1", 2, "b;+1", 2, "b;/", 2, "b;:", 2, "b;5/", 3, "b;5:", 3, "b;*", 2,
                "b;1.0", 3, "b;5 5", 4, "b;100 0", 6, "b;5x", 3, "b 5", 2, "5", 0);
        faults(TYPES, "*/*;1000", NONE, "b/*;0", NONE, "b/b;", 4, "b/b;5;", 5);
        faults(LANGUAGES, "*;1000", NONE, "b-b-b;0", NONE, "b-b-b;", 6, "*;5;", 3);
    }

    // "without it the weight is 1000"
    private static void noWeight() {
        RatherDesk desk = typed("*;5,a,b;0,c ");
        Check.due("takeList()", 4, desk.takeList(0, CODINGS));
        int[] due = {5, 1000, 0, 1000};
        for (int entry = 0; entry < 4; entry++) {
            Check.due("weight of entry " + entry, due[entry], desk.entry(0, CODINGS, entry, 0));
        }
    }

    // "Spaces (byte 32) may stand at the beginning, at the end, and ahead of and behind ","
    // and ";"."
    private static void spaces() {
        String[] good = {" a", "a ", "a ,b", "a, b", "a ;5", "a; 5", "a;5 ", "a;5 ,b", "a;5, b",
            "   a   ;   5   ,   b   ;   6   ", " * "};
        for (String text : good) {
            fault(CODINGS, text, NONE);
        }
        faults(CODINGS, "a b", 2, "a  b", 3, "a;1 0", 4, "a ;5 6", 5, "a;5  6", 5, "* *", 2);
        faults(TYPES, " a/b ; 5 , */* ", NONE, "a /b", 1, "a/ b", 2, "a /*", 1, "a/ *", 2,
                "* /*", 1, "*/ *", 2, "a a/b", 1, "a/b b", 4);
        faults(LANGUAGES, " a-b ; 5 , * ", NONE, "a -b", 2, "a- b", 2, "a-b -c", 4, "a-b- c", 4,
                "a a", 2);
        for (char other : "\u0000\t\n\r\u001f!\u007f".toCharArray()) {
            faults(CODINGS, other + "a", 0, "a" + other, 1, "a" + other + ",b", 1,
                    "a," + other + "b", 2, "a" + other + ";5", 1, "a;" + other + "5", 2,
                    "a;5" + other, 3, " " + other, 1, "a; " + other, 3, "a, " + other, 3);
            faults(VARIANT, other + "a/b c d 1", 0, "a/b" + other + "c d 1", 3,
                    "a/b " + other + "c d 1", 4, "a/b c" + other + "d 1", 5,
                    "a/b c d" + other + "1", 7, "a/b c d 1" + other, 9);
        }
    }

    // "There are at most 10 entries." and "of an eleventh entry its first byte" is at fault.
    private static void tenEntries() {
        RatherDesk desk = typed(" " + TEN + " ");
        Check.due("ten entries", 10, desk.takeList(1, CODINGS));
        Check.due("whole(5)", 10, desk.whole(5));
        faults(CODINGS, "a,b,c,d,e,f,g,h,i", NONE, TEN, NONE, TEN + ";0", NONE, TEN + ",k", 20,
                TEN + ",*", 20, TEN + ", k", 21, TEN + " ,  k", 23, TEN + ",k,l,m", 20,
                TEN + ",k;1001", 20, TEN + ",k;", 20, TEN + ",abcde", 20, TEN + ",?", 20,
                TEN + ",", 20, TEN + ",  ", 22, TEN + ",,", 20, TEN + ";1001,k", 20,
                TEN + ";5,k", 22, TEN + "k,l", 21, TEN + " k", 20, TEN + "/", 19);
        String types = "*/*,a/*,a/b,a/c,a/d,a/e,a/f,a/g,a/h,a/i";
        faults(TYPES, types, NONE, types + ",a/j", 40, types + ",*/*", 40, types + ", a", 41);
        String languages = "*,a,b,c,d,e-f,g-h,i-j-k,l,m";
        faults(LANGUAGES, languages, NONE, languages + ",n-o", 28, languages + ",*", 28,
                languages + " , ", 30);
        String wide = "wxyz;1000,wxyz;1000,wxyz;1000,wxyz;1000,wxyz;1000,";
        faults(CODINGS, wide + wide.substring(0, 49), NONE, wide + wide + "wxyz", 100,
                wide + wide + " ".repeat(19) + "x", 119, wide + wide + " ".repeat(20), 120);
    }

    // "a type, a language, a coding, and a size of one to six digits (zeros in front are
    // allowed)"
    private static void sizes() {
        String[] good = {"0", "7", "00", "10", "999", "0000", "12345", "00000", "000000",
            "000001", "099999", "100000", "999999"};
        for (String size : good) {
            RatherDesk desk = typed("a/b c d " + size);
            Check.due("addVariant() with " + size, 0, desk.addVariant());
            Check.due("its size", Integer.parseInt(size), desk.variant(0, 0));
            Check.due("its quality", 1000, desk.variant(0, 1));
        }
        faults(VARIANT, "a/b c d 1000000", 14, "a/b c d 0000000", 14, "a/b c d 12345678", 14,
                "a/b c d 0000001", 14, "a/b c d 999999x", 14, "a/b c d 99999x", 13,
                "a/b c d x", 8, "a/b c d 1x", 9, "a/b c d -1", 8, "a/b c d /", 8,
                "a/b c d :", 8, "a/b c d 1/", 9, "a/b c d 1:", 9, "a/b c d 1;5", 9,
                "a/b c d 1,", 9, "a/b c d 1.", 9);
    }

    // "with at least one space between two of them; spaces may also stand at the beginning
    // and at the end"
    private static void spacesInVariants() {
        String[] good = {"a/b c d 1", "a/b  c d 1", "a/b c  d 1", "a/b c d  1", " a/b c d 1",
            "a/b c d 1 ", "   a/b   c   d   1   "};
        for (String text : good) {
            fault(VARIANT, text, NONE);
        }
        faults(VARIANT, "a/bbbbc d 1", 6, "a/b cccccd 1", 8, "a/b c d1", 7, "a/b c1", 5,
                "a/b1", 3, "a/b,c d 1", 3, "a/b c,d 1", 5, "a/b c d,1", 7, "a/b c d 1 2", 10,
                "a/b c d 1 e", 10, "a/b c d e 1", 8, "a/b c 1", 6, "a/b 1", 4, "1", 0,
                "a /b c d 1", 1, "a/ b c d 1", 2, "a/b c -d e 1", 6, "a/b c- d e 1", 6);
    }

    // "The fault of a text is the index of the first byte that cannot stand at its place, or
    // the length of the text if it ends too soon."
    private static void tooSoon() {
        String variant = " aa/bb  c-dd-e  ff  12 ";
        for (int length = 0; length <= variant.length(); length++) {
            fault(VARIANT, variant.substring(0, length), length < 21 ? length : NONE);
        }
        tooSoonOf(TYPES, " aa/b ; 10 , c/* , */* ",
                         "+...++..+++....++....++");
        tooSoonOf(LANGUAGES, " a-b-cc;1000,* , d ",
                             "++.+.++.++++.++..++");
        tooSoonOf(CODINGS, "aa ; 0010 , b;5",
                           "+++..+++++..+.+");
        faults(TYPES, "?a/b;1001", 0, "a?", 1, "a/b;x,y", 4, "a/b;5?;1001", 5);
        faults(VARIANT, "?", 0, "a/b c ? d", 6, "a/bcdefg ?", 6);
    }

    /** The beginning of a text up to a "+" tells a list; up to a "." it ends too soon. */
    private static void tooSoonOf(int list, String text, String marks) {
        Check.due("marks", text.length(), marks.length());
        for (int length = 1; length <= text.length(); length++) {
            boolean tells = marks.charAt(length - 1) == '+';
            fault(list, text.substring(0, length), tells ? NONE : length);
        }
    }

    // "Besides, of a weight of four digits that is above 1000, the first digit is at fault
    // (unless a fifth one follows)"
    private static void greatWeights() {
        String[] behinds = {"", " ", ";", ",", "x", "/", ":", "-", "*", " 5", "  5", ";x", " ?"};
        for (String weight : "1001 1010 1100 2000 9999".split(" ")) {
            for (String behind : behinds) {
                fault(CODINGS, "b;" + weight + behind, 2);
            }
            fault(CODINGS, "b;" + weight + ",c", 2);
            fault(CODINGS, "b;" + weight + ",c;5x", 2);
            fault(CODINGS, "b;" + weight + ",c;" + weight, 2);
            fault(TYPES, "b/*;1,*/* ;  " + weight, 13);
            fault(LANGUAGES, "*;1000 , b-b ; " + weight + " ,c", 15);
        }
        faults(CODINGS, "b;1000", NONE, "b;1000x", 6, "b;1000 5", 7, "b;x1001", 2, "?b;1001", 0);
    }

    // "a fifth digit of a weight (a seventh one of a size) are at fault themselves"
    private static void fifthDigits() {
        for (String weight : "00000 00001 01000 01001 10000 10010 10019 99999".split(" ")) {
            faults(CODINGS, "b;" + weight, 6, "b; " + weight + "0", 7, "b;" + weight + " ,c", 6,
                    "a,b ;" + weight + "x", 9);
        }
    }

    // "The text has at most 120 bytes."
    private static void longest() {
        for (int length = 119; length <= 120; length++) {
            String wide = " ".repeat(length - 9);
            fault(VARIANT, wide + "a/b c d 1", NONE);
            fault(VARIANT, "a/b c d 1" + wide, NONE);
            fault(VARIANT, "a/b c d " + wide + "x", length - 1);
            fault(VARIANT, "a/b c d  " + wide, length);
            fault(CODINGS, wide + "a ; 0 , b", NONE);
            fault(CODINGS, "a ; 0 , b" + wide, NONE);
            fault(CODINGS, "a ; 0 , " + wide + "?", length - 1);
            fault(CODINGS, "a ; 0   ," + wide, length);
        }
    }

    // "It tells a list of some kind": what tells one kind need not tell another.
    private static void kinds() {
        RatherDesk desk = typed("b");
        Check.due("a name is no type", 1, desk.listFault(TYPES));
        Check.due("a name is a language", NONE, desk.listFault(LANGUAGES));
        Check.due("a name is a coding", NONE, desk.listFault(CODINGS));
        Check.due("a name is no variant", 1, desk.variantFault());
        Check.text(desk, "b-b");
        Check.due("two names are no coding", 1, desk.listFault(CODINGS));
        Check.due("two names are a language", NONE, desk.listFault(LANGUAGES));
        Check.text(desk, "b/b c d 1");
        Check.due("a variant is no list", 4, desk.listFault(TYPES));
        Check.due("a variant it is", NONE, desk.variantFault());
    }

    public static void main(String[] args) {
        names();
        emptyNames();
        numbersOfNames();
        stars();
        emptyLists();
        commas();
        weights();
        noWeight();
        spaces();
        tenEntries();
        sizes();
        spacesInVariants();
        tooSoon();
        greatWeights();
        fifthDigits();
        longest();
        kinds();
        Check.end();
    }
}
