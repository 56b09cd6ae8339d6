/** Promises 15 to 20: the values. */
public final class ValuesTest {
    private static final int MIN = Integer.MIN_VALUE;
    private static final int MAX = Integer.MAX_VALUE;

    private static void specific() {
        RatherDesk desk = Check.desk("te/pl en-gb-x id 5", "te/pls en gz 6", "t/pl eng id 7");
        Check.list(desk, 0, 0, "*/*;1,te/*;2,te/pl;3,te/pl;4,te/*;5");
        Check.list(desk, 0, 1, "*;1,en;2,en-gb;3,en-gb-x;4,en-g;5,en-gb;6");
        Check.list(desk, 1, 2, "*;1,gz;2,gz;3");
        int[] counts = {2, 3, 0, 1, 1, 1, 0, 0, 0};
        for (int row = 0; row < counts.length; row++) {
            int side = row % 3 == 2 ? 1 : 0;
            Check.due("counting " + row, counts[row], desk.counting(side, row % 3, row / 3));
        }
        int[] weights = {3, 4, 1, 2, 2, 2, 1, 1, 1};
        for (int row = 0; row < weights.length; row++) {
            int side = row % 3 == 2 ? 1 : 0;
            Check.due("weight " + row, weights[row], desk.weight(side, row % 3, row / 3));
        }
        int[] types = {1, 0, 3, 1, 2, 1, 2, 1, 3, 2, 1, 1, 4, 2, 1, 0, 5, 1, 2, 0};
        for (int row = 0; row < types.length; row++) {
            Check.due("types " + row, types[row], desk.entry(0, 0, row / 4, row % 4));
        }
        int[] languages = {1, 0, 3, 1, 2, 1, 2, 1, 3, 2, 1, 0, 4, 3, 1, 1, 5, 2, 0, 0, 6, 2, 1, 0};
        for (int row = 0; row < languages.length; row++) {
            Check.due("languages " + row, languages[row], desk.entry(0, 1, row / 4, row % 4));
        }
        int[] codings = {1, 0, 3, 2, 2, 1, 1, 1, 3, 1, 1, 0};
        for (int row = 0; row < codings.length; row++) {
            Check.due("codings " + row, codings[row], desk.entry(1, 2, row / 4, row % 4));
        }
        Check.due("names", 3, desk.variant(0, 6));
        Check.due("names of en", 1, desk.variant(1, 6));
    }

    private static void unmatched() {
        RatherDesk desk = Check.desk("a/a a id 1", "a/a a idx 1", "a/a a i 1");
        for (int list = 0; list < 3; list++) {
            Check.due("an empty list", 1000, desk.weight(1, list, 1));
            Check.due("nothing counts", -1, desk.counting(1, list, 1));
            Check.list(desk, 1, list, list == 0 ? "x/x" : "x");
        }
        int[] due = {0, 0, 1000, 0, 0, 0, 0, 0, 0};
        for (int row = 0; row < due.length; row++) {
            Check.due("weight " + row, due[row], desk.weight(1, row % 3, row / 3));
            Check.due("counting " + row, -1, desk.counting(1, row % 3, row / 3));
        }
        Check.list(desk, 1, 2, "id;0");
        Check.due("id may have a weight of its own", 0, desk.weight(1, 2, 0));
        Check.list(desk, 1, 2, "*;5");
        Check.due("id and a star", 5, desk.weight(1, 2, 0));
    }

    private static void reasons() {
        RatherDesk desk = Check.desk("a/b c d 1");
        String[] zero = {"a/b;0", "c;0", "d;0"};
        Check.due("not refused", 0, desk.variant(0, 3));
        for (int slot = 5; slot >= 0; slot--) {
            Check.list(desk, slot / 3, slot % 3, zero[slot % 3]);
            Check.due("reason", 1 + slot, desk.variant(0, 3));
            Check.due("score", 0, desk.variant(0, 2));
            Check.due("place", -1, desk.variant(0, 4));
        }
        desk.setQuality(0, 0);
        Check.due("a weight is the reason ahead of the quality", 1, desk.variant(0, 3));
        for (int slot = 0; slot < 6; slot++) {
            desk.setWeight(slot / 3, slot % 3, 0, 1);
        }
        Check.due("the quality", 7, desk.variant(0, 3));
        desk.setQuality(0, 1000);
        Check.due("too little", 8, desk.variant(0, 3));
        Check.due("score of too little", 0, desk.variant(0, 2));
    }

    private static void scores() {
        RatherDesk desk = Check.desk("a/b c d 1");
        desk.setQuality(0, 999);
        String[] parts = {"a/b;999", "c;999", "d;999"};
        int[] due = {998, 997, 996, 995, 994, 993};
        for (int slot = 0; slot < 6; slot++) {
            Check.list(desk, slot / 3, slot % 3, parts[slot % 3]);
            Check.due("score " + slot, due[slot], desk.variant(0, 2));
        }
        // floor is taken at each list: 7 * 150 / 1000 = 1, and 1 * 999 / 1000 = 0.
        desk.setQuality(0, 7);
        desk.setWeight(0, 0, 0, 150);
        Check.due("floors", 0, desk.variant(0, 2));
        for (int slot = 1; slot < 6; slot++) {
            desk.setWeight(slot / 3, slot % 3, 0, 1000);
        }
        Check.due("floor", 1, desk.variant(0, 2));
        // In the order of the lists: (10 * 550 / 1000) * 200 / 1000 = 1, the other way 1 too,
        // but 19 * 100 / 1000 = 1, 1 * 550 / 1000 = 0 and 19 * 550 / 1000 = 10, 10 * 100 / 1000 = 1.
        desk.setQuality(0, 19);
        desk.setWeight(0, 0, 0, 100);
        desk.setWeight(1, 2, 0, 550);
        Check.due("small first", 0, desk.variant(0, 2));
        desk.setWeight(0, 0, 0, 550);
        desk.setWeight(1, 2, 0, 100);
        Check.due("small last", 1, desk.variant(0, 2));
    }

    private static void order(String what, RatherDesk desk, int... due) {
        for (int place = 0; place < due.length; place++) {
            Check.due(what + " ranked(" + place + ")", due[place], desk.ranked(place));
            if (due[place] >= 0) {
                Check.due(what + " place", place, desk.variant(due[place], 4));
            }
        }
    }

    private static void ranking() {
        RatherDesk desk = Check.desk("a/a a id 5", "a/b b id 3", "a/c c id 5", "a/d d id 9");
        order("smaller size", desk, 1, 0, 2, 3, -1);
        desk.setTies(2, 0, 0);
        order("greater size", desk, 3, 0, 2, 1, -1);
        desk.setTies(0, 0, 0);
        order("number", desk, 0, 1, 2, 3, -1);
        Check.list(desk, 0, 0, "*/*,a/d,a/b");
        desk.setTies(3, 0, 0);
        order("types", desk, 0, 2, 3, 1, -1);
        Check.list(desk, 0, 0, "");
        Check.list(desk, 1, 0, "a/d,*/*");
        order("types of the side 1 tell nothing", desk, 0, 1, 2, 3, -1);
        Check.list(desk, 0, 1, "d,c,b,a");
        order("languages are not types", desk, 0, 1, 2, 3, -1);
        desk.setTies(4, 0, 0);
        order("languages", desk, 3, 2, 1, 0, -1);
        desk.setTies(1, 4, 0);
        order("sizes, then languages", desk, 1, 2, 0, 3, -1);
        desk.setTies(0, 0, 4);
        order("the third rule", desk, 3, 2, 1, 0, -1);
        desk.setWeight(0, 1, 2, 0);
        order("refused", desk, 3, 2, 0, -1);
        Check.due("place of the refused one", -1, desk.variant(1, 4));
        Check.due("whole(1)", 3, desk.whole(1));
        desk.setQuality(3, 999);
        order("score first", desk, 2, 0, 3, -1);
        Check.due("whole(2)", 2, desk.whole(2));
        Check.due("whole(3)", 1000, desk.whole(3));
        Check.badArgument("ranked(-1)", desk, () -> desk.ranked(-1));
        Check.badArgument("ranked(MIN)", desk, () -> desk.ranked(MIN));
        Check.due("ranked(16)", -1, desk.ranked(16));
        Check.due("ranked(MAX)", -1, desk.ranked(MAX));
    }

    private static void qualityTie() {
        RatherDesk desk = Check.desk("a/a a id 5", "a/b b id 5", "a/c c id 5");
        Check.list(desk, 0, 0, "*/*;2");
        desk.setQuality(0, 990);
        desk.setQuality(1, 992);
        desk.setQuality(2, 991);
        order("same scores", desk, 0, 1, 2, -1);
        desk.setTies(5, 0, 0);
        order("greater quality", desk, 1, 2, 0, -1);
        desk.setTies(1, 0, 5);
        order("at last", desk, 1, 2, 0, -1);
        Check.due("score", 1, desk.variant(0, 2));
    }

    private static void noPlace() {
        // Of the codings list "id" needs no entry; of types and languages only an empty list
        // leaves a variant that is not refused without an entry: all of them are at 100 then.
        RatherDesk desk = Check.desk("a/a a id 9", "a/b b id 5");
        desk.setTies(3, 4, 1);
        order("no entries", desk, 1, 0, -1);
        Check.list(desk, 0, 1, "*");
        order("one entry", desk, 1, 0, -1);
    }

    private static void whole() {
        RatherDesk desk = Check.desk("a/a a id 50", "a/b b gz 5");
        Check.list(desk, 0, 0, "*/*;500,a/b;700");
        Check.list(desk, 0, 2, "gz;0");
        Check.list(desk, 1, 1, "*;800");
        desk.setTies(4, 3, 2);
        int[] due = {2, 1, 0, 400, 3, 1, 5, 4, 3, 2, 23};
        for (int what = 0; what <= 10; what++) {
            Check.due("whole(" + what + ")", due[what], desk.whole(what));
        }
        Check.due("score of the refused one", 0, desk.variant(1, 2));
        desk.setQuality(0, 0);
        Check.due("none served", -1, desk.whole(2));
        Check.due("its score", 0, desk.whole(3));
        Check.due("none ranked", 0, desk.whole(1));
        int[] bad = {-1, 11, MIN, MAX};
        for (int what : bad) {
            Check.badArgument("whole(" + what + ")", desk, () -> desk.whole(what));
        }
    }

    private static void wrongInputs() {
        RatherDesk desk = Check.desk("a/a a id 50", "a/b b gz 5");
        Check.list(desk, 1, 1, "a,b");
        int[] bad = {-1, 2, MIN, MAX};
        for (int at : bad) {
            Check.outOfBounds("variant", desk, () -> desk.variant(at, 0));
            Check.outOfBounds("variant and what", desk, () -> desk.variant(at, 7));
            Check.outOfBounds("weight's side", desk, () -> desk.weight(at, 0, 0));
            Check.outOfBounds("weight's variant", desk, () -> desk.weight(0, 0, at));
            Check.outOfBounds("counting's side", desk, () -> desk.counting(at, 0, 0));
            Check.outOfBounds("counting's variant", desk, () -> desk.counting(0, 0, at));
            Check.outOfBounds("entry's side", desk, () -> desk.entry(at, 1, 0, 0));
            Check.outOfBounds("entry's place", desk, () -> desk.entry(1, 1, at, 0));
            Check.outOfBounds("entry's place and what", desk, () -> desk.entry(1, 1, at, 4));
        }
        int[] badList = {-1, 3, MIN, MAX};
        for (int list : badList) {
            Check.outOfBounds("weight's list", desk, () -> desk.weight(0, list, 0));
            Check.outOfBounds("counting's list", desk, () -> desk.counting(0, list, 0));
            Check.outOfBounds("entry's list", desk, () -> desk.entry(1, list, 0, 0));
        }
        int[] badWhat = {-1, 7, MIN, MAX};
        for (int what : badWhat) {
            Check.badArgument("variant's what", desk, () -> desk.variant(1, what));
            Check.badArgument("entry's what", desk, () -> desk.entry(1, 1, 1, what));
        }
        Check.badArgument("entry's what 4", desk, () -> desk.entry(1, 1, 1, 4));
        Check.outOfBounds("an entry of an empty list", desk, () -> desk.entry(0, 1, 0, 0));
    }

    public static void main(String[] args) {
        specific();
        unmatched();
        reasons();
        scores();
        ranking();
        qualityTie();
        noPlace();
        whole();
        wrongInputs();
        Check.end();
    }
}
