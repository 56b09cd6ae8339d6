/** The terms VARIANTS, LISTS and SCORES: a test for each sentence that names a boundary case. */
public final class TermBoundsTest {
    private static final int NONE = RatherDesk.NONE;
    private static final int TYPES = 0;
    private static final int LANGUAGES = 1;
    private static final int CODINGS = 2;
    private static final int SCORE = 2;
    private static final int REASON = 3;
    private static final int PLACE = 4;
    // What matches the variant "b/b b b 1", of each list.
    private static final String[] ONE = {"b/b", "b", "b"};

    private static RatherDesk single() {
        return Check.desk("b/b b b 1");
    }

    // "There are at most 16 variants, numbered from 0"
    private static void sixteenVariants() {
        RatherDesk desk = new RatherDesk();
        for (int variant = 0; variant < 16; variant++) {
            Check.text(desk, "a/b c " + (char) ('a' + variant) + " 1");
            Check.due("addVariant()", variant, desk.addVariant());
            Check.due("variants", variant + 1, desk.whole(0));
        }
        Check.badState("the sixteenth again", desk, () -> desk.addVariant());
        Check.text(desk, "a/b c z 1");
        Check.due("its text is a good one", NONE, desk.variantFault());
        Check.badState("a seventeenth", desk, () -> desk.addVariant());
        Check.due("the last one is there", 1, desk.variant(15, 0));
        Check.outOfBounds("a seventeenth is not", desk, () -> desk.variant(16, 0));
        desk.removeVariant(0);
        Check.due("the sixteenth once more", 15, desk.addVariant());
        Check.badState("the same again", desk, () -> desk.addVariant());
    }

    // "No two variants have the same type, language and coding."
    private static void twins() {
        RatherDesk desk = Check.desk("aa/b c-d e 5");
        for (String twin : "aa/b c-d e 5,aa/b c-d e 6, aa/b  c-d e 000".split(",")) {
            Check.text(desk, twin);
            Check.badState("a twin", desk, () -> desk.addVariant());
        }
        desk.setSize(0, 6);
        desk.setQuality(0, 0);
        Check.badState("a twin of a refused one", desk, () -> desk.addVariant());
        String[] others = {"a/b c-d e 5", "aa/bb c-d e 5", "b/aa c-d e 5", "aa/b c e 5",
            "aa/b c-d-e e 5", "aa/b d-c e 5", "aa/b c-d d 5", "aa/b c-d ee 5", "aab/b c-d e 5"};
        for (int other = 0; other < others.length; other++) {
            Check.text(desk, others[other]);
            Check.due("another one, " + others[other], other + 1, desk.addVariant());
            Check.badState("its twin", desk, () -> desk.addVariant());
        }
        desk.removeVariant(0);
        Check.text(desk, "aa/b c-d e 5");
        Check.due("behind its removal", others.length, desk.addVariant());
        desk.undo();
        Check.due("behind undo()", others.length, desk.addVariant());
    }

    // "a quality (0 to 1000, 1000 at first)"
    private static void firstQuality() {
        RatherDesk desk = single();
        Check.due("quality", 1000, desk.variant(0, 1));
        desk.setQuality(0, 3);
        desk.removeVariant(0);
        desk.addVariant();
        Check.due("quality of a new one at an old place", 1000, desk.variant(0, 1));
    }

    // "There are two sides, 0 and 1. Each has three lists ..; all are empty at first."
    private static void emptyAtFirst() {
        RatherDesk desk = single();
        for (int slot = 0; slot < 6; slot++) {
            int side = slot / 3;
            int list = slot % 3;
            Check.due("weight", 1000, desk.weight(side, list, 0));
            Check.due("counting", NONE, desk.counting(side, list, 0));
            Check.outOfBounds("entry", desk, () -> desk.entry(side, list, 0, 0));
            Check.outOfBounds("setWeight", desk, () -> desk.setWeight(side, list, 0, 0));
            Check.outOfBounds("removeEntry", desk, () -> desk.removeEntry(side, list, 0));
            Check.outOfBounds("leastWeight", desk, () -> desk.leastWeight(side, list, 0, 0));
        }
        Check.due("entries of 0", 0, desk.whole(4));
        Check.due("entries of 1", 0, desk.whole(5));
    }

    /** Which of the variants a range matches, and by how many names it is specific. */
    private static void match(int list, String range, int names, String marks, String... keys) {
        for (int side = 0; side < 2; side++) {
            int matched = 0;
            for (int key = 0; key < keys.length; key++) {
                String[] parts = {"q/q", "q", "q"};
                parts[list] = keys[key];
                RatherDesk desk = Check.desk(String.join(" ", parts) + " 1");
                Check.list(desk, side, list, range + ";7");
                boolean is = marks.charAt(key) == '+';
                String told = range + " and " + keys[key];
                Check.due(told + " matched", is ? 1 : 0, desk.entry(side, list, 0, 2));
                Check.due(told + " counts", is ? 1 : 0, desk.entry(side, list, 0, 3));
                Check.due(told + " counting", is ? 0 : NONE, desk.counting(side, list, 0));
                Check.due(told + " weight", is ? 7 : 0, desk.weight(side, list, 0));
                Check.due(told + " names", names, desk.entry(side, list, 0, 1));
                matched += is ? 1 : 0;
            }
            Check.due("all marks", marks.replace(".", "").length(), matched);
        }
    }

    // "A range of types matches a type if it is this type .., if its name is the first one of
    // the type .., or if it has no name"
    private static void typeMatches() {
        String[] types = {"b/c", "b/cc", "b/b", "bb/c", "c/b", "a/c", "b/a", "bbbb/c"};
        match(TYPES, "b/c", 2, "+.......", types);
        match(TYPES, "b/*", 1, "+++...+.", types);
        match(TYPES, "bb/*", 1, "...+....", types);
        match(TYPES, "c/*", 1, "....+...", types);
        match(TYPES, "*/*", 0, "++++++++", types);
        match(TYPES, "c/c", 2, "........", types);
        match(TYPES, "bbb/*", 1, "........", types);
    }

    // "A range of languages matches a language if its names are the first names of the
    // language, in their order .., or if it is "*""
    private static void languageMatches() {
        String[] languages = {"b", "b-c", "b-c-d", "bb", "b-cc", "c-b", "c", "b-c-dd", "bb-c"};
        match(LANGUAGES, "b", 1, "+++.+..+.", languages);
        match(LANGUAGES, "b-c", 2, ".++....+.", languages);
        match(LANGUAGES, "b-c-d", 3, "..+......", languages);
        match(LANGUAGES, "bb", 1, "...+....+", languages);
        match(LANGUAGES, "c-b", 2, ".....+...", languages);
        match(LANGUAGES, "c", 1, ".....++..", languages);
        match(LANGUAGES, "b-d", 2, ".........", languages);
        match(LANGUAGES, "*", 0, "+++++++++", languages);
    }

    // "A range of codings matches a coding if it is this coding .., or "*""
    private static void codingMatches() {
        String[] codings = {"b", "bb", "a", "bbbb", "c"};
        match(CODINGS, "b", 1, "+....", codings);
        match(CODINGS, "bb", 1, ".+...", codings);
        match(CODINGS, "bbb", 1, ".....", codings);
        match(CODINGS, "*", 0, "+++++", codings);
    }

    // "the most specific one counts, of several the first one"
    private static void mostSpecific() {
        counts(TYPES, "b/c d e 1", "*/*", 0, "*/*,*/*", 0, "*/*,b/*", 1, "b/*,*/*", 0,
                "*/*,b/*,b/*", 1, "b/c,b/*,*/*", 0, "*/*,b/*,b/c", 2, "b/c,b/c", 0,
                "*/*,b/*,b/c,b/c,b/*", 2, "x/x,*/*,x/*,b/*,b/x", 3, "b/d,c/*,*/*,*/*", 2);
        counts(LANGUAGES, "b/c d-e-f e 1", "*,*", 0, "*,d", 1, "*,d,d-e", 2, "*,d,d-e,d-e-f", 3,
                "d-e-f,d-e,d,*", 0, "*,d,d", 1, "*,d-e,d,d-e", 1, "d-e-f,d-e-f", 0,
                "d-e-g,d-f,e,*,d", 4, "d,d-e,d-e", 1, "d,d-e-f,d-e,d-e-f", 1);
        counts(CODINGS, "b/c d e 1", "*,*", 0, "*,e", 1, "e,*", 0, "*,e,e", 1, "e,e", 0,
                "x,*,e,y,e,*", 2, "x,y,z,w,v,u,t,s,*,e", 9, "x,y,z,w,v,u,t,s,*,*", 8);
    }

    private static void counts(int list, String variant, Object... rows) {
        for (int row = 0; row < rows.length; row += 2) {
            for (int side = 0; side < 2; side++) {
                RatherDesk desk = Check.desk(variant);
                Check.list(desk, side, list, (String) rows[row]);
                int place = (Integer) rows[row + 1];
                desk.setWeight(side, list, place, 123);
                Check.due("counting of " + rows[row], place, desk.counting(side, list, 0));
                Check.due("weight of " + rows[row], 123, desk.weight(side, list, 0));
                Check.due("entry of " + rows[row], 1, desk.entry(side, list, place, 3));
            }
        }
    }

    // "Where none matches, it is 1000 if the list is empty, or if it is a list of codings and
    // the coding of the variant is "id"; otherwise 0."
    private static void noneMatches() {
        String[] variants = {"id/id id id 1", "a/a a id 1", "a/a a idd 1", "a/a a i 1",
            "a/a a di 1", "a/a a ie 1", "a/a id a 1", "id/a a a 1"};
        for (int slot = 0; slot < 6; slot++) {
            int list = slot % 3;
            RatherDesk desk = Check.desk(variants);
            for (int variant = 0; variant < variants.length; variant++) {
                Check.due("empty " + slot, 1000, desk.weight(slot / 3, list, variant));
            }
            Check.list(desk, slot / 3, list, list == TYPES ? "z/*;9" : "z;9");
            for (int variant = 0; variant < variants.length; variant++) {
                int due = list == CODINGS && variant < 2 ? 1000 : 0;
                Check.due("none matches " + slot, due, desk.weight(slot / 3, list, variant));
                Check.due("counting " + slot, NONE, desk.counting(slot / 3, list, variant));
            }
            desk.removeEntry(slot / 3, list, 0);
            Check.due("empty again", 1000, desk.weight(slot / 3, list, 3));
        }
        RatherDesk desk = Check.desk("a/a a id 1");
        for (String list : "id;0,*;0,*;5,id;1000".split(",")) {
            Check.list(desk, 0, CODINGS, list);
            int due = Integer.parseInt(list.split(";")[1]);
            Check.due("where one matches, " + list, due, desk.weight(0, CODINGS, 0));
        }
    }

    // "For the lists 0, 1 and 2 of the side 0, and then those of the side 1, in this order, s
    // becomes floor(s * weight / 1000)"
    private static void scoreOrder() {
        for (int first = 0; first < 6; first++) {
            for (int then = first + 1; then < 6; then++) {
                // 19 * 100 and * 550 thousandths are 1 and 0; the other way 10 and 1.
                Check.due("100 first", 0, scoreOf(19, first, 100, then, 550));
                Check.due("550 first", 1, scoreOf(19, first, 550, then, 100));
            }
            Check.due("just 1", 1, scoreOf(1, first, 1000, first, 1000));
            Check.due("just not 1", 0, scoreOf(1, first, 999, first, 999));
            Check.due("2 of 3", 2, scoreOf(3, first, 999, first, 999));
            Check.due("exact", 1, scoreOf(4, first, 250, first, 250));
            Check.due("a little less", 0, scoreOf(4, first, 249, first, 249));
            Check.due("all", 1000, scoreOf(1000, first, 1000, first, 1000));
            Check.due("the least", 1, scoreOf(1000, first, 1, first, 1));
        }
    }

    private static int scoreOf(int quality, int slot, int weight, int other, int otherWeight) {
        RatherDesk desk = single();
        desk.setQuality(0, quality);
        Check.list(desk, slot / 3, slot % 3, ONE[slot % 3] + ";" + weight);
        Check.list(desk, other / 3, other % 3, ONE[other % 3] + ";" + otherWeight);
        return desk.variant(0, SCORE);
    }

    // "A variant with the score 0 is refused": with the score 1 it is not.
    private static void refusedAtZero() {
        RatherDesk desk = single();
        desk.setQuality(0, 1);
        int[] one = {1, 0, 0};
        for (int what = SCORE; what <= PLACE; what++) {
            Check.due("value at 1", one[what - SCORE], desk.variant(0, what));
        }
        Check.due("ranked at 1", 0, desk.ranked(0));
        Check.due("not refused at 1", 1, desk.whole(1));
        Check.due("served at 1", 0, desk.whole(2));
        Check.due("its score at 1", 1, desk.whole(3));
        desk.setQuality(0, 0);
        int[] zero = {0, 7, NONE};
        for (int what = SCORE; what <= PLACE; what++) {
            Check.due("value at 0", zero[what - SCORE], desk.variant(0, what));
        }
        Check.due("ranked at 0", NONE, desk.ranked(0));
        Check.due("refused at 0", 0, desk.whole(1));
        Check.due("none served at 0", NONE, desk.whole(2));
        Check.due("no score at 0", 0, desk.whole(3));
        Check.due("still listed", 0, desk.listed(0));
    }

    // "the reason is the first that applies: 1 + 3 * side + list for the first list, in this
    // order, whose weight for it is 0 (1 to 6); 7 if its quality is 0; 8 otherwise"
    private static void reasons() {
        for (int first = 0; first < 6; first++) {
            for (int then = first; then < 6; then++) {
                RatherDesk desk = single();
                Check.list(desk, first / 3, first % 3, ONE[first % 3] + ";0");
                Check.list(desk, then / 3, then % 3, ONE[then % 3] + ";0");
                Check.due("reason", 1 + first, desk.variant(0, REASON));
                desk.setQuality(0, 0);
                Check.due("reason without quality", 1 + first, desk.variant(0, REASON));
                desk.setWeight(first / 3, first % 3, 0, 1);
                int next = then > first ? 1 + then : 7;
                Check.due("reason then", next, desk.variant(0, REASON));
            }
            RatherDesk desk = single();
            Check.list(desk, first / 3, first % 3, first % 3 == TYPES ? "z/z" : "z");
            Check.due("reason of no match", 1 + first, desk.variant(0, REASON));
            Check.list(desk, first / 3, first % 3, ONE[first % 3] + ";1");
            Check.due("none at 1", 0, desk.variant(0, REASON));
            desk.setQuality(0, 999);
            Check.due("reason of too little", 8, desk.variant(0, REASON));
            desk.setQuality(0, 0);
            Check.due("reason of no quality", 7, desk.variant(0, REASON));
        }
    }

    private static void order(String what, RatherDesk desk, int... due) {
        for (int place = 0; place < due.length; place++) {
            Check.due(what + " ranked(" + place + ")", due[place], desk.ranked(place));
            Check.due(what + " place", place, desk.variant(due[place], PLACE));
        }
        Check.due(what + " behind all", NONE, desk.ranked(due.length));
        Check.due(what + " served", due[0], desk.whole(2));
        Check.due(what + " its score", desk.variant(due[0], SCORE), desk.whole(3));
    }

    // "Variants that are not refused are ranked: a greater score comes first."
    private static void scoresFirst() {
        RatherDesk desk = Check.desk("a/a a id 1", "a/b a id 2", "a/c a id 3");
        desk.setQuality(0, 998);
        desk.setQuality(1, 999);
        for (int rule = 0; rule <= 5; rule++) {
            desk.setTies(rule, rule, rule);
            order("rule " + rule, desk, 2, 1, 0);
        }
        desk.setQuality(2, 1);
        desk.setQuality(0, 2);
        order("small scores", desk, 1, 0, 2);
    }

    /** Three variants with one score; each rule from 1 has an order of its own for them. */
    private static RatherDesk three() {
        RatherDesk desk = Check.desk("a/a x id 5", "a/b y id 7", "a/c z id 6");
        Check.list(desk, 0, TYPES, "a/c;100,a/a;100,a/b;100");
        Check.list(desk, 0, LANGUAGES, "y;100,x;100,z;100");
        Check.list(desk, 1, TYPES, "a/a,a/b,a/c");
        Check.list(desk, 1, LANGUAGES, "x,y,z");
        desk.setQuality(0, 501);
        desk.setQuality(1, 502);
        desk.setQuality(2, 503);
        return desk;
    }

    private static final int[][] RULE_ORDERS = {
        {0, 1, 2}, {0, 2, 1}, {1, 2, 0}, {2, 0, 1}, {1, 0, 2}, {2, 1, 0}};

    // "0 tells none; by 1, the smaller size comes first; by 2, the greater size; by 3, the
    // lower place of the entry that counts in the list of types of the side 0 ..; by 4,
    // likewise in its list of languages; by 5, the greater quality. If they tell no
    // difference, the lower number comes first."
    private static void tieRules() {
        for (int rule = 0; rule <= 5; rule++) {
            RatherDesk desk = three();
            for (int at = 0; at < 3; at++) {
                desk.setTies(at == 0 ? rule : 0, at == 1 ? rule : 0, at == 2 ? rule : 0);
                order("rule " + rule + " at " + at, desk, RULE_ORDERS[rule]);
            }
            for (int then = 0; then <= 5; then++) {
                desk.setTies(rule, then, then);
                order("rules " + rule + " " + then, desk, RULE_ORDERS[rule == 0 ? then : rule]);
            }
        }
    }

    // "the three tie rules decide, one after the other, as far as they tell a difference"
    private static void rulesInOrder() {
        RatherDesk desk = Check.desk("a/a x id 5", "a/b y id 5", "a/c x id 4", "a/d y id 4");
        Check.list(desk, 0, LANGUAGES, "y,x");
        desk.setTies(0, 0, 0);
        order("no rule", desk, 0, 1, 2, 3);
        desk.setTies(1, 0, 0);
        order("sizes alone", desk, 2, 3, 0, 1);
        desk.setTies(1, 4, 0);
        order("sizes, then languages", desk, 3, 2, 1, 0);
        desk.setTies(4, 0, 2);
        order("languages, then great sizes", desk, 1, 3, 0, 2);
        desk.setTies(5, 4, 1);
        order("languages, then small sizes", desk, 3, 1, 2, 0);
        desk.setTies(2, 1, 0);
        order("the second rule tells nothing new", desk, 0, 1, 2, 3);
    }

    // "At first the tie rules are 1, 0, 0."
    private static void firstRules() {
        RatherDesk desk = Check.desk("a/a a id 1", "a/b a id 1", "a/c a id 0");
        order("at first", desk, 2, 0, 1);
        Check.due("the rules", 100, desk.setTies(1, 0, 0));
        order("the same ones", desk, 2, 0, 1);
    }

    // The same sentences where the sizes and the qualities are the farthest ones.
    private static void farTies() {
        RatherDesk desk = Check.desk("a/a a id 999999", "a/b a id 0", "a/c a id 999999");
        order("smaller size", desk, 1, 0, 2);
        desk.setTies(2, 0, 0);
        order("greater size", desk, 0, 2, 1);
        desk.setTies(5, 0, 0);
        order("same quality", desk, 0, 1, 2);
        Check.list(desk, 0, TYPES, "a/*;1");
        desk.setQuality(1, 999);
        Check.due("refused", 8, desk.variant(1, REASON));
        order("of score 1", desk, 0, 2);
    }

    // "The served variant is the first one in this ranking."
    private static void served() {
        RatherDesk desk = new RatherDesk();
        Check.due("none", NONE, desk.whole(2));
        Check.due("its score", 0, desk.whole(3));
        Check.text(desk, "a/a a id 1");
        desk.addVariant();
        desk.setQuality(0, 300);
        Check.due("the only one", 0, desk.whole(2));
        Check.due("its score", 300, desk.whole(3));
        Check.text(desk, "a/b a id 1");
        desk.addVariant();
        Check.due("the better one", 1, desk.whole(2));
        Check.due("its score", 1000, desk.whole(3));
        desk.removeVariant(0);
        Check.due("the better one alone", 0, desk.whole(2));
        Check.due("its score", 1000, desk.whole(3));
        desk.removeVariant(0);
        Check.due("none again", NONE, desk.whole(2));
        Check.due("no score", 0, desk.whole(3));
        Check.due("none ranked", NONE, desk.ranked(0));
    }

    public static void main(String[] args) {
        sixteenVariants();
        twins();
        firstQuality();
        emptyAtFirst();
        typeMatches();
        languageMatches();
        codingMatches();
        mostSpecific();
        noneMatches();
        scoreOrder();
        refusedAtZero();
        reasons();
        scoresFirst();
        tieRules();
        rulesInOrder();
        firstRules();
        farTies();
        served();
        Check.end();
    }
}
