/** Promises 23 to 27: a test for each sentence that names a boundary case. */
public final class WhatIfBoundsTest {
    private static final int NONE = RatherDesk.NONE;

    private static RatherDesk single(int quality) {
        RatherDesk desk = Check.desk("a/a a id 1");
        desk.setQuality(0, quality);
        return desk;
    }

    private static String only(int list, String weight) {
        return (list == 0 ? "a/a" : list == 1 ? "a" : "id") + ";" + weight;
    }

    // Promise 23: "if all lists of the other side were empty"; "NONE if there were none".
    private static void servedFor() {
        for (int slot = 0; slot < 6; slot++) {
            int side = slot / 3;
            RatherDesk desk = single(1000);
            Check.list(desk, side, slot % 3, only(slot % 3, "0"));
            Check.due("whole(2)", NONE, desk.whole(2));
            Check.due("its own list counts", NONE, desk.servedFor(side));
            Check.due("the other side's does not", 0, desk.servedFor(1 - side));
            Check.due("agree()", false, desk.agree());
            Check.list(desk, side, slot % 3, only(slot % 3, "1"));
            Check.due("a score of 1 is served", 0, desk.servedFor(side));
            desk.setQuality(0, 999);
            Check.due("of 0 not", NONE, desk.servedFor(side));
            Check.due("of 999 for the other side", 0, desk.servedFor(1 - side));
            desk.setQuality(0, 0);
            Check.due("without quality none", NONE, desk.servedFor(1 - side));
            Check.due("agree() on none", true, desk.agree());
        }
        RatherDesk all = single(1);
        for (int slot = 0; slot < 3; slot++) {
            Check.list(all, 1, slot, only(slot, "0"));
        }
        Check.due("all three are left out", 0, all.servedFor(0));
        Check.due("none for the side that has them", NONE, all.servedFor(1));
        for (int side : Check.outside(0, 1)) {
            Check.outOfBounds("servedFor", all, () -> all.servedFor(side));
            RatherDesk empty = new RatherDesk();
            Check.outOfBounds("servedFor of none", empty, () -> empty.servedFor(side));
        }
    }

    // The same sentence where the tie rules look at a list that is taken as empty.
    private static void emptiedTies() {
        for (int list = 0; list < 2; list++) {
            RatherDesk desk = Check.desk("a/a a id 1", "a/b b id 2");
            Check.list(desk, 0, list, list == 0 ? "a/b,a/a" : "b,a");
            desk.setTies(3 + list, 0, 0);
            Check.due("whole(2)", 1, desk.whole(2));
            Check.due("servedFor(0)", 1, desk.servedFor(0));
            Check.due("servedFor(1): 100 for both", 0, desk.servedFor(1));
            Check.due("agree()", false, desk.agree());
            desk.swapSides();
            Check.due("whole(2) then", 0, desk.whole(2));
            Check.due("servedFor(1) then", 0, desk.servedFor(1));
            Check.due("agree() then", true, desk.agree());
        }
    }

    // Promise 24: "by its present number; NONE if there were none".
    private static void servedWithout() {
        RatherDesk desk = new RatherDesk();
        for (int variant = 0; variant < 16; variant++) {
            Check.text(desk, "a/a a " + (char) ('a' + variant) + " " + variant);
            desk.addVariant();
        }
        for (int variant = 0; variant < 16; variant++) {
            Check.due("servedWithout()", variant == 0 ? 1 : 0, desk.servedWithout(variant));
        }
        desk.setTies(2, 0, 0);
        for (int variant = 0; variant < 16; variant++) {
            Check.due("the last one first", variant == 15 ? 14 : 15, desk.servedWithout(variant));
        }
        for (int variant : Check.outside(0, 15)) {
            Check.outOfBounds("servedWithout", desk, () -> desk.servedWithout(variant));
        }
        RatherDesk one = single(1);
        Check.due("without the only one", NONE, one.servedWithout(0));
        Check.text(one, "a/b a id 1");
        one.addVariant();
        Check.due("without the better one", 0, one.servedWithout(1));
        Check.due("without the other one", 1, one.servedWithout(0));
        one.setQuality(0, 0);
        Check.due("the other one is refused", NONE, one.servedWithout(1));
        one.setQuality(1, 0);
        Check.due("both are", NONE, one.servedWithout(0));
        Check.due("both are", NONE, one.servedWithout(1));
    }

    // Promise 25: "Returns the weight, 0 to 1000; NONE if there is none."
    private static void leastWeightAlone() {
        int[][] rows = {{1000, 1}, {999, 2}, {501, 2}, {500, 2}, {499, 3}, {3, 334}, {2, 500},
            {1, 1000}, {0, NONE}};
        for (int slot = 0; slot < 6; slot++) {
            for (int[] row : rows) {
                RatherDesk desk = single(row[0]);
                Check.list(desk, slot / 3, slot % 3, only(slot % 3, "0"));
                for (int weight : new int[] {0, 1, 1000}) {
                    desk.setWeight(slot / 3, slot % 3, 0, weight);
                    long before = desk.digest();
                    Check.due("leastWeight at " + row[0], row[1],
                            desk.leastWeight(slot / 3, slot % 3, 0, 0));
                    Check.due("nothing changes", before, desk.digest());
                }
            }
        }
        RatherDesk desk = single(1000);
        Check.list(desk, 0, 0, "a/a;500");
        Check.list(desk, 1, 2, "id;500");
        Check.due("ahead of another list", 2, desk.leastWeight(0, 0, 0, 0));
        Check.due("behind another list", 2, desk.leastWeight(1, 2, 0, 0));
        desk.setWeight(0, 0, 0, 0);
        Check.due("another list refuses it", NONE, desk.leastWeight(1, 2, 0, 0));
    }

    // Promise 25, of an entry that does not count for the variant.
    private static void leastWeightOfOthers() {
        RatherDesk desk = Check.desk("a/a a id 1", "b/b a id 2");
        Check.list(desk, 0, 0, "*/*;0,a/a;900,b/b;500,c/c;5,a/a;7");
        for (int entry : new int[] {0, 3, 4}) {
            Check.due("of no meaning, served", 0, desk.leastWeight(0, 0, entry, 0));
            Check.due("of no meaning, not served", NONE, desk.leastWeight(0, 0, entry, 1));
        }
        Check.due("the rival is refused at 0", 0, desk.leastWeight(0, 0, 1, 1));
        Check.due("the rival's does not matter", 0, desk.leastWeight(0, 0, 2, 0));
        desk.setQuality(1, 0);
        Check.due("without quality", NONE, desk.leastWeight(0, 0, 1, 1));
        desk.setQuality(0, 0);
        Check.due("none can be served", NONE, desk.leastWeight(0, 0, 2, 0));
        Check.due("nor by its own", NONE, desk.leastWeight(0, 0, 1, 0));
    }

    // Promise 25, of two scores that are equal: as the tie rules have it.
    private static void leastWeightAtTies() {
        // Behind at its ties it needs more than the rival's 900, ahead of them just 900.
        int[][] rows = {{0, 901}, {1, 901}, {2, 900}, {3, 900}, {4, 900}, {5, 900}};
        for (int[] row : rows) {
            RatherDesk desk = Check.desk("a/a a id 1", "b/b b id 2");
            Check.list(desk, 0, 0, "b/b;500,a/a;1000");
            Check.list(desk, 0, 1, "b,a");
            desk.setQuality(0, 900);
            desk.setTies(row[0], 0, 0);
            Check.due("by the rule " + row[0], row[1], desk.leastWeight(0, 0, 0, 1));
            desk.setTies(0, 0, row[0]);
            Check.due("by the third one " + row[0], row[1], desk.leastWeight(0, 0, 0, 1));
        }
        RatherDesk desk = Check.desk("a/a a id 1", "b/b b id 1");
        Check.list(desk, 0, 0, "a/a,b/b;500");
        Check.due("the greatest is not enough", NONE, desk.leastWeight(0, 0, 1, 1));
        Check.due("the lower number needs the same", 500, desk.leastWeight(0, 0, 0, 0));
        desk.setWeight(0, 0, 0, 999);
        Check.due("the greatest is", 1000, desk.leastWeight(0, 0, 1, 1));
        desk.setWeight(0, 0, 0, 0);
        Check.due("1 is", 1, desk.leastWeight(0, 0, 1, 1));
    }

    // Promise 25, of an entry that counts for both: served at a weight, and not at a greater.
    private static void leastWeightShared() {
        RatherDesk desk = Check.desk("a/a a id 1", "a/b b id 2");
        Check.list(desk, 0, 0, "*/*");
        Check.list(desk, 1, 1, "a;500,b;999");
        desk.setQuality(0, 4);
        desk.setQuality(1, 3);
        desk.setTies(2, 0, 0);
        Check.due("from 500 up to 666", 500, desk.leastWeight(0, 0, 0, 0));
        Check.due("from 667", 667, desk.leastWeight(0, 0, 0, 1));
        int[] weights = {499, 500, 666, 667, 1000};
        int[] served = {NONE, 0, 0, 1, 1};
        for (int row = 0; row < weights.length; row++) {
            desk.setWeight(0, 0, 0, weights[row]);
            Check.due("served at " + weights[row], served[row], desk.whole(2));
            Check.due("the same from there", 500, desk.leastWeight(0, 0, 0, 0));
        }
        desk.setWeight(1, 1, 1, 0);
        Check.due("the other one is refused", NONE, desk.leastWeight(0, 0, 0, 1));
    }

    // Promise 25: "if there is no such side, list, entry or variant".
    private static void leastWeightNowhere() {
        RatherDesk desk = Check.desk("a/a a id 1", "a/b b id 2");
        Check.list(desk, 1, 2, "id,*");
        for (int at : Check.outside(0, 1)) {
            Check.outOfBounds("side", desk, () -> desk.leastWeight(at, 2, 1, 1));
            Check.outOfBounds("entry", desk, () -> desk.leastWeight(1, 2, at, 1));
            Check.outOfBounds("variant", desk, () -> desk.leastWeight(1, 2, 1, at));
            Check.outOfBounds("all", desk, () -> desk.leastWeight(at, at, at, at));
        }
        for (int list : Check.outside(0, 2)) {
            Check.outOfBounds("list", desk, () -> desk.leastWeight(1, list, 1, 1));
        }
        Check.due("the last ones", NONE, desk.leastWeight(1, 2, 1, 1));
    }

    // Promise 26: "Returns the quality, 0 to 1000; NONE if there is none."
    private static void leastQualityAlone() {
        int[][] rows = {{1000, 1}, {999, 2}, {501, 2}, {500, 2}, {499, 3}, {334, 3}, {333, 4},
            {2, 500}, {1, 1000}, {0, NONE}};
        for (int slot = 0; slot < 6; slot++) {
            for (int[] row : rows) {
                RatherDesk desk = single(1000);
                Check.list(desk, slot / 3, slot % 3, only(slot % 3, "" + row[0]));
                for (int quality : new int[] {0, 1, 1000}) {
                    desk.setQuality(0, quality);
                    long before = desk.digest();
                    Check.due("leastQuality at " + row[0], row[1], desk.leastQuality(0));
                    Check.due("nothing changes", before, desk.digest());
                }
            }
        }
        RatherDesk desk = Check.desk("a/a a id 1", "a/b b id 2");
        for (int variant : Check.outside(0, 1)) {
            Check.outOfBounds("leastQuality", desk, () -> desk.leastQuality(variant));
        }
    }

    // Promise 26, at each quality of a rival, with and without the better place at ties.
    private static void leastQualityOfRivals() {
        for (int rival : new int[] {0, 1, 2, 499, 500, 511, 512, 513, 998, 999, 1000}) {
            RatherDesk desk = Check.desk("a/a a id 1", "a/b b id 2");
            desk.setQuality(0, rival);
            desk.setQuality(1, rival);
            int more = rival < 1000 ? rival + 1 : NONE;
            Check.due("behind " + rival, more, desk.leastQuality(1));
            Check.due("ahead of " + rival, Math.max(1, rival), desk.leastQuality(0));
            desk.setTies(5, 0, 0);
            Check.due("by quality, then number", more, desk.leastQuality(1));
            Check.due("by quality, the lower number", Math.max(1, rival), desk.leastQuality(0));
            desk.setTies(2, 5, 0);
            Check.due("by size", Math.max(1, rival), desk.leastQuality(1));
        }
    }

    // Promise 26, of equal scores where the rule 5 looks at the quality that is asked for.
    private static void leastQualityByQuality() {
        RatherDesk desk = Check.desk("a/a a id 1", "a/b b id 1");
        Check.list(desk, 0, 0, "*/*;10");
        int[][] rows = {{0, 100, 100}, {99, 100, 100}, {100, 101, 100}, {550, 551, 550},
            {599, 600, 599}, {600, 601, 600}, {999, 1000, 999}, {1000, NONE, 1000}};
        desk.setTies(5, 0, 0);
        for (int[] row : rows) {
            desk.setQuality(0, row[0]);
            Check.due("more than " + row[0], row[1], desk.leastQuality(1));
            desk.setQuality(1, row[0]);
            Check.due("as much as " + row[0], row[2], desk.leastQuality(0));
        }
        desk.setTies(0, 0, 0);
        desk.setQuality(0, 599);
        Check.due("without the rule", 600, desk.leastQuality(1));
        desk.setQuality(1, 599);
        Check.due("without the rule, the lower number", 500, desk.leastQuality(0));
    }

    // "which changes nothing", and asks of nothing that is gone: a removed variant is no rival.
    private static void goneRivals() {
        RatherDesk desk = Check.desk("a/a a id 5", "a/b b id 4", "a/c c id 3");
        Check.list(desk, 0, 0, "a/a;500,a/b;400,*/*");
        desk.setQuality(2, 999);
        Check.due("behind the third", 1000, desk.leastWeight(0, 0, 0, 0));
        Check.due("never ahead of it", NONE, desk.leastQuality(0));
        desk.removeVariant(2);
        Check.due("as the second one has it", 401, desk.leastWeight(0, 0, 0, 0));
        Check.due("by its quality too", 802, desk.leastQuality(0));
        Check.due("served without the first", 1, desk.servedWithout(0));
        Check.due("servedFor(1)", 1, desk.servedFor(1));
        desk.removeVariant(1);
        Check.due("alone", 1, desk.leastWeight(0, 0, 0, 0));
        Check.due("alone by its quality", 2, desk.leastQuality(0));
        Check.due("servedFor(1) alone", 0, desk.servedFor(1));
        desk.removeVariant(0);
        Check.due("servedFor(0) of none", NONE, desk.servedFor(0));
        Check.due("servedFor(1) of none", NONE, desk.servedFor(1));
    }

    // Promises 25 and 26 of sixteen variants, each of which is a rival of the others.
    private static void sixteenRivals() {
        RatherDesk desk = new RatherDesk();
        for (int variant = 0; variant < 16; variant++) {
            Check.text(desk, "a/" + (char) ('a' + variant) + " b c " + variant);
            desk.addVariant();
            desk.setQuality(variant, 800 + variant);
        }
        Check.list(desk, 1, 0, "a/a,a/p,*/*");
        for (int variant = 0; variant < 15; variant++) {
            Check.due("as much as the last one has", 815, desk.leastQuality(variant));
        }
        Check.due("more than the last but one has", 815, desk.leastQuality(15));
        Check.due("all of it", 1000, desk.leastWeight(1, 0, 1, 15));
        Check.due("never", NONE, desk.leastWeight(1, 0, 0, 0));
        Check.due("where the last one has less", 0, desk.leastWeight(1, 0, 2, 15));
        Check.due("none by it", NONE, desk.leastWeight(1, 0, 2, 14));
    }

    // Promise 27: "Returns true if servedFor(0) is servedFor(1)", also if both are NONE.
    private static void agree() {
        RatherDesk desk = Check.desk("a/a a id 1", "a/b b id 2");
        Check.due("both the first", true, desk.agree());
        Check.list(desk, 0, 1, "a;0,b;1");
        Check.due("the second and the first", false, desk.agree());
        Check.list(desk, 1, 1, "a;0,b;1");
        Check.due("both the second", true, desk.agree());
        desk.setWeight(1, 1, 1, 0);
        Check.due("the second and none", false, desk.agree());
        desk.setWeight(0, 1, 1, 0);
        Check.due("both none", true, desk.agree());
        desk.setWeight(1, 1, 0, 1);
        Check.due("none and the first", false, desk.agree());
        desk.undo();
        desk.undo();
        Check.due("behind undo()", false, desk.agree());
    }

    public static void main(String[] args) {
        servedFor();
        emptiedTies();
        servedWithout();
        leastWeightAlone();
        leastWeightOfOthers();
        leastWeightAtTies();
        leastWeightShared();
        leastWeightNowhere();
        leastQualityAlone();
        leastQualityOfRivals();
        leastQualityByQuality();
        goneRivals();
        sixteenRivals();
        agree();
        Check.end();
    }
}
