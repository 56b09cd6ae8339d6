/** Promises 23 to 27: what if, which changes nothing. */
public final class WhatIfTest {
    private static final int MIN = Integer.MIN_VALUE;
    private static final int MAX = Integer.MAX_VALUE;

    private static RatherDesk two() {
        RatherDesk desk = Check.desk("a/a a id 1", "a/b b gz 2");
        Check.list(desk, 0, 0, "a/a;900,a/b;500");
        Check.list(desk, 1, 1, "a;100,b;800");
        return desk;
    }

    private static void sides() {
        RatherDesk desk = two();
        long before = desk.digest();
        Check.due("servedFor(0)", 0, desk.servedFor(0));
        Check.due("servedFor(1)", 1, desk.servedFor(1));
        Check.due("agree()", false, desk.agree());
        Check.due("whole(2)", 1, desk.whole(2));
        Check.due("digest()", before, desk.digest());
        desk.setWeight(1, 1, 0, 801);
        Check.due("servedFor(1) then", 0, desk.servedFor(1));
        Check.due("agree() then", true, desk.agree());
        Check.list(desk, 0, 0, "x/x");
        Check.due("none for 0", -1, desk.servedFor(0));
        Check.due("agree() with none", false, desk.agree());
        Check.due("still one for 1", 0, desk.servedFor(1));
        Check.list(desk, 1, 0, "x/x");
        Check.due("none for 1", -1, desk.servedFor(1));
        Check.due("agree() with none at all", true, desk.agree());
        int[] bad = {-1, 2, MIN, MAX};
        for (int side : bad) {
            Check.outOfBounds("servedFor(" + side + ")", desk, () -> desk.servedFor(side));
        }
        RatherDesk empty = new RatherDesk();
        Check.due("servedFor(0) of nothing", -1, empty.servedFor(0));
        Check.due("agree() of nothing", true, empty.agree());
    }

    private static void sidesAndTies() {
        RatherDesk desk = Check.desk("a/a a id 1", "a/b b id 2");
        Check.list(desk, 0, 0, "a/b,a/a");
        Check.list(desk, 1, 0, "a/a,a/b");
        desk.setTies(3, 0, 0);
        Check.due("servedFor(0) by its list", 1, desk.servedFor(0));
        Check.due("servedFor(1): the rule sees an empty list", 0, desk.servedFor(1));
        Check.list(desk, 0, 2, "gz");
        Check.due("id is free", 1, desk.servedFor(0));
        RatherDesk coded = Check.desk("a/a a gz 1");
        Check.list(coded, 0, 2, "id");
        Check.due("gz for 0", -1, coded.servedFor(0));
        Check.due("gz for 1", 0, coded.servedFor(1));
    }

    private static void without() {
        RatherDesk desk = Check.desk("a/a a id 3", "a/b b id 1", "a/c c id 2");
        Check.due("servedWithout(0)", 1, desk.servedWithout(0));
        Check.due("servedWithout(1)", 2, desk.servedWithout(1));
        Check.due("servedWithout(2)", 1, desk.servedWithout(2));
        desk.setQuality(2, 0);
        Check.due("the refused one", 1, desk.servedWithout(2));
        Check.due("servedWithout(1) then", 0, desk.servedWithout(1));
        desk.setQuality(0, 0);
        Check.due("none", -1, desk.servedWithout(1));
        Check.due("one", 1, desk.servedWithout(0));
        desk.setQuality(1, 0);
        Check.due("none at all", -1, desk.servedWithout(0));
        int[] bad = {-1, 3, MIN, MAX};
        for (int variant : bad) {
            Check.outOfBounds("servedWithout()", desk, () -> desk.servedWithout(variant));
        }
    }

    private static void leastWeights() {
        RatherDesk desk = Check.desk("a/a a id 1", "a/b b gz 2");
        Check.list(desk, 0, 0, "a/a;900,a/b;500,c/c;5");
        long before = desk.digest();
        Check.due("its own, ahead by size", 500, desk.leastWeight(0, 0, 0, 0));
        Check.due("its own, behind by size", 901, desk.leastWeight(0, 0, 1, 1));
        Check.due("the served one's rival", 0, desk.leastWeight(0, 0, 1, 0));
        Check.due("the other one's weight 0", 0, desk.leastWeight(0, 0, 0, 1));
        Check.due("of no meaning, served", 0, desk.leastWeight(0, 0, 2, 0));
        Check.due("of no meaning, not served", -1, desk.leastWeight(0, 0, 2, 1));
        Check.due("digest()", before, desk.digest());
        desk.setWeight(0, 0, 0, 1000);
        Check.due("never", -1, desk.leastWeight(0, 0, 1, 1));
        desk.setTies(2, 0, 0);
        Check.due("at the greatest", 1000, desk.leastWeight(0, 0, 1, 1));
        desk.setQuality(1, 0);
        Check.due("without quality", -1, desk.leastWeight(0, 0, 1, 1));
        desk.setQuality(0, 0);
        Check.due("none at all", -1, desk.leastWeight(0, 0, 0, 0));
    }

    private static void sharedEntry() {
        // Of the weight w come floor(4 * w / 1000) * 500 / 1000 and floor(3 * w / 1000) * 999 / 1000.
        RatherDesk desk = Check.desk("a/a a id 1", "a/b b id 2");
        Check.list(desk, 0, 0, "*/*");
        Check.list(desk, 1, 1, "a;500,b;999");
        desk.setQuality(0, 4);
        desk.setQuality(1, 3);
        Check.due("the lesser one's least, behind at ties", -1, desk.leastWeight(0, 0, 0, 1));
        Check.due("the greater one's least", 500, desk.leastWeight(0, 0, 0, 0));
        // At 667 both have the score 1: the greater one is served at 500, and no longer there.
        desk.setTies(2, 0, 0);
        Check.due("the greater one's least, behind at ties", 500, desk.leastWeight(0, 0, 0, 0));
        Check.due("the lesser one's least, ahead at ties", 667, desk.leastWeight(0, 0, 0, 1));
        desk.setQuality(0, 1000);
        Check.due("the small one never", -1, desk.leastWeight(0, 0, 0, 1));
        Check.due("the great one", 2, desk.leastWeight(0, 0, 0, 0));
    }

    private static void wrongWeights() {
        RatherDesk desk = two();
        int[] bad = {-1, 2, MIN, MAX};
        for (int at : bad) {
            Check.outOfBounds("side", desk, () -> desk.leastWeight(at, 1, 0, 0));
            Check.outOfBounds("entry", desk, () -> desk.leastWeight(1, 1, at, 0));
            Check.outOfBounds("variant", desk, () -> desk.leastWeight(1, 1, 0, at));
        }
        int[] badList = {-1, 3, MIN, MAX};
        for (int list : badList) {
            Check.outOfBounds("list", desk, () -> desk.leastWeight(1, list, 0, 0));
        }
        Check.outOfBounds("an empty list", desk, () -> desk.leastWeight(1, 0, 0, 0));
    }

    private static void leastQualities() {
        RatherDesk desk = Check.desk("a/a a id 1", "a/b b id 2");
        Check.due("ahead at ties", 1000, desk.leastQuality(0));
        Check.due("behind at ties", -1, desk.leastQuality(1));
        desk.setQuality(0, 999);
        Check.due("just above", 1000, desk.leastQuality(1));
        Check.due("the other one is at 1000", 1000, desk.leastQuality(0));
        desk.setQuality(0, 0);
        Check.due("without a rival", 1, desk.leastQuality(1));
        Check.list(desk, 0, 1, "b;300,a;0");
        Check.due("a score of 1 is needed", 4, desk.leastQuality(1));
        Check.due("never", -1, desk.leastQuality(0));
        long before = desk.digest();
        desk.leastQuality(1);
        Check.due("digest()", before, desk.digest());
        int[] bad = {-1, 2, MIN, MAX};
        for (int variant : bad) {
            Check.outOfBounds("leastQuality()", desk, () -> desk.leastQuality(variant));
        }
    }

    private static void leastQualityByTies() {
        RatherDesk desk = Check.desk("a/a a id 1", "a/b b id 1");
        Check.list(desk, 0, 0, "*/*;10");
        desk.setQuality(0, 550);
        Check.due("the tie goes to the first", 600, desk.leastQuality(1));
        desk.setTies(1, 5, 0);
        Check.due("the tie goes to the better", 551, desk.leastQuality(1));
        desk.setQuality(1, 560);
        Check.due("of the same quality the first", 560, desk.leastQuality(0));
        desk.setTies(2, 0, 0);
        Check.due("the score is enough", 500, desk.leastQuality(0));
    }

    public static void main(String[] args) {
        sides();
        sidesAndTies();
        without();
        leastWeights();
        sharedEntry();
        wrongWeights();
        leastQualities();
        leastQualityByTies();
        Check.end();
    }
}
