/** What all tests use: it counts answers that are not due, and sets desks up. */
final class Check {
    private static int wrong = 0;
    private static int looked = 0;

    private Check() {
    }

    static void due(String call, long want, long got) {
        looked++;
        if (want != got) {
            tell(call + " answered " + got + ", due is " + want);
        }
    }

    static void due(String call, boolean want, boolean got) {
        due(call, want ? 1 : 0, got ? 1 : 0);
    }

    /** The call throws just this exception, and the state stays as it was. */
    static void refused(String call, RatherDesk desk, Class<?> want, Runnable run) {
        looked++;
        long before = desk.digest();
        Class<?> got = thrownBy(run);
        if (got != want) {
            tell(call + " threw " + got + ", due is " + want);
        }
        due("digest() behind " + call, before, desk.digest());
    }

    static void outOfBounds(String call, RatherDesk desk, Runnable run) {
        refused(call, desk, IndexOutOfBoundsException.class, run);
    }

    static void badArgument(String call, RatherDesk desk, Runnable run) {
        refused(call, desk, IllegalArgumentException.class, run);
    }

    static void badState(String call, RatherDesk desk, Runnable run) {
        refused(call, desk, IllegalStateException.class, run);
    }

    private static Class<?> thrownBy(Runnable run) {
        try {
            run.run();
            return null;
        } catch (RuntimeException thrown) {
            return thrown.getClass();
        }
    }

    static void tell(String what) {
        wrong++;
        System.out.println(what);
    }

    static void end() {
        System.out.println(looked + " looked at, " + wrong + " wrong");
        if (wrong != 0 || looked == 0) {
            System.exit(1);
        }
    }

    /** Puts a text in place of the one that the desk has. */
    static void text(RatherDesk desk, String text) {
        desk.clearText();
        for (int index = 0; index < text.length(); index++) {
            desk.type(text.charAt(index));
        }
    }

    static RatherDesk desk(String... variants) {
        RatherDesk desk = new RatherDesk();
        for (String variant : variants) {
            text(desk, variant);
            if (desk.addVariant() < 0) {
                tell("no variant: " + variant);
            }
        }
        return desk;
    }

    static void list(RatherDesk desk, int side, int list, String text) {
        text(desk, text);
        if (desk.takeList(side, list) < 0) {
            tell("no list: " + text);
        }
    }

    /** The values next to a range on both sides, and the farthest ones. */
    static int[] outside(int least, int most) {
        return new int[] {Integer.MIN_VALUE, least - 1, most + 1, Integer.MAX_VALUE};
    }

    static String listing(RatherDesk desk) {
        StringBuilder bytes = new StringBuilder();
        int index = 0;
        int next = desk.listingByte(index);
        while (next != RatherDesk.NONE) {
            bytes.append((char) next);
            index++;
            next = desk.listingByte(index);
        }
        return bytes.toString();
    }

    static void same(String what, String want, String got) {
        looked++;
        if (!want.equals(got)) {
            tell(what + " is '" + got + "', due is '" + want + "'");
        }
    }
}
