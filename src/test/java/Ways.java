/** Where refused calls are tried: each place has something of everything, so that a change would be seen. */
final class Ways {
    /** Nothing was called: no image, nothing to undo, an empty tape, no sheet. */
    static final Way FRESH = x -> { };
    /** By FREE rules as many guards as the team, an image, all six known, some letters, three sheets and one missing. */
    static final Way BUSY = Ways::busy;
    /** By WALKING with as many guards as the team, all away from home; a missing sheet, and one without items. */
    static final Way WALK = Ways::walk;
    /** By CLONING with a team of one at home, no image, less than six known. */
    static final Way CLONE = Ways::clone;
    /** No letter more can come. */
    static final Way FULL_TAPE = WALK.then(x -> type(x, " ".repeat(90 - 6) + "path 7"));
    /** All clean. */
    static final Way CLEAN = BUSY.then(Ways::cleanAll);

    private Ways() {
    }

    static void type(CleanNets x, String text) {
        for (int k = 0; k < text.length(); k++) {
            x.type(text.charAt(k));
        }
    }

    /** Each of these calls must be taken, or what follows would not be tried where it should be. */
    private static void must(int answer) {
        if (answer < 0) {
            throw new IllegalStateException("refused on the way: " + answer);
        }
    }

    private static void busy(CleanNets x) {
        must(Check.read(x, "path 5"));
        must(x.act(0));
        must(x.act(1));
        must(x.seed(77));
        must(x.image());
        must(x.act(10));
        must(x.act(4));
        must(x.link(2, 4, 1));
        must(x.seed(4242));
        type(x, "grid 3*");
        Check.fill(x, 0, 0, 0, 10, 1, 99, 2);
        Check.fill(x, 1, 1, 3, 13, 4, 99, 0, 10);
        Check.fill(x, 2, 0, 6, 5, 14);
    }

    private static void walk(CleanNets x) {
        must(Check.read(x, "ring 5"));
        must(x.tell(0, 1));
        must(x.act(0));
        must(x.act(101));
        must(x.act(0));
        must(x.undo());
        must(x.image());
        must(x.act(0));
        must(x.act(104));
        must(x.seed(2147483647));
        Check.fill(x, 3, 3, 0, 11, 1L << 40, 2);
        Check.fill(x, 0, 3, 1);
        must(x.sheet(1, 2, 0));
    }

    private static void clone(CleanNets x) {
        must(Check.read(x, "star 7"));
        must(x.tell(0, 2));
        must(x.tell(1, 1));
        must(x.act(0));
        must(x.seed(0));
        type(x, "ring ");
        Check.fill(x, 2, 2, 16, 0, 6, 99);
    }

    private static void cleanAll(CleanNets x) {
        must(x.tell(1, 5));
        must(x.act(0));
        must(x.act(2));
        must(x.act(3));
    }
}
