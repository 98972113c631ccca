/** Promises 20 to 25: allowed, film, sheet, drop, item, copy. */
public final class SheetTest {
    private static final Check CHECK = new Check("SheetTest");
    private static final int MOST = Integer.MAX_VALUE;
    private static final int LEAST = Integer.MIN_VALUE;

    public static void main(String[] args) {
        sheets();
        items();
        allowedKinds();
        allowedWrong();
        films();
        copies();
        copiesOverlap();
        CHECK.end();
    }

    private static void sheets() {
        CleanNets x = new CleanNets();
        for (int sheet = 0; sheet < 4; sheet++) {
            CHECK.due("sheet " + sheet, x.sheet(sheet, sheet, 24), 24);
            CHECK.due("anew " + sheet, x.sheet(sheet, 3 - sheet, sheet), sheet);
        }
        CHECK.due("25", x.sheet(0, 0, 25), CleanNets.BAD);
        CHECK.due("most", x.sheet(0, 0, MOST), CleanNets.BAD);
        CHECK.due("-1", x.sheet(0, 0, -1), CleanNets.SIZE);
        CHECK.due("least", x.sheet(0, 0, LEAST), CleanNets.SIZE);
        CHECK.due("bad ahead of size", x.sheet(0, 4, -1), CleanNets.BAD);
        CHECK.due("bad ahead of size", x.sheet(-1, 0, -1), CleanNets.BAD);
        CHECK.due("no sheet 4", x.sheet(4, 0, 1), CleanNets.BAD);
        CHECK.due("no lane -1", x.sheet(0, -1, 1), CleanNets.BAD);
        for (int sheet = 0; sheet < 4; sheet++) {
            CHECK.due("drop " + sheet, x.drop(sheet), sheet);
            CHECK.due("dropped " + sheet, x.drop(sheet), CleanNets.NULL);
        }
        CHECK.due("drop 4", x.drop(4), CleanNets.BAD);
        CHECK.due("drop -1", x.drop(-1), CleanNets.BAD);
        Check.fill(x, 0, 2, 99, 99);
        x.sheet(0, 2, 3);
        CHECK.due("a new row holds noughts", x.allowed(0, 2, 0, 1), 7);
        CHECK.due("its length is new", x.allowed(0, 2, 2, 1), 7);
        CHECK.due("sheets aren't undone", x.undo(), CleanNets.NONE);
    }

    private static void items() {
        CleanNets x = new CleanNets();
        CHECK.due("null", x.item(0, 0, 0, 1), CleanNets.NULL);
        CHECK.due("null ahead of index", x.item(0, 0, -5, 1), CleanNets.NULL);
        x.sheet(0, 1, 2);
        CHECK.due("cast", x.item(0, 2, 0, 1), CleanNets.CAST);
        CHECK.due("cast ahead of index", x.item(0, 0, 9, 1), CleanNets.CAST);
        for (int i : new int[] {-1, 2, 24, MOST, LEAST}) {
            CHECK.due("index " + i, x.item(0, 1, i, 1), CleanNets.INDEX);
        }
        CHECK.due("bad ahead of null", x.item(1, 4, 0, 1), CleanNets.BAD);
        CHECK.due("bad lane", x.item(0, -1, 0, 1), CleanNets.BAD);
        CHECK.due("bad sheet", x.item(4, 0, 0, 1), CleanNets.BAD);
        CHECK.due("fine", x.item(0, 1, 1, 1), 1);
        long[] above = {1L << 8, 1L << 16, 1L << 32};
        for (int lane = 0; lane < 4; lane++) {
            x.sheet(0, lane, 1);
            for (int k = 0; k < 3; k++) {
                x.item(0, lane, 0, above[k]);
                CHECK.due("lowest bits, lane " + lane + ", " + k, x.allowed(0, lane, 0, 1), k >= lane ? 7 : CleanNets.NOT);
                x.item(0, lane, 0, 101 - above[k]);
                CHECK.due("with a sign, lane " + lane + ", " + k, x.allowed(0, lane, 0, 1), k >= lane ? 0 : CleanNets.NOT);
            }
            x.item(0, lane, 0, Long.MIN_VALUE);
            CHECK.due("the least, lane " + lane, x.allowed(0, lane, 0, 1), lane == 3 ? CleanNets.NOT : 7);
            x.item(0, lane, 0, Long.MAX_VALUE);
            CHECK.due("the greatest, lane " + lane, x.allowed(0, lane, 0, 1), CleanNets.NOT);
        }
    }

    private static void allowedKinds() {
        CleanNets x = Check.made("path 4");
        due(x, "home", 7, 0);
        due(x, "elsewhere", 1, 1);
        due(x, "home, then beside it", 5, 0, 1);
        due(x, "home, then far", 1, 0, 3);
        due(x, "home, then a move", 2, 0, 101);
        due(x, "home taken", 7, 0, 10);
        due(x, "taken elsewhere", 5, 0, 1, 11);
        due(x, "a move, taken elsewhere", 0, 0, 101, 11);
        due(x, "nothing to take", 0, 10);
        due(x, "twice", 0, 0, 0);
        due(x, "more than the team", 0, 0, 1, 2);
        due(x, "not more at a time", 5, 0, 1, 10, 2, 11, 3);
        due(x, "a walk of two", 2, 0, 101, 0, 112, 101, 123, 112, 121, 110, 10, 132, 121);
        due(x, "two moves from one", 0, 0, 101, 102);
        x.act(3);
        due(x, "from all foul on, not from here", 7, 0, 10, 0);
        x.tell(1, 1);
        due(x, "by the team told", 0, 0, 1);
        x.tell(1, 3);
        x.tell(0, 1);
        due(x, "by any kind, not the one told", 5, 0, 1, 2);
        CHECK.due("nothing is done", x.count(4), 8);
    }

    private static void due(CleanNets x, String what, int want, long... row) {
        for (int lane = 1; lane < 4; lane++) {
            Check.fill(x, 2, lane, row);
            CHECK.due(what + ", lane " + lane, x.allowed(2, lane, 0, row.length), want);
        }
    }

    private static void allowedWrong() {
        CleanNets x = Check.made("path 4");
        CHECK.due("null", x.allowed(0, 0, 0, 1), CleanNets.NULL);
        Check.fill(x, 0, 1, 0, 10, 4, 0);
        CHECK.due("cast", x.allowed(0, 2, 9, 1), CleanNets.CAST);
        for (int i : new int[] {-1, 4, 5, MOST, LEAST}) {
            CHECK.due("index " + i, x.allowed(0, 1, i, 1), CleanNets.INDEX);
        }
        CHECK.due("index ahead of not", x.allowed(0, 1, 2, 3), CleanNets.INDEX);
        CHECK.due("no act", x.allowed(0, 1, 0, 3), CleanNets.NOT);
        CHECK.due("no act behind what isn't allowed", x.allowed(0, 1, 1, 2), CleanNets.NOT);
        CHECK.due("short of it", x.allowed(0, 1, 0, 2), 7);
        CHECK.due("behind it", x.allowed(0, 1, 3, 1), 7);
        int[][] bad = {{-1, 1, 0, 1}, {4, 1, 0, 1}, {0, -1, 0, 1}, {0, 4, 0, 1}, {0, 1, 0, 0}, {0, 1, 0, 13},
            {0, 1, 0, -1}, {0, 1, -1, 0}, {1, 1, 0, 0}, {0, 1, 0, MOST}, {0, 1, 0, LEAST}};
        for (int[] b : bad) {
            CHECK.due("allowed " + b[0] + " " + b[1] + " " + b[2] + " " + b[3], x.allowed(b[0], b[1], b[2], b[3]),
                    CleanNets.BAD);
        }
        for (long no : new long[] {-1, 9, 14, 99, 100, 111, 104, 140, 1L << 32, (1L << 32) + 101, Long.MIN_VALUE}) {
            Check.fill(x, 3, 3, no);
            CHECK.due("no act " + no, x.allowed(3, 3, 0, 1), CleanNets.NOT);
        }
        x.sheet(1, 3, 24);
        CHECK.due("twelve", x.allowed(1, 3, 12, 12), 0);
    }

    private static void films() {
        CleanNets x = Check.made("path 3");
        x.act(1);
        x.act(0);
        x.act(10);
        for (int lane = 0; lane < 4; lane++) {
            Check.fill(x, 0, lane, 99, 99, 99, 99, 99);
            CHECK.due("film", x.film(0, lane, 1), 3);
            CHECK.due("ahead of it", x.allowed(0, lane, 0, 1), CleanNets.NOT);
            CHECK.due("home is clean: 1", x.allowed(0, lane, 1, 1), 1);
            CHECK.due("1 is guarded: 2", x.allowed(0, lane, 2, 1), 1);
            CHECK.due("1, 2", x.allowed(0, lane, 1, 2), 1);
            CHECK.due("2 is foul: 0", x.allowed(0, lane, 3, 1), 7);
            CHECK.due("2, 0", x.allowed(0, lane, 2, 2), 1);
            CHECK.due("behind it", x.allowed(0, lane, 4, 1), CleanNets.NOT);
        }
        CHECK.due("to its end", x.film(0, 3, 2), 3);
        for (int i : new int[] {-1, 3, 5, 6, MOST, LEAST}) {
            CHECK.due("index " + i, x.film(0, 3, i), CleanNets.INDEX);
        }
        CHECK.due("cast", x.film(0, 2, -1), CleanNets.CAST);
        CHECK.due("null", x.film(1, 2, -1), CleanNets.NULL);
        CHECK.due("bad", x.film(4, 2, 0), CleanNets.BAD);
        CHECK.due("bad", x.film(1, 4, 0), CleanNets.BAD);
    }

    private static void copies() {
        CleanNets x = Check.made("path 4");
        CHECK.due("null", x.copy(0, 0, 1, 0, 0), CleanNets.NULL);
        Check.fill(x, 0, 1, 0, 1, 99);
        CHECK.due("null, to", x.copy(0, 0, 1, 0, 0), CleanNets.NULL);
        CHECK.due("null, from", x.copy(1, 0, 0, 0, -1), CleanNets.NULL);
        x.sheet(1, 2, 5);
        CHECK.due("cast", x.copy(0, -1, 1, 0, 9), CleanNets.CAST);
        x.sheet(1, 1, 5);
        int[][] wrong = {{-1, 0, 0}, {0, -1, 0}, {4, 0, 0}, {0, 6, 0}, {0, 0, 4}, {1, 0, 3}, {0, 3, 3}, {0, 0, -1},
            {MOST, 0, 1}, {0, MOST, 1}, {1, 1, MOST}, {LEAST, 0, 0}, {0, 0, LEAST}, {MOST, MOST, MOST}, {3, 5, 1}};
        for (int[] w : wrong) {
            CHECK.due("copy " + w[0] + " " + w[1] + " " + w[2], x.copy(0, w[0], 1, w[1], w[2]), CleanNets.INDEX);
        }
        CHECK.due("none, at both ends", x.copy(0, 3, 1, 5, 0), 0);
        CHECK.due("nothing came", x.allowed(1, 1, 0, 2), 0);
        CHECK.due("two", x.copy(0, 0, 1, 3, 2), 2);
        CHECK.due("they came", x.allowed(1, 1, 3, 2), 5);
        CHECK.due("nothing else", x.allowed(1, 1, 2, 1), 7);
        CHECK.due("bad from", x.copy(4, 0, 0, 0, 0), CleanNets.BAD);
        CHECK.due("bad to", x.copy(3, 0, -1, 0, 0), CleanNets.BAD);
    }

    private static void copiesOverlap() {
        CleanNets x = Check.made("path 4");
        Check.fill(x, 0, 0, 0, 1, 2, 3, 99);
        CHECK.due("upwards", x.copy(0, 0, 0, 1, 3), 3);
        x.tell(1, 7);
        CHECK.due("0 0 1 2: one 0", x.allowed(0, 0, 1, 3), 5);
        CHECK.due("0 0", x.allowed(0, 0, 0, 2), 0);
        CHECK.due("99 stays", x.allowed(0, 0, 4, 1), CleanNets.NOT);
        Check.fill(x, 0, 0, 99, 3, 0, 1, 2);
        CHECK.due("downwards", x.copy(0, 2, 0, 1, 3), 3);
        CHECK.due("0 1 2", x.allowed(0, 0, 1, 3), 5);
        CHECK.due("2 2", x.allowed(0, 0, 3, 2), 0);
        CHECK.due("onto itself", x.copy(0, 0, 0, 0, 5), 5);
        CHECK.due("0 1 2", x.allowed(0, 0, 1, 3), 5);
    }
}
