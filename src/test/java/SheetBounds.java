/** The sheets, what the terms say of answers and of rows, and promises 20 to 25. */
final class SheetBounds {
    private static final int BAD = CleanNets.BAD, NOT = CleanNets.NOT, FULL = CleanNets.FULL, NONE = CleanNets.NONE;
    private static final int NULL = CleanNets.NULL, CAST = CleanNets.CAST, INDEX = CleanNets.INDEX, SIZE = CleanNets.SIZE;
    private static final int LEAST = Integer.MIN_VALUE, MOST = Integer.MAX_VALUE;
    private static final int[] NO_PLACE = {-1, 4, LEAST, MOST};

    private final Book book;

    SheetBounds(Book book) {
        this.book = book;
    }

    void run() {
        badAhead();
        answers();
        machineOrder();
        indexWithoutItems();
        refusedChangesNothing();
        sets();
        sheetsAndLanes();
        allowedOfTerms();
        allowed();
        allowedRefused();
        film();
        filmRefused();
        sheet();
        sheetRefused();
        drop();
        dropRefused();
        item();
        itemRefused();
        copy();
        copyRefused();
    }

    private static CleanNets busy() {
        CleanNets x = new CleanNets();
        Ways.BUSY.go(x);
        return x;
    }

    /** By BUSY: sheet 0 has 5 bytes, sheet 1 has 6 shorts, sheet 2 has 3 bytes, sheet 3 holds nothing. */
    private void badAhead() {
        book.says(Book.TERMS, "Answers below 0, of several BAD ahead of all others, then the first that a call"
                + " names:");
        Way way = Ways.BUSY;
        book.refused("no kind, no plan", way, x -> x.plan(3, 0, 0), BAD);
        book.refused("k below 0, no plan", Ways.FRESH, x -> x.plan(1, 0, -1), BAD);
        book.refused("no act, a full team", way, x -> x.act(5), BAD);
        book.refused("guarded, a full team: NOT ahead of FULL", way, x -> x.act(1), NOT);
        book.refused("one told twice, not linked", way, x -> x.link(3, 3, 0), BAD);
        book.refused("no such v, linked", way, x -> x.link(0, 1, 2), BAD);
        book.refused("no letter, a full tape", Ways.FULL_TAPE, x -> x.type(127), BAD);
        book.refused("a lane that is none, nothing held", way, x -> x.item(3, 4, -1, 0), BAD);
        book.refused("a lane that is none, an index", way, x -> x.item(0, -1, 99, 0), BAD);
        book.refused("n 0, nothing held", way, x -> x.allowed(3, 0, 0, 0), BAD);
        book.refused("n 13, another lane", way, x -> x.allowed(0, 1, 0, 13), BAD);
        book.refused("n 0, an index", way, x -> x.allowed(0, 0, -1, 0), BAD);
        book.refused("n 13, no act", way, x -> x.allowed(0, 0, 3, 13), BAD);
        book.refused("a lane that is none, nothing held", way, x -> x.film(3, 4, -1), BAD);
        book.refused("a lane that is none, n below 0", way, x -> x.sheet(0, 4, -1), BAD);
        book.refused("a sheet that is none, n below 0", way, x -> x.sheet(4, 0, -1), BAD);
        book.refused("a sheet that is none, nothing held", way, x -> x.copy(4, 0, 3, 0, 1), BAD);
        book.refused("nothing held, a sheet that is none", way, x -> x.copy(3, -1, 4, -1, -1), BAD);
        book.refused("another lane, a sheet that is none", way, x -> x.copy(0, 0, -1, 0, 1), BAD);
        book.refused("an index ahead of no act", way, x -> x.allowed(0, 0, 3, 3), INDEX);
    }

    private void answers() {
        book.says(Book.TERMS, "BAD -1 (a number is not as told, there is no such thing), NOT -2 (as told), FULL -3,"
                + " NONE -4 (as told), CAST -12 (of SHEETS another LANE);");
        book.due("BAD", busy().node(5, 0), -1);
        book.due("NOT", busy().act(1), -2);
        book.due("FULL", busy().act(0), -3);
        book.due("NONE", new CleanNets().undo(), -4);
        book.due("CAST", busy().item(0, 1, 0, 0), -12);
        int[] due = {-1, -2, -3, -4, -11, -12, -13, -14};
        int[] named = {BAD, NOT, FULL, NONE, NULL, CAST, INDEX, SIZE};
        for (int k = 0; k < due.length; k++) {
            book.due("constant " + k, named[k], due[k]);
        }
    }

    private void machineOrder() {
        book.says(Book.TERMS, "what the machine finds: NULL -11, INDEX -13, SIZE -14 (NULL, CAST, INDEX, SIZE in"
                + " this order;");
        book.due("NULL", busy().drop(3), -11);
        book.due("INDEX", busy().item(0, 0, 5, 0), -13);
        book.due("SIZE", busy().sheet(0, 0, -1), -14);
        for (int i : new int[] {-1, 0, 99}) {
            book.refused("NULL, whatever lane and index", Ways.BUSY, x -> x.item(3, 2, i, 0), NULL);
            book.refused("NULL", Ways.BUSY, x -> x.allowed(3, 2, i, 1), NULL);
            book.refused("NULL", Ways.BUSY, x -> x.film(3, 2, i), NULL);
            book.refused("NULL, to", Ways.BUSY, x -> x.copy(1, i, 3, i, i), NULL);
            book.refused("NULL, from", Ways.BUSY, x -> x.copy(3, i, 0, i, i), NULL);
            book.refused("CAST, whatever index", Ways.BUSY, x -> x.item(0, 2, i, 0), CAST);
            book.refused("CAST", Ways.BUSY, x -> x.allowed(0, 2, i, 1), CAST);
            book.refused("CAST", Ways.BUSY, x -> x.film(0, 2, i), CAST);
            book.refused("CAST", Ways.BUSY, x -> x.copy(0, i, 1, i, i), CAST);
        }
    }

    private void indexWithoutItems() {
        book.says(Book.TERMS, "INDEX also where no item is taken, if i, j is below 0, or above how many there are).");
        int[][] fine = {{0, 0}, {5, 0}, {0, 3}, {5, 3}, {4, 2}};
        for (int[] f : fine) {
            book.unchanged("no item from " + f[0] + " to " + f[1], Ways.BUSY, x -> x.copy(0, f[0], 2, f[1], 0));
            book.due("no item from " + f[0] + " to " + f[1], busy().copy(0, f[0], 2, f[1], 0), 0);
        }
        int[][] wrong = {{-1, 0}, {0, -1}, {6, 0}, {0, 4}, {6, 3}, {5, 4}, {LEAST, 0}, {0, LEAST}, {MOST, 0}, {0, MOST}, {-1, -1}};
        for (int[] w : wrong) {
            book.refused("no item from " + w[0] + " to " + w[1], Ways.BUSY, x -> x.copy(0, w[0], 2, w[1], 0), INDEX);
        }
        Way empty = Ways.BUSY.then(x -> x.sheet(2, 0, 0));
        CleanNets x = new CleanNets();
        empty.go(x);
        book.due("none of none", x.copy(2, 0, 2, 0, 0), 0);
        book.due("none to the end of others", x.copy(2, 0, 0, 5, 0), 0);
        for (int i : new int[] {-1, 1}) {
            book.refused("none of none from " + i, empty, y -> y.copy(2, i, 2, 0, 0), INDEX);
            book.refused("none of none to " + i, empty, y -> y.copy(2, 0, 2, i, 0), INDEX);
        }
        book.refused("a row without items", empty, y -> y.item(2, 0, 0, 1), INDEX);
        book.refused("a row without items", empty, y -> y.allowed(2, 0, 0, 1), INDEX);
        book.refused("a row without items", empty, y -> y.film(2, 0, 0), INDEX);
    }

    /** Calls with each number far off in turn, at each of the ways: all that answer below 0 must leave all as it was. */
    private void refusedChangesNothing() {
        book.says(Book.TERMS, "What is refused changes nothing, but as told.");
        Way[] ways = {Ways.FRESH, Ways.BUSY, Ways.WALK, Ways.CLONE, Ways.CLEAN, Ways.FULL_TAPE};
        for (Way way : ways) {
            for (int v : new int[] {LEAST, -1, 0, 1, 2, 7, 13, 25, 41, 101, 127, MOST}) {
                for (Ask ask : calls(v)) {
                    CleanNets x = new CleanNets();
                    way.go(x);
                    if (ask.of(x) < 0) {
                        book.unchanged("a call with " + v, way, ask);
                    }
                }
            }
        }
        Way read = Ways.BUSY.then(CleanNets::read);
        CleanNets x = new CleanNets();
        read.go(x);
        book.due("as told: the tape is empty by a fault", x.type(' '), 1);
    }

    private static Ask[] calls(int v) {
        return new Ask[] {x -> x.node(v, 0), x -> x.node(0, v), x -> x.count(v), x -> x.would(v), x -> x.team(v, 0),
            x -> x.team(1, v), x -> x.fewest(v, 2, 0), x -> x.fewest(0, v, 0), x -> x.fewest(1, 3, v), x -> x.plan(v, 0, 0),
            x -> x.plan(0, v, 0), x -> x.plan(1, 1, v), x -> x.rest(v), x -> x.lost(v, 0), x -> x.lost(3, v), x -> x.act(v),
            x -> x.link(v, 0, 1), x -> x.link(1, v, 0), x -> x.link(0, 1, v), x -> x.tell(v, 1), x -> x.tell(0, v),
            x -> x.tell(1, v), x -> x.type(v), x -> x.drift(v), x -> x.undo(), x -> x.seed(v), x -> x.restore(),
            x -> x.allowed(v, 0, 0, 1), x -> x.allowed(0, v, 0, 1), x -> x.allowed(0, 0, v, 1), x -> x.allowed(1, 1, 0, v),
            x -> x.film(v, 0, 0), x -> x.film(1, v, 0), x -> x.film(1, 1, v), x -> x.film(0, 0, v), x -> x.sheet(v, 0, 1),
            x -> x.sheet(0, v, 1), x -> x.sheet(0, 0, v), x -> x.drop(v), x -> x.item(v, 0, 0, 1), x -> x.item(0, v, 0, 1),
            x -> x.item(0, 0, v, 1), x -> x.copy(v, 0, 0, 0, 1), x -> x.copy(0, v, 2, 0, 1), x -> x.copy(0, 0, v, 0, 1),
            x -> x.copy(0, 0, 2, v, 1), x -> x.copy(0, 0, 2, 0, v), x -> x.copy(0, 0, 0, 1, v), x -> x.copy(1, 1, 1, 0, v)};
    }

    private void sets() {
        book.says(Book.TERMS, "Sets (of NODES, of KINDS) are bits.");
        CleanNets x = Check.made("net 7:0-6,0-1");
        x.act(6);
        x.act(2);
        book.due("linked to 0: 1 and 6", x.node(0, 1), 66);
        book.due("linked to 6: 0", x.node(6, 1), 1);
        book.due("clean ones", x.count(3), 68);
        book.due("guards", x.count(4), 68);
        Check.fill(x, 0, 0, 0, 1, 101);
        book.due("all kinds", x.allowed(0, 0, 0, 1), 7);
        book.due("free alone", x.allowed(0, 0, 1, 1), 1);
        book.due("free and cloning", x.allowed(0, 0, 0, 2), 5);
        Check.fill(x, 0, 0, 0, 101);
        book.due("walking alone", x.allowed(0, 0, 0, 2), 2);
        book.due("none", x.allowed(0, 0, 1, 1), 0);
    }

    /** Which act a lane's item tells when it has become v, or -1. */
    private static int put(int lane, long v) {
        CleanNets x = new CleanNets();
        x.sheet(1, lane, 3);
        x.item(1, lane, 1, v);
        Trace.beAllOfSeven(x);
        return Trace.valueOf(x, 1, lane, 1);
    }

    private void sheetsAndLanes() {
        book.says(Book.TERMS, "sheets 0 .. 3: nothing (at first), or a row of a LANE: 0 bytes, 1 shorts, 2 ints, 3"
                + " longs (all with a sign), of 0 to 24 items.");
        for (int sheet = 0; sheet < 4; sheet++) {
            for (int lane = 0; lane < 4; lane++) {
                CleanNets x = new CleanNets();
                book.due("nothing at first", x.item(sheet, lane, 0, 0), NULL);
                for (int n : new int[] {0, 1, 23, 24}) {
                    book.due("a row of " + n, x.sheet(sheet, lane, n), n);
                    book.due("it has " + n, Trace.lengthOf(x, sheet, lane), n);
                    book.due("of its lane", n == 0 ? lane : Trace.laneOf(x, sheet), lane);
                }
                book.due("a row of 25", x.sheet(sheet, lane, 25), BAD);
                book.due("a row of -1", x.sheet(sheet, lane, -1), SIZE);
            }
        }
        book.due("sheet -1", new CleanNets().sheet(-1, 0, 1), BAD);
        book.due("sheet 4", new CleanNets().sheet(4, 0, 1), BAD);
        book.due("lane -1", new CleanNets().sheet(0, -1, 1), BAD);
        book.due("lane 4", new CleanNets().sheet(0, 4, 1), BAD);
        book.due("a byte has a sign: 165 is none of 6 to 5", put(0, 165), -1);
        book.due("a short has none there: 165 is 6 to 5", put(1, 165), 100);
        book.due("a byte: 127 is the greatest, 106 is 0 to 6", put(0, 106), 100);
    }

    private void allowedOfTerms() {
        book.says(Book.TERMS, "ALLOWED: a row tells n ACTS (1 .. 12): by which KINDS (a set) all are allowed, one"
                + " behind the other, from all FOUL without GUARDS on, by the TEAM told.");
        CleanNets x = Check.made("path 3");
        Check.fill(x, 0, 1, 0, 10, 0, 10, 0, 10, 0, 10, 0, 10, 0, 10, 0, 0);
        book.due("n 0", x.allowed(0, 1, 0, 0), BAD);
        for (int n = 1; n <= 12; n++) {
            book.due("n " + n, x.allowed(0, 1, 0, n), 7);
        }
        book.due("n 13", x.allowed(0, 1, 0, 13), BAD);
        book.due("n 13 where there are fewer", x.allowed(0, 1, 3, 13), BAD);
        book.due("the last one isn't", x.allowed(0, 1, 2, 12), 0);
        book.due("the first one isn't", x.allowed(0, 1, 1, 11), 0);
        x.act(0);
        x.act(1);
        book.due("from all foul without guards, wherever one stands", x.allowed(0, 1, 0, 12), 7);
        Check.fill(x, 1, 1, 0, 1, 2, 10, 0);
        int[] byTeam = {0, 0, 5, 5, 5, 5, 5};
        for (int t = 1; t <= 7; t++) {
            x.tell(1, t);
            book.due("three guards by " + t, x.allowed(1, 1, 0, 3), byTeam[t - 1]);
            book.due("one guard by " + t, x.allowed(1, 1, 0, 1), 7);
            book.due("two guards by " + t, x.allowed(1, 1, 0, 2), t == 1 ? 0 : 5);
            book.due("three, one taken, put again, by " + t, x.allowed(1, 1, 0, 5), byTeam[t - 1]);
        }
        x.tell(0, 1);
        book.due("the kind told is no matter", x.allowed(1, 1, 0, 3), 5);
        Check.fill(x, 2, 1, 0, 101, 0, 112, 10, 121, 110, 10);
        book.due("a walk", x.allowed(2, 1, 0, 8), 2);
        book.due("a walk whose end isn't", x.allowed(2, 1, 1, 1), 0);
    }

    private void allowed() {
        book.says(20, "ALLOWED by n items of a SHEET taken as a row of a LANE, from item i on.");
        for (int lane = 0; lane < 4; lane++) {
            CleanNets x = Check.made("path 3");
            int sheet = 3 - lane;
            Check.fill(x, sheet, lane, 10, 0, 1, 11, 0);
            book.due("from 0 on", x.allowed(sheet, lane, 0, 1), 0);
            book.due("from 1 on", x.allowed(sheet, lane, 1, 3), 5);
            book.due("from 2 on", x.allowed(sheet, lane, 2, 3), 1);
            book.due("the last one", x.allowed(sheet, lane, 4, 1), 7);
            book.due("all five", x.allowed(sheet, lane, 0, 5), 0);
        }
        for (int i = 0; i < 3; i++) {
            int from = i;
            book.unchanged("allowed", Ways.BUSY, x -> x.allowed(0, 0, from, 1));
            book.unchanged("allowed", Ways.BUSY, x -> x.allowed(1, 1, from, 3));
        }
        CleanNets x = new CleanNets();
        x.sheet(2, 3, 24);
        book.due("the last twelve of 24", x.allowed(2, 3, 12, 12), 0);
        book.due("the last of 24", x.allowed(2, 3, 23, 1), 7);
    }

    private void allowedRefused() {
        book.says(20, "BAD;");
        for (int bad : NO_PLACE) {
            book.refused("sheet " + bad, Ways.BUSY, x -> x.allowed(bad, 0, 0, 1), BAD);
            book.refused("lane " + bad, Ways.BUSY, x -> x.allowed(0, bad, 0, 1), BAD);
        }
        for (int bad : new int[] {0, 13, -1, LEAST, MOST}) {
            book.refused("n " + bad, Ways.BUSY, x -> x.allowed(0, 0, 0, bad), BAD);
        }
        book.says(20, "NULL;");
        for (int lane = 0; lane < 4; lane++) {
            int as = lane;
            book.refused("nothing held", Ways.BUSY, x -> x.allowed(3, as, 0, 1), NULL);
        }
        book.says(20, "CAST;");
        for (int lane = 1; lane < 4; lane++) {
            int as = lane;
            book.refused("bytes as lane " + lane, Ways.BUSY, x -> x.allowed(0, as, 0, 1), CAST);
        }
        book.refused("shorts as bytes", Ways.BUSY, x -> x.allowed(1, 0, 0, 1), CAST);
        book.says(20, "INDEX;");
        int[][] wrong = {{-1, 1}, {5, 1}, {6, 1}, {4, 2}, {0, 6}, {-1, 5}, {LEAST, 1}, {MOST, 1}, {MOST, 12}, {1, 12}};
        for (int[] w : wrong) {
            book.refused("from " + w[0] + ", " + w[1], Ways.BUSY, x -> x.allowed(0, 0, w[0], w[1]), INDEX);
        }
        book.due("up to its end", busy().allowed(0, 0, 4, 1), 1);
        book.due("up to its end, a no act on the way", busy().allowed(0, 0, 0, 5), NOT);
        allowedNot();
    }

    private void allowedNot() {
        book.says(20, "NOT: an item tells no ACT by THE NET's NODES.");
        book.refused("99", Ways.BUSY, x -> x.allowed(0, 0, 3, 1), NOT);
        book.refused("99 behind others", Ways.BUSY, x -> x.allowed(0, 0, 0, 4), NOT);
        book.refused("99 behind what isn't allowed", Ways.BUSY, x -> x.allowed(0, 0, 1, 3), NOT);
        book.refused("6 by five nodes", Ways.BUSY, x -> x.allowed(2, 0, 0, 1), NOT);
        book.refused("5 by five nodes", Ways.BUSY, x -> x.allowed(2, 0, 1, 1), NOT);
        book.due("14 by five nodes", busy().allowed(2, 0, 2, 1), 0);
        for (int n = 2; n <= 7; n++) {
            boolean[] isAct = NetBounds.numbers(n);
            CleanNets x = Check.made("all " + n);
            x.sheet(0, 1, 1);
            for (int number = -5; number < 200; number++) {
                x.item(0, 1, 0, number);
                boolean is = number >= 0 && isAct[number];
                book.due(number + " by " + n, x.allowed(0, 1, 0, 1), !is ? NOT : number == 0 ? 7 : number < 10 ? 1 : 0);
            }
        }
        for (long far : new long[] {1L << 32, (1L << 32) + 1, -1, Long.MAX_VALUE, Long.MIN_VALUE, Long.MIN_VALUE + 10}) {
            CleanNets x = new CleanNets();
            Check.fill(x, 0, 3, far);
            book.due("a long far off: " + far, x.allowed(0, 3, 0, 1), NOT);
        }
    }

    private void film() {
        book.says(21, "What NODES are (0, 1, 2), n items, comes to a SHEET likewise: n.");
        for (int lane = 0; lane < 4; lane++) {
            for (int i = 0; i < 3; i++) {
                CleanNets x = Check.made("path 4");
                x.act(0);
                x.act(1);
                x.act(10);
                Check.fill(x, 0, lane, 16, 16, 16, 16, 16, 16);
                book.due("film from " + i, x.film(0, lane, i), 4);
                Trace.beAllOfSeven(x);
                int[] looks = {1, 2, 0, 0};
                for (int k = 0; k < 6; k++) {
                    int due = k < i || k >= i + 4 ? 16 : looks[k - i];
                    book.due("item " + k + ", lane " + lane, Trace.valueOf(x, 0, lane, k), due);
                }
            }
        }
        CleanNets x = Check.made("net 7");
        x.sheet(1, 0, 7);
        book.due("seven nodes, seven items", x.film(1, 0, 0), 7);
        CleanNets two = new CleanNets();
        two.sheet(1, 0, 24);
        book.due("the last two of 24", two.film(1, 0, 22), 2);
        Way filmed = Ways.BUSY.then(y -> y.film(0, 0, 0));
        book.same("nothing but the sheet is another", filmed, Ways.BUSY, 0, 1, 2, 3, 5, 6, 7);
    }

    private void filmRefused() {
        book.says(21, "BAD;");
        for (int bad : NO_PLACE) {
            book.refused("sheet " + bad, Ways.BUSY, x -> x.film(bad, 0, 0), BAD);
            book.refused("lane " + bad, Ways.BUSY, x -> x.film(0, bad, 0), BAD);
        }
        book.says(21, "NULL;");
        book.refused("nothing held", Ways.BUSY, x -> x.film(3, 0, 0), NULL);
        book.refused("nothing held, longs", Ways.BUSY, x -> x.film(3, 3, 0), NULL);
        book.says(21, "CAST;");
        for (int lane = 1; lane < 4; lane++) {
            int as = lane;
            book.refused("bytes as lane " + lane, Ways.BUSY, x -> x.film(0, as, 0), CAST);
        }
        book.refused("shorts as ints", Ways.BUSY, x -> x.film(1, 2, 0), CAST);
        book.says(21, "INDEX.");
        for (int i : new int[] {-1, 1, 2, 5, 6, LEAST, MOST, MOST - 4}) {
            book.refused("five to five from " + i, Ways.BUSY, x -> x.film(0, 0, i), INDEX);
        }
        book.refused("five to three", Ways.BUSY, x -> x.film(2, 0, 0), INDEX);
        book.refused("five to six from 2", Ways.BUSY, x -> x.film(1, 1, 2), INDEX);
        book.due("five to six from 1", busy().film(1, 1, 1), 5);
    }

    private void sheet() {
        book.says(22, "A SHEET holds a new row of a LANE: n.");
        for (int lane = 0; lane < 4; lane++) {
            for (int n : new int[] {0, 1, 2, 23, 24}) {
                CleanNets x = busy();
                x.sheet(0, lane, 24);
                for (int i = 0; i < 24; i++) {
                    x.item(0, lane, i, 99);
                }
                book.due("n", x.sheet(0, lane, n), n);
                for (int i = 0; i < n; i++) {
                    book.due("a new row holds 0", x.allowed(0, lane, i, 1), 7);
                }
                book.due("and no more", x.allowed(0, lane, n, 1), INDEX);
                book.due("how many", x.drop(0), n);
            }
        }
        book.same("others stay", Ways.BUSY.then(x -> x.sheet(0, 2, 7)), Ways.BUSY, 0, 1, 2, 3, 5, 6, 7);
        book.same("a like one", Ways.BUSY.then(x -> x.sheet(3, 0, 3)).then(x -> x.drop(3)), Ways.BUSY, 0, 1, 2, 3, 4, 5, 6, 7);
    }

    private void sheetRefused() {
        book.says(22, "BAD: also n above 24;");
        for (int bad : NO_PLACE) {
            book.refused("sheet " + bad, Ways.BUSY, x -> x.sheet(bad, 0, 1), BAD);
            book.refused("lane " + bad, Ways.BUSY, x -> x.sheet(0, bad, 1), BAD);
        }
        for (int bad : new int[] {25, 26, MOST}) {
            book.refused("n " + bad, Ways.BUSY, x -> x.sheet(0, 0, bad), BAD);
            book.refused("n " + bad, Ways.FRESH, x -> x.sheet(0, 0, bad), BAD);
        }
        book.says(22, "SIZE: n below 0.");
        for (int bad : new int[] {-1, -2, LEAST}) {
            book.refused("n " + bad, Ways.BUSY, x -> x.sheet(0, 0, bad), SIZE);
            book.refused("n " + bad, Ways.BUSY, x -> x.sheet(3, 3, bad), SIZE);
        }
        book.due("n 0", busy().sheet(0, 0, 0), 0);
    }

    private void drop() {
        book.says(23, "A SHEET holds nothing: how many items it had.");
        for (int sheet = 0; sheet < 4; sheet++) {
            for (int n : new int[] {0, 1, 24}) {
                CleanNets x = new CleanNets();
                x.sheet(sheet, 3 - sheet, n);
                book.due("it had " + n, x.drop(sheet), n);
                book.due("nothing", x.item(sheet, 3 - sheet, 0, 0), NULL);
                book.due("nothing", x.drop(sheet), NULL);
                book.due("a new row may come", x.sheet(sheet, sheet, 2), 2);
            }
        }
        book.same("others stay", Ways.BUSY.then(x -> x.drop(0)), Ways.BUSY, 0, 1, 2, 3, 5, 6, 7);
    }

    private void dropRefused() {
        book.says(23, "BAD;");
        for (int bad : NO_PLACE) {
            book.refused("drop(" + bad + ")", Ways.BUSY, x -> x.drop(bad), BAD);
        }
        book.says(23, "NULL.");
        book.refused("nothing held", Ways.BUSY, x -> x.drop(3), NULL);
        for (int sheet = 0; sheet < 4; sheet++) {
            int which = sheet;
            book.refused("nothing at first", Ways.FRESH, x -> x.drop(which), NULL);
        }
    }

    private void item() {
        book.says(24, "Item i of a SHEET, taken as a row of a LANE, becomes v, its lowest bits: 1.");
        book.due("item", busy().item(0, 0, 4, 7), 1);
        for (int lane = 0; lane < 4; lane++) {
            int bits = 8 << lane;
            for (int number : new int[] {0, 3, 6, 10, 16}) {
                book.due("lane " + lane + ", " + number, put(lane, number), number);
                for (int bit = bits; bit < 64; bit++) {
                    book.due("lane " + lane + " above its bits, " + bit, put(lane, number + (1L << bit)), number);
                    book.due("lane " + lane + " below 0, " + bit, put(lane, number - (1L << bit)), number);
                }
                for (int bit = 8; bit < bits; bit++) {
                    book.due("lane " + lane + " has bit " + bit, put(lane, number + (1L << bit)), -1);
                }
            }
            book.due("all bits, lane " + lane, put(lane, -1), -1);
        }
        for (int i : new int[] {0, 1, 22, 23}) {
            CleanNets x = new CleanNets();
            x.sheet(0, 2, 24);
            book.due("item " + i, x.item(0, 2, i, 99), 1);
            for (int k = 0; k < 24; k++) {
                book.due("item " + k, x.allowed(0, 2, k, 1), k == i ? NOT : 7);
            }
        }
        book.same("nothing but the sheet is another", Ways.BUSY.then(x -> x.item(0, 0, 1, 5)), Ways.BUSY, 0, 1, 2, 3, 5, 6, 7);
    }

    private void itemRefused() {
        book.says(24, "BAD;");
        for (int bad : NO_PLACE) {
            book.refused("sheet " + bad, Ways.BUSY, x -> x.item(bad, 0, 0, 1), BAD);
            book.refused("lane " + bad, Ways.BUSY, x -> x.item(0, bad, 0, 1), BAD);
        }
        book.says(24, "NULL;");
        for (int lane = 0; lane < 4; lane++) {
            int as = lane;
            book.refused("nothing held", Ways.BUSY, x -> x.item(3, as, 0, 1), NULL);
        }
        book.says(24, "CAST;");
        for (int lane = 1; lane < 4; lane++) {
            int as = lane;
            book.refused("bytes as lane " + lane, Ways.BUSY, x -> x.item(0, as, 0, 1), CAST);
        }
        book.refused("shorts as bytes", Ways.BUSY, x -> x.item(1, 0, 0, 1), CAST);
        book.says(24, "INDEX.");
        for (int i : new int[] {-1, 5, 6, 23, 24, LEAST, MOST}) {
            book.refused("item " + i + " of five", Ways.BUSY, x -> x.item(0, 0, i, 1), INDEX);
        }
        book.refused("item 24 of 24", Ways.BUSY.then(x -> x.sheet(3, 0, 24)), x -> x.item(3, 0, 24, 1), INDEX);
    }

    /** Items 0 .. 6 of one sheet, copied within it, as if all were taken ahead. */
    private void copy() {
        book.says(25, "n items of a SHEET from i on come to another one (or the same) from j on, as if all were"
                + " taken ahead: n.");
        for (int lane = 0; lane < 4; lane++) {
            for (int i = 0; i <= 7; i++) {
                for (int j = 0; j <= 7; j++) {
                    for (int n = 0; n <= 7 - Math.max(i, j); n += n < 2 ? 1 : 2) {
                        copyWithin(lane, i, j, n);
                    }
                }
            }
        }
        CleanNets x = busy();
        book.due("to another one", x.copy(0, 1, 2, 0, 3), 3);
        Trace.beAllOfSeven(x);
        int[] came = {10, 1, -1};
        for (int k = 0; k < 3; k++) {
            book.due("item " + k, Trace.valueOf(x, 2, 0, k), came[k]);
        }
        book.same("the one from which they come stays", Ways.BUSY.then(y -> y.copy(0, 1, 2, 0, 3)), Ways.BUSY, 0, 1, 2, 3, 4, 5, 7);
        CleanNets most = new CleanNets();
        most.sheet(0, 3, 24);
        most.sheet(1, 3, 24);
        book.due("all 24", most.copy(0, 0, 1, 0, 24), 24);
        book.due("all 24 onto themselves", most.copy(0, 0, 0, 0, 24), 24);
    }

    private void copyWithin(int lane, int i, int j, int n) {
        CleanNets x = Check.made("all 7");
        Check.fill(x, 0, lane, 0, 1, 2, 3, 4, 5, 6);
        book.due("n", x.copy(0, i, 0, j, n), n);
        for (int k = 0; k < 7; k++) {
            int due = k >= j && k < j + n ? k - j + i : k;
            book.due("item " + k + " by " + i + " " + j + " " + n, Trace.valueOf(x, 0, lane, k), due);
        }
    }

    private void copyRefused() {
        book.says(25, "BAD;");
        for (int bad : NO_PLACE) {
            book.refused("from " + bad, Ways.BUSY, x -> x.copy(bad, 0, 0, 0, 1), BAD);
            book.refused("to " + bad, Ways.BUSY, x -> x.copy(0, 0, bad, 0, 1), BAD);
        }
        book.says(25, "NULL (either);");
        book.refused("from", Ways.BUSY, x -> x.copy(3, 0, 0, 0, 1), NULL);
        book.refused("to", Ways.BUSY, x -> x.copy(0, 0, 3, 0, 1), NULL);
        book.refused("both", Ways.BUSY, x -> x.copy(3, 0, 3, 0, 0), NULL);
        book.refused("from, no item", Ways.BUSY, x -> x.copy(3, 0, 0, 0, 0), NULL);
        book.refused("to, no item", Ways.BUSY, x -> x.copy(1, 0, 3, 0, 0), NULL);
        book.says(25, "CAST: of unlike LANES;");
        book.refused("bytes to shorts", Ways.BUSY, x -> x.copy(0, 0, 1, 0, 1), CAST);
        book.refused("shorts to bytes", Ways.BUSY, x -> x.copy(1, 0, 2, 0, 1), CAST);
        book.refused("no item", Ways.BUSY, x -> x.copy(0, 0, 1, 0, 0), CAST);
        book.says(25, "INDEX (n below 0, too).");
        int[][] wrong = {{0, 0, -1}, {2, 1, -1}, {0, 0, LEAST}, {5, 3, -1}, {-1, 0, 1}, {0, -1, 1}, {5, 0, 1}, {0, 3, 1}, {3, 0, 3},
            {0, 1, 3}, {0, 0, 4}, {0, 0, 6}, {0, 0, MOST}, {MOST, 0, 1}, {0, MOST, 1}, {MOST, MOST, MOST}, {LEAST, LEAST, LEAST},
            {1, 1, MOST}};
        for (int[] w : wrong) {
            book.refused("from " + w[0] + " to " + w[1] + ", " + w[2], Ways.BUSY, x -> x.copy(0, w[0], 2, w[1], w[2]), INDEX);
        }
        book.due("three to three", busy().copy(0, 2, 2, 0, 3), 3);
        book.due("the last to the last", busy().copy(0, 4, 2, 2, 1), 1);
        for (int[] w : new int[][] {{0, 1, 5}, {1, 0, 5}, {0, 0, 6}, {5, 5, 1}}) {
            book.refused("within one, " + w[2], Ways.BUSY, x -> x.copy(0, w[0], 0, w[1], w[2]), INDEX);
        }
    }
}
