/** Part 3 of the terms but for texts, and promises 10 to 12 and 15 to 19. */
final class DoneBounds {
    private static final int BAD = CleanNets.BAD, NOT = CleanNets.NOT, FULL = CleanNets.FULL, NONE = CleanNets.NONE;
    private static final int LEAST = Integer.MIN_VALUE, MOST = Integer.MAX_VALUE;
    private static final int[] NO_CHOICE = {-1, 2, LEAST, MOST};
    private static final int[] SEEDS = {0, 1, 2, 7, 8, 65535, 65536, 524287, 524288, 1 << 30, MOST - 1, MOST};

    private final Book book;

    DoneBounds(Book book) {
        this.book = book;
    }

    void run() {
        told();
        linkKeepsGuards();
        undoneIsAsIfNot();
        sixAreKnown();
        undoneWhateverSince();
        draw();
        driftedLinks();
        act();
        actBad();
        actNot();
        actFull();
        link();
        linkBad();
        linkNot();
        tell();
        tellBad();
        tellNot();
        driftTurns();
        driftUndone();
        driftBad();
        undo();
        undoNone();
        seed();
        seedBad();
        image();
        restore();
        restoreNone();
    }

    private void told() {
        book.says(Book.TERMS, "Told are a KIND (0 at first), a TEAM (1 .. 7; 2 at first).");
        CleanNets x = new CleanNets();
        book.due("kind at first", x.count(5), 0);
        book.due("team at first", x.count(6), 2);
        for (int kind = 2; kind >= 0; kind--) {
            x.tell(0, kind);
            book.due("kind", x.count(5), kind);
        }
        for (int team = 1; team <= 7; team++) {
            x.tell(1, team);
            book.due("team", x.count(6), team);
        }
        book.due("team 0", x.tell(1, 0), BAD);
        book.due("team 8", x.tell(1, 8), BAD);
        book.due("the last one told", x.count(6), 7);
    }

    private void linkKeepsGuards() {
        book.says(Book.TERMS, "A LINK told or cut: GUARDS stay, FOULING comes.");
        CleanNets x = Check.made("net 6:1-2,2-3,3-4");
        x.tell(1, 7);
        for (int v = 1; v <= 4; v++) {
            x.act(v);
        }
        x.act(11);
        x.act(12);
        x.act(14);
        book.due("three clean, one guarded, two foul", Check.looks(x), 11210);
        book.due("to a guard: none", x.link(3, 5, 1), 0);
        book.due("guards stay", Check.looks(x), 11210);
        book.due("cut: none", x.link(3, 5, 0), 0);
        book.due("beyond the guard: one", x.link(5, 4, 1), 1);
        book.due("guards stay", Check.looks(x), 11200);
        book.due("one by the other", x.link(0, 1, 1), 2);
        book.due("the guard stays", Check.looks(x), 200);
        book.due("cut: foul ones stay foul", x.link(0, 1, 0), 0);
        book.due("as they were", Check.looks(x), 200);
    }

    /** All that may be undone, done where less than six are known. */
    private static Way[] doings() {
        return new Way[] {x -> x.act(10), x -> x.link(1, 2, 1), x -> x.link(0, 6, 0), x -> x.tell(0, 0), x -> x.tell(1, 7),
            x -> x.drift(1), x -> Check.read(x, "7")};
    }

    private void undoneIsAsIfNot() {
        book.says(Book.TERMS, "UNDONE: the latest of an ACT done, a LINK told or cut, a KIND, a TEAM told, of a"
                + " TEXT, a turn of a DRIFT, is as it had not been");
        Way[] doings = doings();
        for (int k = 0; k < doings.length; k++) {
            Way done = Ways.CLONE.then(doings[k]);
            CleanNets x = new CleanNets();
            done.go(x);
            book.due("doing " + k + " is one more that may be undone", x.count(7), 5);
            book.due("doing " + k + ", undone", x.undo(), 4);
            Way undone = done.then(CleanNets::undo);
            book.same("doing " + k + ", undone", undone, Ways.CLONE, Trace.NET, Trace.PAST, Trace.IMAGE, 4, 5, 6, 7);
            for (int next = 0; next < doings.length - 1; next++) {
                Way two = done.then(doings[next]).then(CleanNets::undo);
                CleanNets y = new CleanNets();
                done.then(doings[next]).go(y);
                if (y.count(7) == 6) {
                    book.same(next + " behind " + k + ", undone", two, done, Trace.NET, Trace.PAST);
                }
            }
        }
        CleanNets x = new CleanNets();
        x.seed(9);
        x.image();
        x.type('a');
        x.sheet(0, 0, 1);
        x.item(0, 0, 0, 1);
        x.drop(0);
        x.restore();
        x.would(0);
        x.rest(0);
        book.due("nothing else may be undone", x.undo(), NONE);
    }

    private void sixAreKnown() {
        book.says(Book.TERMS, "(6 are known, older ones lost)");
        for (int done = 0; done <= 20; done++) {
            CleanNets x = new CleanNets();
            for (int k = 1; k <= done; k++) {
                x.tell(0, k % 3);
                x.drift(1);
                x.undo();
            }
            int known = Math.min(done, 6);
            book.due(done + " done, another one undone behind each", x.count(7), Math.min(done, 5));
            CleanNets plain = new CleanNets();
            for (int k = 1; k <= done; k++) {
                plain.tell(0, k % 3);
            }
            book.due(done + " done", plain.count(7), known);
            for (int back = 1; back <= known; back++) {
                book.due("back " + back + " of " + done, plain.undo(), known - back);
                book.due("kind then", plain.count(5), (done - back) % 3);
            }
            book.due("older ones are lost", plain.undo(), NONE);
            book.due("as it was six ago", plain.count(5), (done - known) % 3);
        }
    }

    private void undoneWhateverSince() {
        book.says(Book.TERMS, ": THE NET, its NODES, KIND, TEAM, THE DRAW are as ahead of it, whatever was told"
                + " since.");
        Way[] doings = doings();
        for (int k = 0; k < doings.length; k++) {
            Way since = x -> {
                x.seed(31);
                x.image();
                x.sheet(0, 0, 2);
                x.type('q');
            };
            Way way = Ways.CLONE.then(doings[k]).then(since).then(CleanNets::undo);
            book.same("doing " + k + ", then a seed", way, Ways.CLONE, Trace.NET, Trace.PAST);
        }
        CleanNets x = new CleanNets();
        x.seed(5);
        x.tell(0, 1);
        x.seed(6);
        x.tell(1, 3);
        x.seed(7);
        x.undo();
        book.due("the draw ahead of the team", x.seed(8), 6);
        x.undo();
        book.due("the draw ahead of the kind", x.seed(9), 5);
        book.due("team", x.count(6), 2);
        book.due("kind", x.count(5), 0);
    }

    private static long next(long draw) {
        return (draw * 1103515245L + 12345L) % 2147483648L;
    }

    private void draw() {
        book.says(Book.TERMS, "DRIFT by a seed: THE DRAW is a number of 31 bits (1 at first); for each turn it"
                + " becomes the lowest 31 bits of itself times 1103515245 and 12345 more:");
        book.due("at first", new CleanNets().seed(3), 1);
        for (int seed : SEEDS) {
            CleanNets x = new CleanNets();
            x.seed(seed);
            long draw = seed;
            for (int turn = 0; turn < 20; turn++) {
                x.drift(1);
                draw = next(draw);
                book.due("seed " + seed + ", turn " + turn, x.seed((int) draw), draw);
            }
            CleanNets once = new CleanNets();
            once.seed(seed);
            once.drift(20);
            book.due("seed " + seed + ", twenty turns at once", once.seed(0), draw);
        }
    }

    private void driftedLinks() {
        book.says(Book.TERMS, "x is it by 65536 (cut): NODES x left over by n and x by 8 (cut) left over by n, if"
                + " they are not one, are LINKED, if they were not, else not; FOULING comes then.");
        for (int n = 2; n <= 7; n++) {
            for (int seed : SEEDS) {
                turnIsALink("net " + n, seed);
                turnIsALink("all " + n, seed);
            }
            for (int seed = 0; seed < 60; seed++) {
                turnIsALink("ring " + Math.max(n, 3), seed * 35771);
            }
        }
    }

    /** A turn does to the net as the link told or cut would. */
    private void turnIsALink(String text, int seed) {
        long x = next(seed) / 65536;
        CleanNets drifted = guarded(text);
        CleanNets linked = guarded(text);
        int n = linked.count(0);
        int u = (int) (x % n);
        int v = (int) (x / 8 % n);
        if (u != v) {
            linked.link(u, v, 1 - (linked.node(u, 1) >> v & 1));
        }
        drifted.seed(seed);
        book.due(text + ", links", drifted.drift(1), linked.count(1));
        book.due(text + ", nodes", Check.looks(drifted), Check.looks(linked));
        for (int k = 0; k < n; k++) {
            book.due(text + ", near " + k, drifted.node(k, 1), linked.node(k, 1));
        }
    }

    /** All but the last one cleaned, as far as may be with a guard on the last but one. */
    private static CleanNets guarded(String text) {
        CleanNets x = Check.made(text);
        x.tell(1, 7);
        int n = x.count(0);
        for (int v = 0; v < n - 1; v++) {
            x.act(v);
        }
        for (int v = 0; v < n - 2; v++) {
            x.act(10 + v);
        }
        return x;
    }

    private void act() {
        book.says(10, "An ACT is done: how many NODES have become FOUL by it.");
        CleanNets x = Check.made("path 7");
        x.tell(1, 7);
        for (int v = 0; v < 6; v++) {
            book.due("put " + v, x.act(v), 0);
        }
        for (int v = 0; v < 5; v++) {
            book.due("take " + v, x.act(10 + v), 0);
        }
        book.due("the most: six", x.act(15), 6);
        book.due("all foul", x.count(3), 0);
        CleanNets walk = Check.made("ring 3");
        walk.tell(0, 1);
        book.due("put", walk.act(0), 0);
        book.due("move: one", walk.act(101), 1);
        book.due("it is foul, the other one guarded", Check.looks(walk), 20);
        book.due("put", walk.act(0), 0);
        book.due("move: none", walk.act(102), 0);
        book.due("all clean", Check.looks(walk), 122);
        CleanNets home = Check.made("path 2");
        home.act(0);
        book.due("take: one", home.act(10), 1);
    }

    private void actBad() {
        book.says(10, "BAD: there is no such ACT;");
        int[] none = {-1, 5, 9, 15, 19, 20, 99, 100, 105, 109, 111, 144, 150, 154, 155, 166, 200, 1000, -10, -101, LEAST, MOST};
        for (int number : none) {
            book.refused("act(" + number + ")", Ways.BUSY, x -> x.act(number), BAD);
            book.refused("act(" + number + ")", Ways.WALK, x -> x.act(number), BAD);
        }
        for (int n = 2; n <= 7; n++) {
            boolean[] isAct = NetBounds.numbers(n);
            for (int number = 0; number < 250; number++) {
                CleanNets x = Check.made("all " + n);
                int answer = x.act(number);
                book.due(number + " by " + n, answer == BAD ? 0 : 1, isAct[number] ? 1 : 0);
                book.due("by a refused one none is guarded", x.count(4), answer < 0 ? 0 : 1 << number);
            }
        }
    }

    private void actNot() {
        book.says(10, "NOT: it isn't allowed;");
        for (int number : new int[] {1, 4, 10, 12, 13, 101, 110, 112, 143}) {
            book.refused("free: act(" + number + ")", Ways.BUSY, x -> x.act(number), NOT);
        }
        for (int number : new int[] {1, 2, 3, 4, 10, 11, 12, 14, 101, 104, 113, 114, 121, 141, 142}) {
            book.refused("walking: act(" + number + ")", Ways.WALK, x -> x.act(number), NOT);
        }
        for (int number : new int[] {0, 11, 12, 16, 101, 106, 160}) {
            book.refused("cloning: act(" + number + ")", Ways.CLONE, x -> x.act(number), NOT);
        }
    }

    private void actFull() {
        book.says(10, "FULL: by the TEAM alone.");
        for (int number : new int[] {0, 2, 3}) {
            book.refused("free: act(" + number + ")", Ways.BUSY, x -> x.act(number), FULL);
        }
        book.refused("walking: act(0)", Ways.WALK, x -> x.act(0), FULL);
        for (int number = 1; number <= 6; number++) {
            int put = number;
            book.refused("cloning: act(" + number + ")", Ways.CLONE, x -> x.act(put), FULL);
        }
        CleanNets x = new CleanNets();
        Ways.BUSY.go(x);
        x.tell(1, 3);
        book.due("a team of one more", x.act(0), 0);
        book.due("full again", x.act(2), FULL);
        x.tell(1, 1);
        book.due("a team of two less", x.act(2), FULL);
        x.act(10);
        book.due("of one less", x.act(2), FULL);
        x.act(14);
        book.due("as many as the team", x.act(2), FULL);
        x.act(11);
        book.due("none is there", x.act(2), 0);
    }

    private void link() {
        book.says(11, "Two NODES are LINKED (v 1), not LINKED (0): how many NODES have become FOUL by it.");
        for (int n = 2; n <= 7; n++) {
            CleanNets x = Check.made("net " + n);
            book.due("the last with the first", x.link(n - 1, 0, 1), 0);
            book.due("both ways", x.node(0, 1), 1 << n - 1);
            book.due("both ways", x.node(n - 1, 1), 1);
            book.due("links", x.count(1), 1);
            book.due("cut, told the other way", x.link(0, n - 1, 0), 0);
            book.due("both ways", x.node(0, 1) + x.node(n - 1, 1), 0);
            book.due("no links", x.count(1), 0);
            book.due("two that may be undone", x.count(7), 3);
        }
        CleanNets x = Check.made("net 7:0-1,1-2,2-3,3-4,4-5");
        x.tell(1, 7);
        for (int v = 0; v < 6; v++) {
            x.act(v);
        }
        for (int v = 0; v < 6; v++) {
            x.act(10 + v);
        }
        book.due("six are clean, no guard", x.count(3), 63);
        book.due("the most: six", x.link(6, 3, 1), 6);
    }

    private void linkBad() {
        book.says(11, "BAD: also one told twice;");
        for (int bad : new int[] {-1, 5, 7, LEAST, MOST}) {
            for (int v = 0; v < 2; v++) {
                int told = v;
                book.refused("link(" + bad + ", 0, " + v + ")", Ways.BUSY, x -> x.link(bad, 0, told), BAD);
                book.refused("link(0, " + bad + ", " + v + ")", Ways.BUSY, x -> x.link(0, bad, told), BAD);
                book.refused("link(" + bad + ", " + bad + ", " + v + ")", Ways.WALK, x -> x.link(bad, bad, told), BAD);
            }
        }
        for (int bad : NO_CHOICE) {
            book.refused("link(0, 1, " + bad + ")", Ways.BUSY, x -> x.link(0, 1, bad), BAD);
            book.refused("link(0, 3, " + bad + ")", Ways.BUSY, x -> x.link(0, 3, bad), BAD);
        }
        for (int twice = 0; twice < 5; twice++) {
            int node = twice;
            book.refused(twice + " twice, 1", Ways.BUSY, x -> x.link(node, node, 1), BAD);
            book.refused(twice + " twice, 0", Ways.WALK, x -> x.link(node, node, 0), BAD);
        }
    }

    private void linkNot() {
        book.says(11, "NOT: it is so.");
        int[][] linked = {{0, 1}, {1, 0}, {2, 4}, {4, 2}, {3, 4}};
        int[][] apart = {{0, 2}, {2, 0}, {4, 0}, {1, 3}, {1, 4}};
        for (int k = 0; k < 5; k++) {
            int[] pair = linked[k];
            int[] other = apart[k];
            book.refused("linked: " + pair[0] + " " + pair[1], Ways.BUSY, x -> x.link(pair[0], pair[1], 1), NOT);
            book.refused("not linked: " + other[0] + " " + other[1], Ways.BUSY, x -> x.link(other[0], other[1], 0), NOT);
        }
    }

    private void tell() {
        book.says(12, "KIND (what 0), TEAM (1) becomes v: what it was.");
        CleanNets x = new CleanNets();
        int[][] told = {{0, 2, 0}, {0, 0, 2}, {0, 1, 0}, {1, 1, 2}, {1, 7, 1}, {1, 2, 7}};
        for (int[] t : told) {
            book.due("tell(" + t[0] + ", " + t[1] + ")", x.tell(t[0], t[1]), t[2]);
            book.due("it is so", x.count(5 + t[0]), t[1]);
        }
        book.due("the kind is no matter for the team", x.count(5), 1);
        book.due("all may be undone", x.count(7), 6);
        CleanNets guarded = new CleanNets();
        Ways.WALK.go(guarded);
        int looks = Check.looks(guarded);
        guarded.tell(0, 0);
        guarded.tell(1, 1);
        book.due("nodes stay, guards of a greater team, too", Check.looks(guarded), looks);
    }

    private void tellBad() {
        book.says(12, "BAD;");
        int[][] bad = {{0, -1}, {0, 3}, {0, 7}, {0, LEAST}, {0, MOST}, {1, 0}, {1, 8}, {1, -1}, {1, LEAST}, {1, MOST}, {-1, 1},
            {2, 1}, {LEAST, 1}, {MOST, 1}, {2, 2}, {-1, 0}};
        for (int[] b : bad) {
            book.refused("tell(" + b[0] + ", " + b[1] + ")", Ways.BUSY, x -> x.tell(b[0], b[1]), BAD);
            book.refused("tell(" + b[0] + ", " + b[1] + ")", Ways.CLONE, x -> x.tell(b[0], b[1]), BAD);
        }
    }

    private void tellNot() {
        book.says(12, "NOT: it is so.");
        book.refused("kind at first", Ways.FRESH, x -> x.tell(0, 0), NOT);
        book.refused("team at first", Ways.FRESH, x -> x.tell(1, 2), NOT);
        book.refused("kind", Ways.CLONE, x -> x.tell(0, 2), NOT);
        book.refused("team", Ways.CLONE, x -> x.tell(1, 1), NOT);
        book.refused("kind", Ways.WALK, x -> x.tell(0, 1), NOT);
        book.refused("team", Ways.CLEAN, x -> x.tell(1, 5), NOT);
    }

    private void driftTurns() {
        book.says(15, "A DRIFT of n turns (1 .. 40;");
        for (int n : new int[] {1, 2, 39, 40}) {
            Way atOnce = Ways.WALK.then(x -> x.drift(n));
            Way each = Ways.WALK.then(x -> {
                for (int turn = 0; turn < n; turn++) {
                    x.drift(1);
                }
            });
            book.same(n + " turns at once", atOnce, each, 0, 1, 2, 3, 4, 5, 6, 7);
            long draw = MOST;
            for (int turn = 0; turn < n; turn++) {
                draw = next(draw);
            }
            CleanNets x = new CleanNets();
            atOnce.go(x);
            book.due("the draw behind " + n, x.seed(0), draw);
        }
        book.due("41", new CleanNets().drift(41), BAD);
        book.due("0", new CleanNets().drift(0), BAD);
    }

    private void driftUndone() {
        book.says(15, "each may be UNDONE, one that changes nothing, too): LINKS then.");
        for (int n = 1; n <= 8; n++) {
            CleanNets x = Check.made("ring 7");
            x.undo();
            x.seed(4);
            int links = x.drift(n);
            book.due("links", x.count(1), links);
            book.due(n + " turns", x.count(7), Math.min(n, 6));
            x.undo();
            long draw = 4;
            for (int turn = 1; turn < n; turn++) {
                draw = next(draw);
            }
            book.due("the draw ahead of the last turn", x.seed(0), draw);
        }
        int idle = 0;
        while (next(idle) / 65536 % 2 != next(idle) / 65536 / 8 % 2) {
            idle++;
        }
        int seed = idle;
        CleanNets x = new CleanNets();
        x.seed(seed);
        book.due("a turn that changes nothing", x.drift(1), 0);
        book.due("may be undone", x.count(7), 1);
        book.due("undone", x.undo(), 0);
        book.due("its draw, too", x.seed(0), seed);
        CleanNets most = Check.made("all 7");
        most.drift(40);
        long draw = 1;
        for (int turn = 0; turn < 34; turn++) {
            draw = next(draw);
        }
        for (int left = 5; left >= 0; left--) {
            book.due("undone, of forty", most.undo(), left);
        }
        book.due("the draw behind 34", most.seed(0), draw);
        book.due("older ones are lost", most.undo(), NONE);
    }

    private void driftBad() {
        book.says(15, "BAD.");
        for (int bad : new int[] {0, -1, 41, 42, LEAST, MOST}) {
            book.refused("drift(" + bad + ")", Ways.BUSY, x -> x.drift(bad), BAD);
            book.refused("drift(" + bad + ")", Ways.FRESH, x -> x.drift(bad), BAD);
        }
    }

    private void undo() {
        book.says(16, "UNDONE: how many more may be.");
        CleanNets x = new CleanNets();
        Ways.BUSY.go(x);
        for (int left = 5; left >= 0; left--) {
            book.due("undo", x.undo(), left);
            book.due("count", x.count(7), left);
        }
        book.due("none", x.undo(), NONE);
        book.due("the net at first", x.count(0), 2);
        x.tell(0, 1);
        book.due("one more done, then undone", x.undo(), 0);
    }

    private void undoNone() {
        book.says(16, "NONE: none is known.");
        book.refused("at first", Ways.FRESH, CleanNets::undo, NONE);
        Way through = Ways.BUSY.then(x -> {
            for (int k = 0; k < 6; k++) {
                x.undo();
            }
        });
        book.refused("all undone", through, CleanNets::undo, NONE);
    }

    private void seed() {
        book.says(17, "THE DRAW becomes v: what it was.");
        CleanNets x = new CleanNets();
        int was = 1;
        for (int v : new int[] {0, 1, MOST, MOST - 1, 5, 5, 0}) {
            book.due("seed(" + v + ")", x.seed(v), was);
            was = v;
        }
        book.due("it isn't undone", x.count(7), 0);
        book.same("nothing else is another", Ways.BUSY.then(y -> y.seed(1)).then(y -> y.seed(4242)), Ways.BUSY, 0, 1, 2, 3, 4, 5,
                6, 7);
    }

    private void seedBad() {
        book.says(17, "BAD: below 0.");
        for (int bad : new int[] {-1, -2, LEAST, LEAST + 1}) {
            book.refused("seed(" + bad + ")", Ways.BUSY, x -> x.seed(bad), BAD);
            book.refused("seed(" + bad + ")", Ways.FRESH, x -> x.seed(bad), BAD);
        }
    }

    /** Whatever changes the net, the past, the draw, the tape, the sheets. */
    private static void stir(CleanNets x) {
        x.read();
        Check.read(x, "all 6");
        x.tell(0, x.count(5) == 0 ? 1 : 0);
        x.tell(1, x.count(6) == 6 ? 3 : 6);
        x.act(0);
        x.seed(99);
        x.drift(9);
        stirSheets(x);
    }

    private static void stirSheets(CleanNets x) {
        x.read();
        x.type('n');
        Check.fill(x, 0, 1, 2, 1);
        x.drop(2);
        Check.fill(x, 3, 2, 10, 99, 3);
    }

    private void image() {
        book.says(18, "All but SHEETS, THE TAPE is kept as an IMAGE (what may be UNDONE, too): 1.");
        Way[] ways = {Ways.FRESH, Ways.BUSY, Ways.WALK, Ways.CLONE, Ways.CLEAN};
        for (Way way : ways) {
            CleanNets x = new CleanNets();
            way.go(x);
            book.due("image", x.image(), 1);
            Way kept = way.then(CleanNets::image);
            Way back = kept.then(DoneBounds::stir).then(CleanNets::restore);
            book.same("kept", back, kept, Trace.NET, Trace.PAST, Trace.IMAGE);
            book.same("sheets and the tape are not", back, kept.then(DoneBounds::stirSheets), Trace.TAPE, 4, 5, 6, 7);
            book.same("nothing but the image is another", kept, way, 0, 1, 3, 4, 5, 6, 7);
            Way later = way.then(CleanNets::image).then(DoneBounds::stir).then(CleanNets::image);
            book.same("a later image", later.then(x2 -> x2.tell(1, 5)).then(CleanNets::restore), later, 0, 1, 2);
        }
    }

    private void restore() {
        book.says(19, "All is as it was then: 1.");
        Way kept = Ways.CLEAN.then(CleanNets::image);
        CleanNets x = new CleanNets();
        kept.go(x);
        stir(x);
        book.due("restore", x.restore(), 1);
        book.due("once more", x.restore(), 1);
        Way twice = kept.then(DoneBounds::stir).then(CleanNets::restore).then(CleanNets::undo).then(DoneBounds::stir)
                .then(CleanNets::restore);
        book.same("as often as one likes", twice, kept, Trace.NET, Trace.PAST, Trace.IMAGE);
        book.same("right away", kept.then(CleanNets::restore), kept, 0, 1, 2, 3, 4, 5, 6, 7);
    }

    private void restoreNone() {
        book.says(19, "NONE: there is none.");
        book.refused("at first", Ways.FRESH, CleanNets::restore, NONE);
        book.refused("no image", Ways.CLONE, CleanNets::restore, NONE);
        CleanNets x = new CleanNets();
        x.image();
        book.due("one is there", x.restore(), 1);
    }
}
