/** Part 1 of the terms, and promises 1 to 4. */
final class NetBounds {
    private static final int BAD = CleanNets.BAD, NOT = CleanNets.NOT, FULL = CleanNets.FULL;
    private static final int LEAST = Integer.MIN_VALUE, MOST = Integer.MAX_VALUE;

    private final Book book;

    NetBounds(Book book) {
        this.book = book;
    }

    void run() {
        callsOfOneObject();
        nodesTwoToSeven();
        home();
        whatANodeIs();
        fouling();
        parts();
        actNumbers();
        put();
        take();
        move();
        foulingBehindActs();
        free();
        walking();
        cloning();
        teams();
        newObject();
        node();
        nodeBad();
        count();
        countBad();
        would();
        wouldBad();
        wouldNot();
        wouldFull();
    }

    /** A net of seven nodes, none of them linked, with the greatest team and a kind. */
    private static CleanNets loose(int kind) {
        return loose("net 7", kind);
    }

    private static CleanNets loose(String text, int kind) {
        CleanNets x = Check.made(text);
        x.tell(1, 7);
        x.tell(0, kind);
        return x;
    }

    private static void all(CleanNets x, int... acts) {
        for (int act : acts) {
            if (x.act(act) < 0) {
                throw new IllegalStateException("act " + act + " refused");
            }
        }
    }

    private void callsOfOneObject() {
        book.says(Book.USE, "An object is used for at most 512 calls after it has been made; what later calls"
                + " answer is free.");
        CleanNets told = new CleanNets();
        CleanNets drifted = new CleanNets();
        for (int k = 1; k <= 512; k++) {
            book.due("call " + k, told.tell(0, k % 3), (k + 2) % 3);
            book.holds("drift " + k, drifted.drift(40) >= 0);
        }
    }

    private void nodesTwoToSeven() {
        book.says(Book.TERMS, "THE NET has NODES 0 .. n less 1 (n 2 .. 7; 2 at first), some two of which are LINKED"
                + " (none at first).");
        CleanNets first = new CleanNets();
        book.due("n at first", first.count(0), 2);
        book.due("node 1 at first", first.node(1, 1), 0);
        book.due("node 2 at first", first.node(2, 1), BAD);
        book.due("links at first", first.count(1), 0);
        book.due("one node", Check.read(first, "net 1"), -24);
        book.due("eight nodes", Check.read(first, "net 8"), -24);
        book.due("two still", first.count(0), 2);
        for (int n = 2; n <= 7; n++) {
            CleanNets x = Check.made("all " + n);
            book.due("n", x.count(0), n);
            book.due("links of " + n, x.count(1), n * (n - 1) / 2);
            book.due("node -1 of " + n, x.node(-1, 0), BAD);
            book.due("node 0 of " + n, x.node(0, 1), (1 << n) - 2);
            book.due("the last node of " + n, x.node(n - 1, 1), (1 << n - 1) - 1);
            book.due("one above it", x.node(n, 1), BAD);
        }
    }

    private void home() {
        book.says(Book.TERMS, "HOME is NODE 0.");
        for (int kind = 1; kind <= 2; kind++) {
            CleanNets x = loose("path 7", kind);
            for (int v = 0; v < 7; v++) {
                book.due("kind " + kind + ", put " + v, x.would(v), v == 0 ? 0 : NOT);
            }
        }
    }

    private void whatANodeIs() {
        book.says(Book.TERMS, "A NODE is FOUL (all at first), CLEAN, or GUARDED: CLEAN with a GUARD on it, one at"
                + " most.");
        CleanNets x = new CleanNets();
        book.due("foul at first", x.node(0, 0) + x.node(1, 0), 0);
        book.due("none clean at first", x.count(3), 0);
        book.due("none guarded at first", x.count(4), 0);
        all(x, 1);
        book.due("guarded", x.node(1, 0), 2);
        book.due("clean, too", x.count(3), 2);
        book.due("a second guard on it", x.act(1), NOT);
        all(x, 11);
        book.due("clean", x.node(1, 0), 1);
        book.due("the other one is foul", x.node(0, 0), 0);
        CleanNets two = loose("path 2", 1);
        all(two, 0, 101, 0);
        book.due("no second guard by a move", two.act(110), NOT);
        book.due("no second guard by a move", two.act(101), NOT);
        book.due("two guards, two nodes", two.count(4), 3);
    }

    private void fouling() {
        book.says(Book.TERMS, "FOULING: again and again each CLEAN NODE without a GUARD that is LINKED to a FOUL"
                + " one becomes FOUL, till none does.");
        CleanNets row = loose("path 7", 0);
        all(row, 5, 4, 3, 2, 1, 0, 10, 11, 12, 13, 14);
        book.due("five clean behind one guard", row.count(3), 63);
        book.due("all six, one by the other", row.act(15), 6);
        CleanNets upwards = loose("path 7", 0);
        all(upwards, 1, 2, 3, 4, 5, 6, 16, 15, 14, 13, 12);
        book.due("all six, the other way", upwards.act(11), 6);
        CleanNets stopped = loose("path 7", 0);
        all(stopped, 0, 1, 2, 3, 4, 5, 10, 11, 12, 14);
        book.due("up to a guard", stopped.act(15), 2);
        book.due("the guard and what is behind it", Check.looks(stopped), 1112000);
        CleanNets apart = loose("net 4:0-1,2-3", 0);
        all(apart, 0, 1, 10, 11);
        book.due("clean, no foul one is linked to it", Check.looks(apart), 1100);
        book.due("none by a guard taken far off", apart.act(2) + apart.act(12), 1);
        book.due("the far one alone", Check.looks(apart), 1100);
        CleanNets whole = loose("ring 7", 0);
        all(whole, 0, 1, 2, 3, 4, 5, 6);
        for (int v = 0; v < 7; v++) {
            book.due("no foul one is there: take " + v, whole.act(10 + v), 0);
        }
        book.due("all clean without a guard", whole.count(3), 127);
    }

    private void parts() {
        book.says(Book.TERMS, "PARTS: NODES that hang together by LINKS, numbered by their least NODES.");
        CleanNets x = Check.made("net 7");
        parts(x, 0, 1, 2, 3, 4, 5, 6);
        book.due("seven", x.count(2), 7);
        x.link(6, 0, 1);
        parts(x, 0, 1, 2, 3, 4, 5, 0);
        x.link(5, 1, 1);
        parts(x, 0, 1, 2, 3, 4, 1, 0);
        x.link(4, 5, 1);
        x.link(3, 4, 1);
        parts(x, 0, 1, 2, 1, 1, 1, 0);
        x.link(6, 0, 0);
        parts(x, 0, 1, 2, 1, 1, 1, 3);
        x.link(0, 6, 1);
        x.link(2, 3, 1);
        book.due("two parts", x.count(2), 2);
        x.link(2, 6, 1);
        parts(x, 0, 0, 0, 0, 0, 0, 0);
        book.due("one part", x.count(2), 1);
        Check.read(x, "net 7");
        parts(x, 0, 1, 2, 3, 4, 5, 6);
        Check.read(x, "ring 7");
        parts(x, 0, 0, 0, 0, 0, 0, 0);
        x.undo();
        parts(x, 0, 1, 2, 3, 4, 5, 6);
        x.act(1);
        book.due("guards are none of it", x.count(2), 7);
    }

    private void parts(CleanNets x, int... due) {
        for (int v = 0; v < due.length; v++) {
            book.due("part of " + v, x.node(v, 2), due[v]);
        }
    }

    /** Each number that is an act, made as the document makes them. */
    static boolean[] numbers(int n) {
        boolean[] isAct = new boolean[500];
        for (int u = 0; u < n; u++) {
            isAct[u] = true;
            isAct[10 + u] = true;
            for (int v = 0; v < n; v++) {
                if (v != u) {
                    isAct[100 + 10 * u + v] = true;
                }
            }
        }
        return isAct;
    }

    private void actNumbers() {
        book.says(Book.TERMS, "ACTS are told as numbers: PUT a GUARD on v: v; TAKE it from v: 10 and v; MOVE it"
                + " from u to another one, v: 100, 10 u, and v together.");
        for (int n = 2; n <= 7; n++) {
            boolean[] isAct = numbers(n);
            CleanNets x = loose("net " + n, 0);
            for (int number = 0; number < 400; number++) {
                book.due(number + " by " + n, x.would(number) == BAD ? 0 : 1, isAct[number] ? 1 : 0);
            }
            CleanNets walk = loose("all " + n, 1);
            walk.act(0);
            for (int v = 1; v < n; v++) {
                book.due("move 0 " + v, walk.act(100 + v) >= 0 ? walk.count(4) : -1, 1 << v);
                book.due("move " + v + " 0", walk.act(100 + 10 * v) >= 0 ? walk.count(4) : -1, 1);
            }
            book.due("take 0", walk.act(10) >= 0 ? walk.count(4) : -1, 0);
        }
    }

    private void put() {
        book.says(Book.TERMS, "PUT: v has no GUARD; v is GUARDED then.");
        for (int v = 0; v < 7; v++) {
            CleanNets x = loose(0);
            book.due("on a foul one, " + v, x.act(v), 0);
            book.due("guarded", x.count(4), 1 << v);
            book.due("clean", x.count(3), 1 << v);
            book.due("it has one", x.would(v), NOT);
            x.act(10 + v);
            book.due("on a clean one, " + v, x.act(v), 0);
            book.due("guarded again", x.node(v, 0), 2);
        }
    }

    private void take() {
        book.says(Book.TERMS, "TAKE: v has one; v is CLEAN without it.");
        for (int v = 0; v < 7; v++) {
            CleanNets x = loose(0);
            book.due("a foul one has none, " + v, x.act(10 + v), NOT);
            x.act(v);
            book.due("taken", x.act(10 + v), 0);
            book.due("clean", x.node(v, 0), 1);
            book.due("no guard", x.count(4), 0);
            book.due("a clean one has none, " + v, x.act(10 + v), NOT);
        }
    }

    private void move() {
        book.says(Book.TERMS, "MOVE: u has one, v has none, they are LINKED; as TAKE from u and PUT on v at once.");
        CleanNets x = loose("net 4:0-1,1-2,2-3", 1);
        book.due("u has none", x.would(101), NOT);
        all(x, 0);
        book.due("not linked", x.would(102), NOT);
        book.due("backwards: u has none", x.would(110), NOT);
        book.due("all as told", x.would(101), 0);
        all(x, 101, 0);
        book.due("v has one", x.would(101), NOT);
        book.due("v has one, backwards", x.would(110), NOT);
        book.due("on from 1", x.act(112), 0);
        book.due("guards on 0 and 2, 1 is clean", Check.looks(x), 2120);
        CleanNets two = loose("path 2", 1);
        all(two, 0);
        book.due("at once: 0 is not foul ahead of the put", two.act(101), 0);
        book.due("all clean", Check.looks(two), 12);
        CleanNets three = loose("path 3", 1);
        all(three, 0, 101);
        book.due("back: 1 is foul by 2", three.act(110), 1);
        book.due("0 is guarded", Check.looks(three), 200);
        for (int u = 0; u < 7; u++) {
            for (int v = 0; v < 7; v++) {
                if (v != u) {
                    CleanNets all = loose("all 7", 1);
                    all(all, 0);
                    all(all, u == 0 ? new int[0] : new int[] {100 + u});
                    book.due("its own node is foul by those left", all.act(100 + 10 * u + v), 1);
                    book.due("from " + u + " to " + v, all.count(4), 1 << v);
                }
            }
        }
    }

    private void foulingBehindActs() {
        book.says(Book.TERMS, "Behind each ACT FOULING comes.");
        CleanNets x = loose("path 5", 0);
        all(x, 0, 1, 2);
        book.due("put: none can become foul", x.act(3), 0);
        book.due("take the last one", x.act(13), 1);
        book.due("foul at once", Check.looks(x), 22200);
        CleanNets walk = loose("ring 4", 1);
        all(walk, 0);
        book.due("move: the one left is foul", walk.act(101), 1);
        book.due("foul at once", Check.looks(walk), 200);
    }

    private void free() {
        book.says(Book.TERMS, "KINDS of rules: 0 FREE: PUT, TAKE anywhere, no MOVE.");
        for (int v = 0; v < 7; v++) {
            CleanNets x = loose("all 7", 0);
            book.due("put " + v, x.act(v), 0);
            for (int to = 0; to < 7; to++) {
                book.due("move " + v + " " + to, x.would(100 + 10 * v + to), to == v ? BAD : NOT);
            }
            book.due("take " + v, x.act(10 + v), 1);
        }
        CleanNets far = loose("path 7", 0);
        all(far, 0);
        book.due("far from all guards", far.act(6), 0);
    }

    private void walking() {
        book.says(Book.TERMS, "1 WALKING: PUT, TAKE at HOME alone; MOVE.");
        CleanNets x = loose("all 7", 1);
        for (int v = 1; v < 7; v++) {
            book.due("put " + v, x.act(v), NOT);
        }
        book.due("put at home", x.act(0), 0);
        for (int v = 1; v < 7; v++) {
            book.due("put " + v + ", home is guarded", x.act(v), NOT);
            book.due("move to " + v, x.act(100 + v), 1);
            book.due("take from " + v, x.act(10 + v), NOT);
            book.due("take at home, none there", x.act(10), NOT);
            book.due("move back", x.act(100 + 10 * v), 1);
        }
        book.due("take at home", x.act(10), 1);
    }

    private void cloning() {
        book.says(Book.TERMS, "2 CLONING: PUT at HOME, or on a NODE that is LINKED to a GUARDED one; TAKE anywhere;"
                + " no MOVE.");
        CleanNets x = loose("path 7", 2);
        for (int v = 1; v < 7; v++) {
            book.due("put " + v + ", no guard is there", x.would(v), NOT);
        }
        all(x, 0);
        for (int v = 1; v < 7; v++) {
            book.due("put " + v + " beside " + (v - 1), x.would(v), 0);
            if (v < 6) {
                book.due("two away", x.would(v + 1), NOT);
            }
            book.due("no move", x.would(100 + 10 * (v - 1) + v), NOT);
            all(x, v, 10 + v - 1);
        }
        book.due("home, though no guard is near", x.would(0), 0);
        book.due("beside the last one", x.would(5), 0);
        for (int v = 1; v < 5; v++) {
            book.due("beside clean ones alone: " + v, x.would(v), NOT);
        }
        book.due("take far from home", x.act(16), 0);
        book.due("home, no guard at all", x.would(0), 0);
        CleanNets lone = loose("net 7", 2);
        all(lone, 0);
        for (int v = 1; v < 7; v++) {
            book.due("not linked: " + v, lone.would(v), NOT);
        }
        CleanNets foul = loose("path 3", 2);
        all(foul, 0);
        book.due("linked to a foul one", foul.would(2), NOT);
    }

    private void teams() {
        book.says(Book.TERMS, "By a TEAM of t no PUT, if t GUARDS are there.");
        for (int kind = 0; kind <= 2; kind += 2) {
            for (int t = 1; t <= 7; t++) {
                CleanNets x = loose("all 7", kind);
                x.tell(1, t);
                for (int v = 0; v < t; v++) {
                    book.due("put with " + v + " of " + t, x.act(v), 0);
                }
                for (int v = t; v < 7; v++) {
                    book.due("put with all " + t, x.act(v), FULL);
                }
                book.due("take with all " + t, x.act(10) >= 0 ? 1 : 0, 1);
                book.due("one less: put", x.act(0) >= 0 ? 1 : 0, 1);
            }
        }
        CleanNets more = loose(0);
        all(more, 1, 2, 3);
        for (int t = 1; t <= 4; t++) {
            more.tell(1, t);
            book.due("three guards by a team of " + t, more.would(0), t <= 3 ? FULL : 0);
        }
        CleanNets walk = loose("path 4", 1);
        all(walk, 0, 101);
        walk.tell(1, 1);
        book.due("walking, put", walk.would(0), FULL);
        book.due("walking, a move is no put", walk.would(112), 0);
    }

    private void newObject() {
        book.says(1, "As told.");
        int[] due = {2, 0, 2, 0, 0, 0, 2, 0};
        for (int what = 0; what < due.length; what++) {
            book.due("count " + what, new CleanNets().count(what), due[what]);
        }
        book.due("the draw", new CleanNets().seed(5), 1);
        book.due("nothing to undo", new CleanNets().undo(), CleanNets.NONE);
        book.due("no image", new CleanNets().restore(), CleanNets.NONE);
        book.due("an empty tape", new CleanNets().type(' '), 1);
        book.due("an empty text", new CleanNets().read(), -20);
        for (int sheet = 0; sheet < 4; sheet++) {
            book.due("sheet " + sheet, new CleanNets().drop(sheet), CleanNets.NULL);
        }
        CleanNets used = new CleanNets();
        Ways.BUSY.go(used);
        book.same("a new object, whatever others did", x -> { }, Ways.FRESH, 0, 1, 2, 3, 4, 5, 6, 7);
    }

    private void node() {
        book.says(2, "Of a NODE: 0 what it is (0 FOUL, 1 CLEAN, 2 GUARDED), 1 NODES to which it's LINKED (a set), 2"
                + " its PART.");
        CleanNets x = loose("net 7:0-6,0-1,2-3", 0);
        all(x, 0, 1, 11, 4);
        int[][] due = {{2, 66, 0}, {1, 1, 0}, {0, 8, 1}, {0, 4, 1}, {2, 0, 2}, {0, 0, 3}, {0, 1, 0}};
        for (int v = 0; v < 7; v++) {
            for (int what = 0; what < 3; what++) {
                book.due("node(" + v + ", " + what + ")", x.node(v, what), due[v][what]);
                int node = v;
                int asked = what;
                book.unchanged("node", Ways.CLONE, y -> y.node(node, asked));
            }
        }
    }

    private void nodeBad() {
        book.says(2, "BAD.");
        for (int v : new int[] {-1, 5, 6, 7, LEAST, MOST}) {
            for (int what = 0; what < 3; what++) {
                int asked = what;
                book.refused("node(" + v + ", " + what + ") of 5", Ways.BUSY, x -> x.node(v, asked), BAD);
            }
        }
        for (int what : new int[] {-1, 3, LEAST, MOST}) {
            book.refused("node(0, " + what + ")", Ways.BUSY, x -> x.node(0, what), BAD);
            book.refused("node(4, " + what + ")", Ways.WALK, x -> x.node(4, what), BAD);
            book.refused("node(9, " + what + ")", Ways.FRESH, x -> x.node(9, what), BAD);
        }
    }

    private void count() {
        book.says(3, "0 n, 1 LINKS, 2 PARTS, 3 CLEAN NODES, GUARDED ones, too (a set), 4 GUARDED ones (a set), 5"
                + " KIND, 6 TEAM, 7 what may be UNDONE.");
        CleanNets x = loose("net 7:0-6,0-1,2-3", 2);
        x.tell(0, 0);
        all(x, 0, 1, 11, 4);
        int[] due = {7, 3, 4, 19, 17, 0, 7, 6};
        CleanNets least = new CleanNets();
        int[] dueOfLeast = {2, 1, 1, 0, 0, 2, 1, 3};
        least.tell(0, 2);
        least.tell(1, 1);
        least.link(1, 0, 1);
        for (int what = 0; what < 8; what++) {
            book.due("count(" + what + ")", x.count(what), due[what]);
            book.due("count(" + what + ")", least.count(what), dueOfLeast[what]);
            int asked = what;
            book.unchanged("count", Ways.BUSY, y -> y.count(asked));
        }
        CleanNets most = loose("all 7", 1);
        most.tell(0, 0);
        all(most, 0, 1, 2, 3, 4, 5, 6);
        most.tell(0, 1);
        int[] dueOfMost = {7, 21, 1, 127, 127, 1, 7, 6};
        for (int what = 0; what < 8; what++) {
            book.due("the most of " + what, most.count(what), dueOfMost[what]);
        }
    }

    private void countBad() {
        book.says(3, "BAD.");
        for (int what : new int[] {-1, 8, LEAST, MOST}) {
            book.refused("count(" + what + ")", Ways.BUSY, x -> x.count(what), BAD);
            book.refused("count(" + what + ")", Ways.FRESH, x -> x.count(what), BAD);
        }
    }

    private void would() {
        book.says(4, "Of an ACT, were it done now, by KIND and TEAM: how many CLEAN NODES would become FOUL.");
        Way[] ways = {Ways.FRESH, Ways.BUSY, Ways.WALK, Ways.CLONE, Ways.CLEAN};
        for (Way way : ways) {
            for (int number = 0; number < 170; number++) {
                CleanNets x = new CleanNets();
                way.go(x);
                int told = x.would(number);
                int clean = x.count(3);
                book.due("act " + number + " does as would says", x.act(number), told);
                if (told >= 0) {
                    book.due("by the net behind it", Integer.bitCount(clean & ~x.count(3)), told);
                }
            }
            book.unchanged("would(0)", way, x -> x.would(0));
            book.unchanged("would(11)", way, x -> x.would(11));
        }
        CleanNets none = loose("path 3", 0);
        all(none, 0, 1, 2);
        book.due("none is foul", none.would(12), 0);
        CleanNets six = loose("path 7", 0);
        all(six, 0, 1, 2, 3, 4, 5, 10, 11, 12, 13, 14);
        book.due("the most", six.would(15), 6);
        six.act(6);
        book.due("none by then", six.would(15), 0);
    }

    private static int[] noActsOfFive() {
        return new int[] {-1, 5, 6, 9, 15, 16, 19, 20, 99, 100, 105, 109, 111, 122, 144, 145, 150, 154, 155, 166, 200, 1000,
            -100, -101, LEAST, LEAST + 1, MOST};
    }

    private void wouldBad() {
        book.says(4, "BAD: there is no such ACT by THE NET's NODES;");
        for (int number : noActsOfFive()) {
            book.refused("would(" + number + ")", Ways.BUSY, x -> x.would(number), BAD);
            book.refused("would(" + number + ")", Ways.WALK, x -> x.would(number), BAD);
        }
        for (int n = 2; n <= 7; n++) {
            CleanNets x = Check.made("net " + n);
            int[] around = {n - 1, 10 + n - 1, 100 + n - 1, 100 + 10 * (n - 1)};
            int[] beyond = {n, 10 + n, 100 + n, 100 + 10 * n};
            for (int k = 0; k < 4; k++) {
                book.holds(around[k] + " is an act by " + n, x.would(around[k]) != BAD);
                book.due(beyond[k] + " by " + n, x.would(beyond[k]), BAD);
            }
        }
    }

    /** By BUSY guards stand on 1 and 4, by WALK on 1 and 4, by CLONE at home, each with a full team. */
    private void wouldNot() {
        book.says(4, "NOT: it isn't allowed;");
        for (int number : new int[] {1, 4, 10, 12, 13, 101, 110, 112, 143}) {
            book.refused("free: would(" + number + ")", Ways.BUSY, x -> x.would(number), NOT);
        }
        for (int number : new int[] {1, 2, 3, 4, 10, 11, 12, 14, 101, 104, 113, 114, 121, 141, 142}) {
            book.refused("walking: would(" + number + ")", Ways.WALK, x -> x.would(number), NOT);
        }
        for (int number : new int[] {0, 11, 12, 16, 101, 106, 160}) {
            book.refused("cloning: would(" + number + ")", Ways.CLONE, x -> x.would(number), NOT);
        }
    }

    private void wouldFull() {
        book.says(4, "FULL: by the TEAM alone.");
        for (int number : new int[] {0, 2, 3}) {
            book.refused("free: would(" + number + ")", Ways.BUSY, x -> x.would(number), FULL);
        }
        book.refused("walking: would(0)", Ways.WALK, x -> x.would(0), FULL);
        for (int number = 1; number <= 6; number++) {
            int put = number;
            book.refused("cloning: would(" + number + ")", Ways.CLONE, x -> x.would(put), FULL);
        }
        CleanNets x = new CleanNets();
        Ways.BUSY.go(x);
        x.tell(1, 3);
        book.due("a team of one more", x.would(0), 0);
        x.tell(1, 1);
        book.due("a team of one less", x.would(0), FULL);
    }
}
