/** Part 2 of the terms, and promises 5 to 9. */
final class PlanBounds {
    private static final int BAD = CleanNets.BAD, NONE = CleanNets.NONE;
    private static final int LEAST = Integer.MIN_VALUE, MOST = Integer.MAX_VALUE;
    private static final int[] NO_KIND = {-1, 3, LEAST, MOST};
    private static final int[] NO_CHOICE = {-1, 2, LEAST, MOST};
    private static final String[] TEXTS = {"net 2", "path 2", "net 3", "path 5", "ring 3", "ring 6", "star 5", "all 4",
        "grid 2*3", "net 5:0-1,0-2,2-3,1-4", "net 6:1-2,3-4", "net 7", "path 7"};

    private final Book book;

    PlanBounds(Book book) {
        this.book = book;
    }

    void run() {
        plansFromAllFoul();
        steady();
        leastTeams();
        leastPlans();
        plansOfNetsInTurn();
        plansAskedInTurn();
        restOfTerms();
        lostOfTerms();
        team();
        teamNone();
        teamBad();
        fewest();
        fewestNone();
        fewestBad();
        plan();
        planNone();
        planBad();
        rest();
        restAllClean();
        restNone();
        restBad();
        lost();
        lostBad();
    }

    private void plansFromAllFoul() {
        book.says(Book.TERMS, "A PLAN by a KIND and a TEAM: ACTS that are allowed, one behind the other, from all"
                + " FOUL without GUARDS on, till all NODES are CLEAN.");
        for (String text : TEXTS) {
            for (int which = 0; which < 6; which++) {
                CleanNets x = Check.made(text);
                int team = x.team(which / 2, which % 2);
                if (team != NONE) {
                    doPlan(x, which / 2, which % 2, team);
                }
            }
        }
        CleanNets there = new CleanNets();
        Ways.CLEAN.go(there);
        CleanNets alike = Check.made("net 5:0-1,1-2,2-3,3-4,2-4");
        for (int which = 0; which < 6; which++) {
            book.due("team, wherever the net stands", there.team(which / 2, which % 2), alike.team(which / 2, which % 2));
            book.due("fewest", there.fewest(which / 2, 4, which % 2), alike.fewest(which / 2, 4, which % 2));
            for (int k = 0; k < 9; k++) {
                book.due("plan", there.plan(which / 2, which % 2, k), alike.plan(which / 2, which % 2, k));
            }
        }
    }

    private void doPlan(CleanNets x, int kind, int steady, int team) {
        int acts = x.fewest(kind, team, steady);
        int all = (1 << x.count(0)) - 1;
        x.tell(0, kind);
        x.tell(1, team);
        for (int k = 0; k < acts; k++) {
            book.holds("not all clean ahead of act " + k, x.count(3) != all);
            int fouled = x.act(x.plan(kind, steady, k));
            book.holds("act " + k + " is allowed", fouled >= 0);
            book.holds("act " + k + " of a steady one makes none foul", steady == 0 || fouled == 0);
        }
        book.due("all clean behind the last act", x.count(3), all);
        book.due("no act behind it", x.plan(kind, steady, acts), NONE);
    }

    private void steady() {
        book.says(Book.TERMS, "It's STEADY, if by no ACT a NODE that was CLEAN becomes FOUL.");
        CleanNets x = Check.made("net 5:0-1,0-2,2-3,1-4");
        book.due("two can by turning back", x.team(2, 0), 2);
        book.due("three are needed without", x.team(2, 1), 3);
        book.due("two, steady", x.fewest(2, 2, 1), NONE);
        book.holds("two, any", x.fewest(2, 2, 0) > x.fewest(2, 3, 1));
        CleanNets two = Check.made("path 2");
        book.due("the node that a move leaves stays clean", two.fewest(1, 1, 1), 2);
        CleanNets star = Check.made("star 3");
        book.due("home is foul on the way", star.team(1, 0), 1);
        book.due("it can't be left otherwise", star.team(1, 1), NONE);
        CleanNets one = Check.made("path 3");
        book.due("a take ahead of nothing foul near", one.fewest(0, 2, 1), 4);
    }

    private void leastTeams() {
        book.says(Book.TERMS, "LEAST TEAM of a KIND (for any PLAN, for a STEADY one): the least t of 1 .. n by"
                + " which there is one; none, if there is none by n.");
        for (int n = 2; n <= 7; n++) {
            for (int steady = 0; steady < 2; steady++) {
                CleanNets all = Check.made("all " + n);
                book.due("the greatest, n " + n, all.team(0, steady), n);
                book.due("by n", all.fewest(0, n, steady), n);
                book.due("none by one less", n == 2 ? all.fewest(0, 1, steady) : all.fewest(0, n - 1, steady), NONE);
                book.due("the greatest by cloning", all.team(2, steady), n);
                CleanNets path = Check.made("path " + n);
                book.due("the least, a walk", path.team(1, steady), 1);
                book.due("the least, none linked", Check.made("net " + n).team(0, steady), 1);
                book.due("none by n, walking", Check.made("net " + n).team(1, steady), NONE);
                book.due("none by n, cloning", Check.made("net " + n).team(2, steady), NONE);
            }
        }
        for (String text : TEXTS) {
            for (int which = 0; which < 6; which++) {
                teamByFewest(text, which / 2, which % 2);
            }
        }
    }

    private void teamByFewest(String text, int kind, int steady) {
        CleanNets x = Check.made(text);
        int n = x.count(0);
        int least = NONE;
        for (int t = n; t >= 1; t--) {
            least = x.fewest(kind, t, steady) == NONE ? least : t;
        }
        book.due(text + ", kind " + kind, x.team(kind, steady), least);
        book.due("by more than n as by n", x.fewest(kind, 7, steady), x.fewest(kind, n, steady));
    }

    private void leastPlans() {
        book.says(Book.TERMS, "THE PLAN by a KIND and a TEAM: of those with the fewest ACTS that with the least"
                + " first ACT, of like ones the least second one, and so on.");
        planIs("net 3", 0, 0, 0, 10, 1, 11, 2);
        planIs("path 3", 0, 0, 0, 1, 10, 2);
        planIs("path 3", 2, 1, 0, 1, 10, 2);
        planIs("path 3", 1, 1, 0, 101, 112);
        planIs("star 4", 0, 1, 0, 1, 11, 2, 12, 3);
        planIs("star 3", 1, 0, 0, 101, 110, 102);
        planIs("all 4", 0, 0, 0, 1, 2, 3);
        planIs("all 4", 1, 0, 0, 101, 0, 102, 0, 103);
        planIs("ring 4", 0, 0, 0, 1, 2, 11, 3);
        planIs("net 4:0-1,2-3", 0, 0, 0, 1, 10, 2, 11, 3);
        planIs("net 3:0-2,2-1", 1, 0, 0, 102, 121);
        planIs("net 4:1-2,2-3,3-0", 0, 0, 0, 3, 10, 2, 13, 1);
    }

    private void planIs(String text, int kind, int steady, int... acts) {
        CleanNets x = Check.made(text);
        for (int k = 0; k < acts.length; k++) {
            book.due(text + " by " + kind + ", act " + k, x.plan(kind, steady, k), acts[k]);
        }
        book.due(text + ", its end", x.plan(kind, steady, acts.length), NONE);
        book.due(text + ", how many", x.fewest(kind, x.team(kind, steady), steady), acts.length);
    }

    /** One object that is told one net behind the other answers as one that was told its last net alone. */
    private void plansOfNetsInTurn() {
        for (int asked = 0; asked < 4; asked++) {
            CleanNets x = new CleanNets();
            for (String text : TEXTS) {
                Check.read(x, text);
                CleanNets alone = Check.made(text);
                for (int which = 5; which >= 0; which--) {
                    String what = text + ", asked " + asked + " of " + which;
                    book.due(what, asked(x, asked, which), asked(alone, asked, which));
                }
            }
        }
    }

    private static int asked(CleanNets x, int asked, int which) {
        switch (asked) {
            case 0: return x.team(which / 2, which % 2);
            case 1: return x.fewest(which / 2, 2, which % 2);
            case 2: return x.plan(which / 2, which % 2, 3);
            default: return x.rest(which % 2);
        }
    }

    /** Whatever else was asked for between two acts of a plan. */
    private void plansAskedInTurn() {
        for (String text : TEXTS) {
            int[][] alone = new int[6][6];
            for (int which = 0; which < 6; which++) {
                CleanNets x = Check.made(text);
                for (int k = 0; k < 6; k++) {
                    alone[which][k] = x.plan(which / 2, which % 2, k);
                }
            }
            CleanNets x = Check.made(text);
            x.act(0);
            for (int turn = 0; turn < 180; turn++) {
                int which = turn % 7 % 6;
                int k = turn / 6 % 6;
                book.due(text + ", act " + k + " of " + which, x.plan(which / 2, which % 2, k), alone[which][k]);
                if (turn > 60 && turn % 5 == 0) {
                    x.rest(1);
                }
                if (turn > 60 && turn % 11 == 0) {
                    x.fewest(turn % 3, 7, turn % 2);
                }
            }
        }
    }

    private void restOfTerms() {
        book.says(Book.TERMS, "REST, from where the NET stands, by the KIND and the TEAM that are told: the fewest"
                + " ACTS till all are CLEAN; which ACT is the least first one of so few; none: it can't be.");
        CleanNets x = new CleanNets();
        Ways.BUSY.go(x);
        restIs(x, "a team of two can't", NONE, NONE);
        x.tell(1, 3);
        restIs(x, "three: put 2, take 1, put 3", 3, 2);
        x.tell(1, 4);
        restIs(x, "four: put 2, put 3", 2, 2);
        x.act(2);
        restIs(x, "put 3", 1, 3);
        x.tell(1, 3);
        restIs(x, "three again: take the least that may go", 2, 11);
        x.tell(0, 1);
        restIs(x, "walking: move 2 to 3", 1, 123);
        x.tell(0, 2);
        restIs(x, "cloning: take 1, put 3", 2, 11);
        CleanNets far = Check.made("net 3:0-1");
        far.tell(0, 1);
        restIs(far, "walking never comes to 2", NONE, NONE);
        far.tell(0, 0);
        restIs(far, "free does", 4, 0);
        far.act(2);
        restIs(far, "by then", 3, 0);
        far.act(12);
        restIs(far, "2 is clean", 2, 0);
        CleanNets steady = Check.made("net 5:0-1,0-2,2-3,1-4");
        steady.tell(0, 2);
        book.due("turning back is no matter", steady.rest(0), steady.fewest(2, 2, 0));
        book.due("its first act, too", steady.rest(1), steady.plan(2, 0, 0));
    }

    private void restIs(CleanNets x, String what, int acts, int first) {
        book.due(what + ", the first one, asked for ahead of how many", x.rest(1), first);
        book.due(what + ", acts", x.rest(0), acts);
        book.due(what + ", the first one", x.rest(1), first);
    }

    private void lostOfTerms() {
        book.says(Book.TERMS, "LOST by c of 10 (0 .. 10): each GUARD fails by c of 10, apart; FOULING comes then:"
                + " how likely all NODES that are CLEAN (GUARDED ones, too) are CLEAN then: a fraction in lowest"
                + " terms.");
        for (int border = 0; border <= 6; border++) {
            CleanNets x = Check.made("net 7:0-6,1-6,2-6,3-6,4-6,5-6");
            x.tell(1, 7);
            for (int v = 0; v < border; v++) {
                x.act(v);
            }
            for (int c = 0; c <= 10; c++) {
                oddsAre(x, border + " guards beside a foul one", power(10 - c, border), power(10, border), c);
            }
        }
        CleanNets row = Check.made("path 5");
        row.tell(1, 7);
        row.act(0);
        row.act(1);
        row.act(2);
        for (int c = 0; c <= 10; c++) {
            oddsAre(row, "guards behind a guard are no matter", 10 - c, 10, c);
        }
        row.act(10);
        row.act(11);
        oddsAre(row, "clean ones fall by way of the guard", 3, 10, 7);
        row.act(4);
        oddsAre(row, "both sides of 3", 9, 100, 7);
        row.act(3);
        for (int c = 0; c <= 10; c++) {
            oddsAre(row, "no foul one is there", 1, 1, c);
        }
        row.undo();
        oddsAre(row, "both sides of 3 again, undone", 9, 100, 7);
        CleanNets cut = Check.made("path 2");
        cut.act(0);
        cut.link(0, 1, 0);
        oddsAre(cut, "cut", 1, 1, 3);
        cut.undo();
        oddsAre(cut, "linked again, undone", 7, 10, 3);
        CleanNets none = Check.made("net 2");
        none.act(0);
        oddsAre(none, "no foul one is near", 1, 1, 10);
        none.act(10);
        oddsAre(none, "no guard", 1, 1, 10);
    }

    private static long power(long base, int times) {
        return times == 0 ? 1 : base * power(base, times - 1);
    }

    private void oddsAre(CleanNets x, String what, long above, long below, int c) {
        long divisor = above == 0 ? below : 1;
        for (long d = 2; above != 0 && d <= above; d++) {
            divisor = above % d == 0 && below % d == 0 ? d : divisor;
        }
        book.due(what + ", above, c " + c, x.lost(c, 0), above / divisor);
        book.due(what + ", below, c " + c, x.lost(c, 1), below / divisor);
    }

    private void team() {
        book.says(5, "LEAST TEAM of a KIND for any PLAN (steady 0), for a STEADY one (1);");
        CleanNets x = Check.made("net 5:0-1,0-2,2-3,1-4");
        int[][] due = {{2, 2}, {1, NONE}, {2, 3}};
        for (int kind = 0; kind < 3; kind++) {
            for (int steady = 0; steady < 2; steady++) {
                book.due("team(" + kind + ", " + steady + ")", x.team(kind, steady), due[kind][steady]);
                int k = kind;
                int s = steady;
                book.unchanged("team", Ways.BUSY, y -> y.team(k, s));
                book.unchanged("team", Ways.WALK, y -> y.team(k, s));
            }
        }
        x.tell(1, 7);
        x.tell(0, 2);
        book.due("the team and the kind told are no matter", x.team(0, 1), 2);
    }

    private void teamNone() {
        book.says(5, "NONE.");
        book.refused("a star, walking, steady", Ways.CLONE, x -> x.team(1, 1), NONE);
        for (int steady = 0; steady < 2; steady++) {
            int s = steady;
            book.refused("no links, walking", Ways.FRESH, x -> x.team(1, s), NONE);
            book.refused("no links, cloning", Ways.FRESH, x -> x.team(2, s), NONE);
        }
    }

    private void teamBad() {
        book.says(5, "BAD.");
        for (int bad : NO_KIND) {
            book.refused("kind " + bad, Ways.BUSY, x -> x.team(bad, 0), BAD);
            book.refused("kind " + bad, Ways.FRESH, x -> x.team(bad, 1), BAD);
        }
        for (int bad : NO_CHOICE) {
            for (int kind = 0; kind < 3; kind++) {
                int k = kind;
                book.refused("steady " + bad, Ways.FRESH, x -> x.team(k, bad), BAD);
            }
            book.refused("both", Ways.WALK, x -> x.team(3, bad), BAD);
        }
    }

    private void fewest() {
        book.says(6, "How many ACTS THE PLAN has by a KIND and a TEAM t (1 .. 7), any one (steady 0), the STEADY"
                + " one (1);");
        int[] due = {7, 6, 5, 4, 4, 4, 4};
        for (int steady = 0; steady < 2; steady++) {
            for (int t = 1; t <= 7; t++) {
                CleanNets x = Check.made("net 4");
                book.due("net 4 by " + t, x.fewest(0, t, steady), due[t - 1]);
                int team = t;
                int s = steady;
                book.unchanged("fewest", Ways.CLONE, y -> y.fewest(1, team, s));
            }
        }
        CleanNets x = Check.made("net 5:0-1,0-2,2-3,1-4");
        book.due("steady by three", x.fewest(2, 3, 1), 7);
        book.due("any by three", x.fewest(2, 3, 0), 7);
        book.due("any by two", x.fewest(2, 2, 0), 10);
        book.due("seven of seven", Check.made("all 7").fewest(0, 7, 1), 7);
        book.due("one walks to the end", Check.made("path 7").fewest(1, 1, 1), 7);
    }

    private void fewestNone() {
        book.says(6, "NONE.");
        book.refused("a triangle by two", Ways.BUSY, x -> x.fewest(0, 2, 0), NONE);
        book.refused("a triangle by one", Ways.BUSY, x -> x.fewest(0, 1, 1), NONE);
        CleanNets triangle = new CleanNets();
        Ways.BUSY.go(triangle);
        book.holds("by one more there is one", triangle.fewest(0, 3, 0) > 0);
        for (int t = 1; t <= 7; t++) {
            int team = t;
            book.refused("no links, walking by " + t, Ways.FRESH, x -> x.fewest(1, team, 0), NONE);
            book.refused("a star, walking, steady by " + t, Ways.CLONE, x -> x.fewest(1, team, 1), NONE);
        }
    }

    private void fewestBad() {
        book.says(6, "BAD.");
        for (int bad : new int[] {0, 8, -1, LEAST, MOST}) {
            book.refused("t " + bad, Ways.BUSY, x -> x.fewest(0, bad, 0), BAD);
            book.refused("t " + bad, Ways.FRESH, x -> x.fewest(1, bad, 1), BAD);
        }
        for (int bad : NO_KIND) {
            book.refused("kind " + bad, Ways.WALK, x -> x.fewest(bad, 1, 0), BAD);
        }
        for (int bad : NO_CHOICE) {
            book.refused("steady " + bad, Ways.WALK, x -> x.fewest(0, 7, bad), BAD);
            book.refused("steady " + bad, Ways.FRESH, x -> x.fewest(2, 7, bad), BAD);
        }
    }

    private void plan() {
        book.says(7, "ACT k (0 on) of THE PLAN by a KIND, its LEAST TEAM, any one, the STEADY one;");
        CleanNets x = Check.made("net 5:0-1,0-2,2-3,1-4");
        book.due("k 0, any", x.plan(2, 0, 0), 0);
        book.due("the last of 10, any, by two", x.plan(2, 0, 9) >= 0 ? 1 : 0, 1);
        book.due("one behind it", x.plan(2, 0, 10), NONE);
        book.due("the last of 7, steady, by three", x.plan(2, 1, 6) >= 0 ? 1 : 0, 1);
        book.due("one behind it", x.plan(2, 1, 7), NONE);
        x.tell(1, 5);
        book.due("the team told is no matter", x.plan(2, 1, 7), NONE);
        for (int k = 0; k < 8; k++) {
            int at = k;
            book.unchanged("plan", Ways.BUSY, y -> y.plan(2, 1, at));
            book.unchanged("plan", Ways.WALK, y -> y.plan(1, 0, at));
        }
    }

    private void planNone() {
        book.says(7, "NONE.");
        for (int k : new int[] {0, 1, MOST}) {
            book.refused("no links, walking, " + k, Ways.FRESH, x -> x.plan(1, 0, k), NONE);
            book.refused("a star, walking, steady, " + k, Ways.CLONE, x -> x.plan(1, 1, k), NONE);
        }
        for (int k : new int[] {3, 4, 1000, MOST}) {
            book.refused("two nodes by one: three acts, " + k, Ways.FRESH, x -> x.plan(0, 0, k), NONE);
        }
        CleanNets x = new CleanNets();
        book.due("its last one", x.plan(0, 0, 2), 1);
        noneBehindOthers("net 3", 1, 0);
        noneBehindOthers("net 3", 2, 1);
        noneBehindOthers("star 4", 1, 1);
    }

    /** There is none, whichever plan was looked for last. */
    private void noneBehindOthers(String text, int kind, int steady) {
        CleanNets x = Check.made(text);
        book.due(text + ", no team", x.team(kind, steady), NONE);
        for (int t = 1; t <= 7; t++) {
            for (int which = 0; which < 6; which++) {
                x.fewest(which / 2, t, which % 2);
                book.due(text + ", behind " + which + " by " + t, x.plan(kind, steady, 0), NONE);
            }
        }
    }

    private void planBad() {
        book.says(7, "BAD: also k below 0.");
        for (int bad : new int[] {-1, -2, LEAST}) {
            book.refused("k " + bad, Ways.BUSY, x -> x.plan(0, 0, bad), BAD);
            book.refused("k " + bad + " though there is none", Ways.FRESH, x -> x.plan(1, 0, bad), BAD);
        }
        for (int bad : NO_KIND) {
            book.refused("kind " + bad, Ways.BUSY, x -> x.plan(bad, 0, 0), BAD);
            book.refused("kind " + bad, Ways.FRESH, x -> x.plan(bad, 1, MOST), BAD);
        }
        for (int bad : NO_CHOICE) {
            book.refused("steady " + bad, Ways.BUSY, x -> x.plan(0, bad, 0), BAD);
            book.refused("steady " + bad, Ways.FRESH, x -> x.plan(1, bad, 0), BAD);
        }
    }

    private void rest() {
        book.says(8, "REST: 0 how many ACTS, 1 the first one");
        restIs(new CleanNets(), "at first", 2, 0);
        CleanNets x = Check.made("path 7");
        x.tell(0, 1);
        for (int left = 7; left > 0; left--) {
            book.due("a walk of " + left, x.rest(0), left);
            int first = x.rest(1);
            book.due("its first act", first, left == 7 ? 0 : 100 + 10 * (6 - left) + 7 - left);
            x.act(first);
        }
        book.due("at its end", x.rest(0), 0);
        for (Way way : new Way[] {Ways.BUSY, Ways.WALK, Ways.CLONE, Ways.CLEAN}) {
            book.unchanged("rest(0)", way, y -> y.rest(0));
            book.unchanged("rest(1)", way, y -> y.rest(1));
        }
    }

    private void restAllClean() {
        book.says(8, "(NONE: all are CLEAN);");
        book.refused("all clean", Ways.CLEAN, x -> x.rest(1), NONE);
        CleanNets x = new CleanNets();
        Ways.CLEAN.go(x);
        book.due("no act is needed", x.rest(0), 0);
        x.act(10);
        restIs(x, "all clean, one without a guard", 0, NONE);
        x.undo();
        x.undo();
        restIs(x, "one is foul", 1, 3);
    }

    private void restNone() {
        book.says(8, "NONE.");
        book.refused("a triangle by two", Ways.BUSY, x -> x.rest(0), NONE);
        book.refused("a triangle by two", Ways.BUSY, x -> x.rest(1), NONE);
        book.refused("a star by one, cloning", Ways.CLONE, x -> x.rest(0), NONE);
        book.refused("a star by one, cloning", Ways.CLONE, x -> x.rest(1), NONE);
    }

    private void restBad() {
        book.says(8, "BAD.");
        for (int bad : NO_CHOICE) {
            book.refused("rest(" + bad + ")", Ways.BUSY, x -> x.rest(bad), BAD);
            book.refused("rest(" + bad + ")", Ways.CLEAN, x -> x.rest(bad), BAD);
            book.refused("rest(" + bad + ")", Ways.FRESH, x -> x.rest(bad), BAD);
        }
    }

    private void lost() {
        book.says(9, "LOST: above (what 0), below (1).");
        CleanNets x = Check.made("path 3");
        x.act(0);
        int[][] due = {{1, 1}, {9, 10}, {4, 5}, {7, 10}, {3, 5}, {1, 2}, {2, 5}, {3, 10}, {1, 5}, {1, 10}, {0, 1}};
        for (int c = 0; c <= 10; c++) {
            for (int what = 0; what < 2; what++) {
                book.due("lost(" + c + ", " + what + ")", x.lost(c, what), due[c][what]);
                int by = c;
                int asked = what;
                book.unchanged("lost", Ways.BUSY, y -> y.lost(by, asked));
            }
        }
    }

    private void lostBad() {
        book.says(9, "BAD.");
        for (int bad : new int[] {-1, 11, LEAST, MOST}) {
            book.refused("c " + bad, Ways.BUSY, x -> x.lost(bad, 0), BAD);
            book.refused("c " + bad, Ways.FRESH, x -> x.lost(bad, 1), BAD);
        }
        for (int bad : NO_CHOICE) {
            book.refused("what " + bad, Ways.BUSY, x -> x.lost(0, bad), BAD);
            book.refused("what " + bad, Ways.FRESH, x -> x.lost(10, bad), BAD);
        }
    }
}
