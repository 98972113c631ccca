/** Promises 5 to 9: team, fewest, plan, rest, lost. */
public final class PlanTest {
    private static final Check CHECK = new Check("PlanTest");

    public static void main(String[] args) {
        teams();
        fewest();
        plans();
        plansAreDone();
        plansOfChangedNets();
        plansInTurn();
        rests();
        odds();
        badNumbers();
        CHECK.end();
    }

    private static void teams() {
        CleanNets star = Check.made("star 6");
        CHECK.due("star, free", star.team(0, 0), 2);
        CHECK.due("star, walking", star.team(1, 0), 4);
        CHECK.due("star, walking, steady", star.team(1, 1), CleanNets.NONE);
        CHECK.due("star, cloning", star.team(2, 1), 2);
        CleanNets all = Check.made("all 7");
        CHECK.due("all, free", all.team(0, 0), 7);
        CHECK.due("all, cloning", all.team(2, 1), 7);
        CleanNets apart = Check.made("net 5:0-1,2-3");
        CHECK.due("parts, free", apart.team(0, 0), 2);
        CHECK.due("parts, walking", apart.team(1, 0), CleanNets.NONE);
        CHECK.due("parts, cloning", apart.team(2, 0), CleanNets.NONE);
        apart.link(1, 2, 1);
        apart.link(3, 4, 1);
        CHECK.due("a path now, walking", apart.team(1, 0), 1);
        CHECK.due("a path now, steady", apart.team(1, 1), 1);
        apart.link(3, 4, 0);
        CHECK.due("parts again", apart.team(1, 0), CleanNets.NONE);
    }

    private static void fewest() {
        CleanNets x = Check.made("net 4");
        CHECK.due("free, one by one", x.fewest(0, 1, 0), 7);
        CHECK.due("free, two", x.fewest(0, 2, 0), 6);
        CHECK.due("free, four", x.fewest(0, 4, 1), 4);
        CHECK.due("free, more than nodes", x.fewest(0, 7, 1), 4);
        CHECK.due("walking", x.fewest(1, 7, 0), CleanNets.NONE);
        CleanNets ring = Check.made("ring 5");
        CHECK.due("ring, too few", ring.fewest(0, 2, 0), CleanNets.NONE);
        CHECK.due("ring, three", ring.fewest(0, 3, 1), 7);
        CHECK.due("ring, walking", ring.fewest(1, 2, 0), 6);
        ring.tell(1, 5);
        CHECK.due("the team told does not count", ring.fewest(0, 3, 1), 7);
    }

    private static void plans() {
        CleanNets path = Check.made("path 4");
        int[] walk = {0, 101, 112, 123, CleanNets.NONE, CleanNets.NONE};
        int[] free = {0, 1, 10, 2, 11, 3, CleanNets.NONE};
        for (int k = 0; k < walk.length; k++) {
            CHECK.due("walk " + k, path.plan(1, 0, k), walk[k]);
            CHECK.due("steady walk " + k, path.plan(1, 1, k), walk[k]);
        }
        for (int k = 0; k < free.length; k++) {
            CHECK.due("free " + k, path.plan(0, 1, k), free[k]);
        }
        CHECK.due("far behind the end", path.plan(0, 0, Integer.MAX_VALUE), CleanNets.NONE);
        CHECK.due("none", Check.made("net 3").plan(2, 0, 0), CleanNets.NONE);
    }

    /** Each plan, done act by act, makes all clean by its last act and not ahead of it. */
    private static void plansAreDone() {
        String[] texts = {"path 7", "ring 6", "star 5", "grid 3*2", "net 7:0-1,0-2,1-3,1-4,2-5,2-6", "all 5", "net 6"};
        for (String text : texts) {
            for (int kind = 0; kind < 3; kind++) {
                for (int steady = 0; steady < 2; steady++) {
                    doPlan(text, kind, steady);
                }
            }
        }
    }

    private static void doPlan(String text, int kind, int steady) {
        CleanNets x = Check.made(text);
        int team = x.team(kind, steady);
        String plan = text + " by " + kind + ", " + steady;
        if (team == CleanNets.NONE) {
            CHECK.due(plan + ": none", x.plan(kind, steady, 0), CleanNets.NONE);
            return;
        }
        if (team > 1) {
            CHECK.due(plan + ": none by less", x.fewest(kind, team - 1, steady), CleanNets.NONE);
        }
        int acts = x.fewest(kind, team, steady);
        x.tell(0, kind);
        x.tell(1, team);
        int all = (1 << x.count(0)) - 1;
        for (int k = 0; k < acts; k++) {
            CHECK.holds(plan + ": foul ahead of its end", x.count(3) != all);
            int fouled = x.act(x.plan(kind, steady, k));
            CHECK.holds(plan + ": allowed", fouled >= 0);
            CHECK.holds(plan + ": steady", steady == 0 || fouled == 0);
        }
        CHECK.due(plan + ": all clean", x.count(3), all);
        CHECK.due(plan + ": no more", x.plan(kind, steady, acts), CleanNets.NONE);
    }

    /** What was found for a net does not answer for another one, however it came. */
    private static void plansOfChangedNets() {
        CleanNets x = Check.made("path 4");
        CHECK.due("path", x.fewest(0, 2, 0), 6);
        CHECK.due("path, last act", x.plan(0, 0, 5), 3);
        x.link(0, 3, 1);
        CHECK.due("a ring, plan first", x.plan(0, 0, 5), CleanNets.NONE);
        CHECK.due("a ring", x.plan(0, 0, 4), 3);
        CHECK.due("a ring", x.fewest(0, 2, 0), CleanNets.NONE);
        x.undo();
        CHECK.due("a path again", x.fewest(0, 2, 0), 6);
        CHECK.due("a path again", x.plan(0, 0, 5), 3);
        x.image();
        Check.read(x, "star 4");
        CHECK.due("a star", x.plan(0, 0, 1), 1);
        CHECK.due("a star", x.plan(0, 0, 2), 11);
        x.restore();
        CHECK.due("a path by an image", x.plan(0, 0, 2), 10);
        Check.read(x, "net 4:0-1,1-2,1-3");
        CHECK.due("other links, as many nodes", x.fewest(1, 1, 0), CleanNets.NONE);
        Check.read(x, "net 4:0-1,1-2,2-3");
        CHECK.due("other links, as many nodes", x.fewest(1, 1, 0), 4);
        Check.read(x, "net 5:0-1,1-2,2-3");
        CHECK.due("a node more", x.fewest(1, 1, 0), CleanNets.NONE);
        Check.read(x, "net 3:1-2");
        CHECK.due("home alone", x.team(2, 0), CleanNets.NONE);
        Check.read(x, "net 3:0-1,1-2");
        CHECK.due("home linked", x.team(2, 0), 2);
    }

    private static void plansInTurn() {
        plansInTurn("ring 5", 5);
        plansInTurn("net 5:0-1,0-2,2-3,1-4", 5);
        plansInTurn("net 7:0-1,0-2,1-3,1-4,2-5,2-6", 7);
        CleanNets x = Check.made("net 5:0-1,0-2,2-3,1-4");
        CHECK.due("turning back helps a team of two", x.team(2, 0), 2);
        CHECK.due("without it three are needed", x.team(2, 1), 3);
    }

    /** Plans asked for in turn, as if each were the only one. */
    private static void plansInTurn(String text, int team) {
        CleanNets x = Check.made(text);
        int acts = 14;
        int[][] alone = new int[6][acts];
        for (int which = 0; which < 6; which++) {
            CleanNets other = Check.made(text);
            for (int k = 0; k < acts; k++) {
                alone[which][k] = other.plan(which / 2, which % 2, k);
            }
        }
        x.tell(1, team);
        int rest = x.fewest(0, team, 0);
        for (int k = 0; k < acts; k++) {
            for (int which = 0; which < 6; which++) {
                CHECK.due("plan " + which + ", " + k, x.plan(which / 2, which % 2, k), alone[which][k]);
                CHECK.due("rest", x.rest(0), rest);
                CHECK.due("plan " + which + " behind a rest", x.plan(which / 2, which % 2, k), alone[which][k]);
                x.fewest(which / 2, 7, which % 2);
                CHECK.due("plan " + which + " behind another", x.plan(which / 2, which % 2, k), alone[which][k]);
            }
        }
    }

    private static void rests() {
        CleanNets x = Check.made("path 4");
        CHECK.due("free, two", x.rest(0), 6);
        x.act(0);
        x.act(1);
        CHECK.due("less", x.rest(0), 4);
        CHECK.due("take it", x.rest(1), 10);
        x.tell(1, 3);
        CHECK.due("a greater team", x.rest(0), 3);
        CHECK.due("by take or put, the least", x.rest(1), 2);
        x.act(2);
        x.act(10);
        CHECK.due("one", x.rest(0), 1);
        CHECK.due("put", x.rest(1), 3);
        x.act(3);
        CHECK.due("all clean", x.rest(0), 0);
        CHECK.due("all clean, no act", x.rest(1), CleanNets.NONE);
        CleanNets star = Check.made("star 6");
        star.tell(0, 1);
        CHECK.due("it can't be", star.rest(0), CleanNets.NONE);
        CHECK.due("no first one", star.rest(1), CleanNets.NONE);
        CHECK.due("a plan behind a rest", star.plan(0, 1, 0), 0);
        CleanNets lone = Check.made("path 3");
        lone.act(1);
        CHECK.due("its first act alone asked for", lone.rest(1), 0);
        CHECK.due("a plan's last act", lone.plan(1, 0, 2), 112);
        CHECK.due("asked again", lone.rest(1), 0);
        lone.act(0);
        CHECK.due("guards are full: one must go", lone.rest(1), 10);
        CHECK.due("rest isn't undone", star.count(7), 2);
    }

    private static void odds() {
        CleanNets x = Check.made("path 5");
        x.tell(1, 5);
        CHECK.due("nothing clean", x.lost(5, 0), 1);
        CHECK.due("nothing clean, below", x.lost(5, 1), 1);
        x.act(1);
        CHECK.due("one stays by 7 of 10", x.lost(3, 0), 7);
        CHECK.due("of 10", x.lost(3, 1), 10);
        x.act(0);
        CHECK.due("one behind it may fail", x.lost(3, 0), 7);
        CHECK.due("of 10 still", x.lost(3, 1), 10);
        x.act(2);
        x.act(4);
        CHECK.due("both at the edge", x.lost(4, 0), 9);
        CHECK.due("both, below", x.lost(4, 1), 25);
        CHECK.due("surely lost", x.lost(10, 0), 0);
        CHECK.due("surely lost, below", x.lost(10, 1), 1);
        CHECK.due("surely kept", x.lost(0, 0), 1);
        CHECK.due("surely kept, below", x.lost(0, 1), 1);
        x.act(3);
        CHECK.due("all clean", x.lost(9, 0), 1);
        CHECK.due("all clean, below", x.lost(9, 1), 1);
        CleanNets seven = Check.made("net 7:0-6,1-6,2-6,3-6,4-6,5-6");
        seven.tell(1, 7);
        for (int v = 0; v < 6; v++) {
            seven.act(v);
        }
        CHECK.due("all six must hold", seven.lost(1, 0), 531441);
        CHECK.due("six, below", seven.lost(1, 1), 1000000);
        CHECK.due("nothing is done by it", seven.count(4), 63);
        CleanNets back = Check.made("net 3");
        back.act(0);
        back.link(0, 1, 1);
        CHECK.due("linked", back.lost(3, 0), 7);
        back.undo();
        CHECK.due("by the net as it is, undone", back.lost(3, 0), 1);
        CleanNets anew = Check.made("all 3");
        anew.act(0);
        anew.image();
        Check.read(anew, "net 3");
        anew.count(2);
        anew.restore();
        CHECK.due("by the net as it is, restored", anew.lost(3, 0), 7);
    }

    private static void badNumbers() {
        CleanNets x = Check.made("path 3");
        for (int bad : new int[] {-1, 3, Integer.MIN_VALUE, Integer.MAX_VALUE}) {
            CHECK.due("team kind " + bad, x.team(bad, 0), CleanNets.BAD);
            CHECK.due("team steady " + bad, x.team(0, bad), CleanNets.BAD);
            CHECK.due("fewest kind " + bad, x.fewest(bad, 1, 0), CleanNets.BAD);
            CHECK.due("fewest steady " + bad, x.fewest(0, 1, bad), CleanNets.BAD);
            CHECK.due("plan kind " + bad, x.plan(bad, 0, 0), CleanNets.BAD);
            CHECK.due("plan steady " + bad, x.plan(0, bad, 0), CleanNets.BAD);
            CHECK.due("rest " + bad, x.rest(bad), CleanNets.BAD);
            CHECK.due("lost what " + bad, x.lost(0, bad), CleanNets.BAD);
        }
        CHECK.due("fewest t 0", x.fewest(0, 0, 0), CleanNets.BAD);
        CHECK.due("fewest t 8", x.fewest(0, 8, 0), CleanNets.BAD);
        CHECK.due("plan k -1", x.plan(0, 0, -1), CleanNets.BAD);
        CHECK.due("bad ahead of none", Check.made("net 3").plan(1, 0, -1), CleanNets.BAD);
        CHECK.due("lost -1", x.lost(-1, 0), CleanNets.BAD);
        CHECK.due("lost 11", x.lost(11, 1), CleanNets.BAD);
        CHECK.due("steady 2", x.team(0, 2), CleanNets.BAD);
        CHECK.due("rest 2", x.rest(2), CleanNets.BAD);
    }
}
