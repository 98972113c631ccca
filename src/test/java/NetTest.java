/** Promises 1 to 4: a new object, node, count, would. */
public final class NetTest {
    private static final Check CHECK = new Check("NetTest");

    public static void main(String[] args) {
        newObject();
        nodes();
        partsFollowLinks();
        partsOfEveryNet();
        counts();
        badNumbers();
        wouldFree();
        wouldWalking();
        wouldCloning();
        wouldByTeam();
        CHECK.end();
    }

    private static void newObject() {
        CleanNets x = new CleanNets();
        int[] due = {2, 0, 2, 0, 0, 0, 2, 0};
        for (int what = 0; what < due.length; what++) {
            CHECK.due("new: count(" + what + ")", x.count(what), due[what]);
        }
        CHECK.due("new: node 0", x.node(0, 0), 0);
        CHECK.due("new: node 1", x.node(1, 0), 0);
        CHECK.due("new: undo", x.undo(), CleanNets.NONE);
        CHECK.due("new: restore", x.restore(), CleanNets.NONE);
        CHECK.due("new: first letter", x.type('a'), 1);
        CHECK.due("new: the draw", x.seed(7), 1);
        for (int sheet = 0; sheet < 4; sheet++) {
            CHECK.due("new: drop " + sheet, x.drop(sheet), CleanNets.NULL);
        }
        CleanNets other = new CleanNets();
        CHECK.due("objects are apart", other.seed(3), 1);
    }

    private static void nodes() {
        CleanNets x = Check.made("net 7:1-3,3-5,2-6");
        int[] near = {0, 8, 64, 34, 0, 8, 4};
        int[] parts = {0, 1, 2, 1, 3, 1, 2};
        for (int v = 0; v < 7; v++) {
            CHECK.due("near " + v, x.node(v, 1), near[v]);
            CHECK.due("part of " + v, x.node(v, 2), parts[v]);
        }
        CHECK.due("put 3", x.act(3), 0);
        CHECK.due("guarded", x.node(3, 0), 2);
        CHECK.due("put 0", x.act(0), 0);
        CHECK.due("take 0", x.act(10), 0);
        CHECK.due("clean, as nothing foul is near", x.node(0, 0), 1);
        CHECK.due("foul", x.node(1, 0), 0);
        CleanNets far = Check.made("net 6:0-5,5-1,1-4,4-2,2-3");
        CHECK.due("a part that winds", far.node(3, 2), 0);
    }

    private static void partsFollowLinks() {
        CleanNets x = Check.made("net 3");
        CHECK.due("each alone", x.node(2, 2), 2);
        x.link(0, 1, 1);
        CHECK.due("two together, one alone", x.node(2, 2), 1);
        CHECK.due("the greater one of two", x.node(1, 2), 0);
        x.link(0, 1, 0);
        CHECK.due("alone again", x.node(2, 2), 2);
        x.undo();
        CHECK.due("together again", x.node(2, 2), 1);
        x.link(0, 2, 1);
        CHECK.due("all together", x.node(2, 2), 0);
        CleanNets last = Check.made("net 7:0-6,1-5");
        int[] parts = {0, 1, 2, 3, 4, 1, 0};
        for (int v = 0; v < 7; v++) {
            CHECK.due("part of " + v + ", the last ones linked to the first ones", last.node(v, 2), parts[v]);
        }
        CHECK.due("no part of a node that isn't there", x.node(3, 2), CleanNets.BAD);
        CHECK.due("no part of a node below 0", x.node(-1, 2), CleanNets.BAD);
    }

    /** Every net of up to 6 nodes, and of 7 nodes one of each 61 (a prime, so that all links take turns). */
    private static void partsOfEveryNet() {
        for (int n = 2; n <= 7; n++) {
            int nets = 1 << n * (n - 1) / 2;
            for (int links = 0; links < nets; links += n == 7 ? 61 : 1) {
                partsOfNet(n, links);
            }
        }
    }

    /** Nodes are gone through from 0 on: one that hangs together with none ahead of it begins the next part. */
    private static void partsOfNet(int n, int links) {
        StringBuilder text = new StringBuilder("net" + n);
        boolean[][] together = new boolean[n][n];
        int bit = 0;
        for (int v = 1; v < n; v++) {
            for (int u = 0; u < v; u++) {
                if ((links >> bit++ & 1) != 0) {
                    text.append(text.length() == 4 ? ':' : ',').append(u).append('-').append(v);
                    together[u][v] = true;
                    together[v][u] = true;
                }
            }
        }
        for (int by = 0; by < n; by++) {
            for (int u = 0; u < n; u++) {
                for (int v = 0; v < n; v++) {
                    together[u][v] |= together[u][by] && together[by][v];
                }
            }
        }
        CleanNets x = Check.made(text.toString());
        int[] due = new int[n];
        int parts = 0;
        for (int v = 0; v < n; v++) {
            int ahead = 0;
            while (ahead < v && !together[ahead][v]) {
                ahead++;
            }
            due[v] = ahead < v ? due[ahead] : parts++;
            CHECK.due(text + ": part of " + v, x.node(v, 2), due[v]);
        }
        CHECK.due(text + ": parts", x.count(2), parts);
    }

    private static void counts() {
        CleanNets x = Check.made("net 7:1-3,3-5,2-6");
        x.tell(0, 0);
        x.tell(1, 3);
        x.act(3);
        x.act(0);
        x.act(10);
        x.tell(0, 2);
        int[] due = {7, 3, 4, 9, 8, 2, 3, 6};
        for (int what = 0; what < due.length; what++) {
            CHECK.due("count(" + what + ")", x.count(what), due[what]);
        }
        CHECK.due("all 7 has", Check.made("all 7").count(1), 21);
        CHECK.due("all 7 parts", Check.made("all 7").count(2), 1);
        CHECK.due("net 7 parts", Check.made("net 7").count(2), 7);
    }

    private static void badNumbers() {
        CleanNets x = Check.made("path 4");
        int[] bad = {-1, 4, 7, Integer.MIN_VALUE, Integer.MAX_VALUE};
        for (int v : bad) {
            CHECK.due("node(" + v + ", 0)", x.node(v, 0), CleanNets.BAD);
        }
        for (int what : new int[] {-1, 3, Integer.MIN_VALUE, Integer.MAX_VALUE}) {
            CHECK.due("node(0, " + what + ")", x.node(0, what), CleanNets.BAD);
        }
        for (int what : new int[] {-1, 8, Integer.MIN_VALUE, Integer.MAX_VALUE}) {
            CHECK.due("count(" + what + ")", x.count(what), CleanNets.BAD);
        }
        int[] acts = {-1, 4, 9, 14, 19, 20, 99, 100, 104, 111, 140, 141, 199, 1000, Integer.MIN_VALUE, Integer.MAX_VALUE};
        for (int act : acts) {
            CHECK.due("would(" + act + ")", x.would(act), CleanNets.BAD);
            CHECK.due("act(" + act + ")", x.act(act), CleanNets.BAD);
        }
    }

    private static void wouldFree() {
        CleanNets x = Check.made("path 5");
        CHECK.due("no guard to take", x.would(11), CleanNets.NOT);
        x.act(0);
        CHECK.due("put where one is", x.would(0), CleanNets.NOT);
        CHECK.due("no move", x.would(101), CleanNets.NOT);
        CHECK.due("its own node", x.would(10), 1);
        x.act(1);
        CHECK.due("nothing", x.would(10), 0);
        CHECK.due("it and no more", x.would(11), 1);
        x.act(10);
        CHECK.due("all of a row", x.would(11), 2);
        CHECK.due("would does nothing", x.count(3), 3);
        CHECK.due("would isn't undone", x.count(7), 4);
    }

    private static void wouldWalking() {
        CleanNets x = Check.made("ring 4");
        x.tell(0, 1);
        CHECK.due("not at home", x.would(1), CleanNets.NOT);
        CHECK.due("home", x.act(0), 0);
        CHECK.due("not linked", x.would(102), CleanNets.NOT);
        CHECK.due("linked, home gets foul", x.would(101), 1);
        CHECK.due("none there to move", x.would(110), CleanNets.NOT);
        x.act(101);
        x.act(0);
        CHECK.due("to a guarded one", x.would(101), CleanNets.NOT);
        CHECK.due("take away from home", x.would(11), CleanNets.NOT);
        CHECK.due("take at home", x.would(10), 1);
        CHECK.due("move on, both neighbours guarded", x.would(112), 0);
    }

    private static void wouldCloning() {
        CleanNets x = Check.made("path 4");
        x.tell(0, 2);
        CHECK.due("far from all", x.would(1), CleanNets.NOT);
        x.act(0);
        CHECK.due("beside a guard", x.would(1), 0);
        CHECK.due("two away", x.would(2), CleanNets.NOT);
        CHECK.due("no move", x.would(101), CleanNets.NOT);
        x.act(1);
        x.act(10);
        CHECK.due("beside a clean one alone", x.would(3), CleanNets.NOT);
        CHECK.due("home again", x.would(0), 0);
        CHECK.due("take anywhere", x.would(11), 2);
    }

    private static void wouldByTeam() {
        CleanNets x = Check.made("path 4");
        x.act(1);
        x.act(2);
        CHECK.due("by the team alone", x.would(0), CleanNets.FULL);
        CHECK.due("not, ahead of full", x.would(1), CleanNets.NOT);
        x.tell(1, 1);
        CHECK.due("more guards than the team", x.would(0), CleanNets.FULL);
        CHECK.due("take all the same", x.would(11), 1);
        x.tell(0, 2);
        CHECK.due("cloning, full", x.would(3), CleanNets.FULL);
        x.tell(0, 1);
        CHECK.due("walking, not home", x.would(3), CleanNets.NOT);
        CHECK.due("walking, home", x.would(0), CleanNets.FULL);
        CHECK.due("moves are no puts", x.would(123), 0);
        CHECK.due("back to home", x.would(110), 0);
        x.tell(1, 7);
        CHECK.due("a team of seven", x.would(0), 0);
    }
}
