/** Promises 10 to 19: act, link, tell, type, read, drift, undo, seed, image, restore. */
public final class DoneTest {
    private static final Check CHECK = new Check("DoneTest");

    public static void main(String[] args) {
        acts();
        links();
        tells();
        letters();
        texts();
        faults();
        readKeeps();
        drifts();
        undone();
        seeds();
        images();
        CHECK.end();
    }

    private static void acts() {
        CleanNets x = Check.made("path 5");
        CHECK.due("put", x.act(0), 0);
        CHECK.due("looks", Check.looks(x), 20000);
        x.act(1);
        CHECK.due("take behind a guard", x.act(10), 0);
        CHECK.due("looks", Check.looks(x), 12000);
        CHECK.due("a full team's put", x.act(2), 0);
        CHECK.due("full", x.act(3), CleanNets.FULL);
        CHECK.due("not allowed", x.act(13), CleanNets.NOT);
        CHECK.due("take", x.act(11), 0);
        CHECK.due("the row falls", x.act(12), 3);
        CHECK.due("looks", Check.looks(x), 0);
        CHECK.due("six may be undone", x.count(7), 6);
        x.tell(0, 1);
        CHECK.due("home", x.act(0), 0);
        CHECK.due("move", x.act(101), 0);
        CHECK.due("looks", Check.looks(x), 12000);
        CHECK.due("back: home is kept, 1 is foul again", x.act(110), 1);
        CHECK.due("looks", Check.looks(x), 20000);
    }

    private static void links() {
        CleanNets x = Check.made("net 4:0-1,1-2");
        x.act(1);
        x.act(0);
        x.act(10);
        CHECK.due("home clean", Check.looks(x), 1200);
        CHECK.due("a link lets the foul in", x.link(3, 0, 1), 1);
        CHECK.due("looks", Check.looks(x), 200);
        CHECK.due("both ways", x.node(0, 1), 10);
        CHECK.due("both ways", x.node(3, 1), 1);
        CHECK.due("it is so", x.link(0, 3, 1), CleanNets.NOT);
        CHECK.due("cut", x.link(0, 3, 0), 0);
        CHECK.due("cut already", x.link(3, 0, 0), CleanNets.NOT);
        CHECK.due("foul stays foul", Check.looks(x), 200);
        CHECK.due("guards stay", x.link(1, 3, 1), 0);
        CHECK.due("links", x.count(1), 3);
        int[][] bad = {{0, 0, 1}, {0, 0, 0}, {-1, 0, 1}, {0, 4, 1}, {4, 0, 0}, {0, 1, 2}, {0, 1, -1}};
        for (int[] b : bad) {
            CHECK.due("link " + b[0] + " " + b[1] + " " + b[2], x.link(b[0], b[1], b[2]), CleanNets.BAD);
        }
        CleanNets row = Check.made("net 5:0-1,1-2,2-3");
        row.act(3);
        row.act(0);
        row.tell(1, 7);
        row.act(1);
        row.act(2);
        row.act(10);
        row.act(11);
        row.act(12);
        CHECK.due("clean but for 4", row.count(3), 15);
        row.act(13);
        CHECK.due("a whole part falls", row.link(4, 2, 1), 4);
    }

    private static void tells() {
        CleanNets x = new CleanNets();
        CHECK.due("kind", x.tell(0, 2), 0);
        CHECK.due("kind so", x.tell(0, 2), CleanNets.NOT);
        CHECK.due("kind back", x.tell(0, 1), 2);
        CHECK.due("team", x.tell(1, 7), 2);
        CHECK.due("team so", x.tell(1, 7), CleanNets.NOT);
        CHECK.due("team back", x.tell(1, 1), 7);
        int[][] bad = {{0, 3}, {0, -1}, {1, 0}, {1, 8}, {2, 1}, {-1, 1}};
        for (int[] b : bad) {
            CHECK.due("tell " + b[0] + " " + b[1], x.tell(b[0], b[1]), CleanNets.BAD);
        }
        CHECK.due("only four may be undone", x.count(7), 4);
    }

    private static void letters() {
        CleanNets x = new CleanNets();
        CHECK.due("31", x.type(31), CleanNets.BAD);
        CHECK.due("127", x.type(127), CleanNets.BAD);
        CHECK.due("below", x.type(-1), CleanNets.BAD);
        for (int k = 1; k <= 90; k++) {
            CHECK.due("letter " + k, x.type(k % 2 == 0 ? 32 : 126), k);
        }
        CHECK.due("91", x.type(32), CleanNets.FULL);
        CHECK.due("bad ahead of full", x.type(31), CleanNets.BAD);
        CHECK.due("a fault empties it", x.read(), -20);
        CHECK.due("empty", x.type(32), 1);
        x.read();
        String blanks = " ".repeat(84) + "path 7";
        CHECK.due("90 letters", Check.read(x, blanks), 6);
        CHECK.due("blanks to the end", Check.read(x, " ".repeat(90)), -110);
    }

    private static void texts() {
        Object[][] texts = {{"path 2", 1}, {"path7", 6}, {"ring 3", 3}, {"ring 7", 7}, {"star 2", 1}, {"star 7", 6},
            {"all 2", 1}, {"all 7", 21}, {"net 2", 0}, {"net7", 0}, {"grid 1*2", 1}, {"grid 2*1", 1}, {"grid 2*2", 4},
            {"grid 3*2", 7}, {"grid 2*3", 7}, {"grid 1*7", 6}, {"grid 7*1", 6}, {" grid 3 * 1 ", 2},
            {"net 3 : 0 - 1 , 2 - 1", 2}, {"net 7:6-5", 1}, {"  all   3  ", 3}};
        for (Object[] t : texts) {
            CHECK.due("'" + t[0] + "'", Check.read(new CleanNets(), (String) t[0]), (Integer) t[1]);
        }
        due("path 4", 2, 5, 10, 4);
        due("ring 4", 10, 5, 10, 5);
        due("star 4", 14, 1, 1, 1);
        due("all 4", 14, 13, 11, 7);
        due("grid 2*3", 6, 9, 25, 38, 36, 24);
        due("grid 3*2", 10, 21, 34, 17, 42, 20);
        due("grid 1*3", 2, 5, 2);
        due("net 3:2-0", 4, 0, 1);
        CleanNets again = Check.made("all 7");
        CHECK.due("no links left over", Check.read(again, "net 3"), 0);
        CHECK.due("no links left over", again.node(0, 1), 0);
        CHECK.due("no nodes left over", again.node(3, 1), CleanNets.BAD);
    }

    private static void due(String text, int... near) {
        CleanNets x = Check.made(text);
        CHECK.due(text + " nodes", x.count(0), near.length);
        for (int v = 0; v < near.length; v++) {
            CHECK.due(text + " near " + v, x.node(v, 1), near[v]);
        }
    }

    private static void faults() {
        Object[][] faults = {{"", 0}, {"   ", 3}, {"5", 0}, {"  *", 2}, {"Path 3", 0}, {"pathx 3", 0}, {" pa th 3", 1},
            {"pat", 0}, {"path", 4}, {"path ", 5}, {"path x", 5}, {"path 0", 5}, {"path 1", 5}, {"path 8", 5},
            {"path 9", 5}, {"path 33", 6}, {"path 3 3", 7}, {"path 3:", 6}, {"path 3x", 6}, {"ring 2", 5}, {"ring 1", 5},
            {"star 1", 5}, {"all 8", 4}, {"net 1", 4}, {"net", 3}, {"net 3;", 5}, {"net 3:", 6}, {"net 3: ", 7},
            {"net 3:,", 6}, {"net 3:3", 6}, {"net 3:3-0", 6}, {"net 3:0", 7}, {"net 3:0 1", 8}, {"net 3:0-", 8},
            {"net 3:0-3", 8}, {"net 3:0-0", 8}, {"net 3:0-1,", 10}, {"net 3:0-1 ,  ", 13}, {"net 3:0-1,0-1", 12},
            {"net 3:0-1,1-0", 12}, {"net 3:0-1,1 - 0", 14}, {"net 3:0-1 1-2", 10}, {"net 3:0-1;", 9}, {"net 2:0-1,0-", 12},
            {"grid", 4}, {"grid 0*2", 5}, {"grid 8*1", 5}, {"grid 2", 6}, {"grid 2 2", 7}, {"grid 2x2", 6},
            {"grid 2*", 7}, {"grid 2*0", 7}, {"grid 1*1", 7}, {"grid 1*8", 7}, {"grid 2*4", 7}, {"grid 4*2", 7},
            {"grid 7*2", 7}, {"grid 3*3", 7}, {"grid 2 * 4", 9}, {"grid 2*2*", 8}, {"grid 2*21", 8}, {"nett 3", 0},
            {"allpath 3", 0}, {"path-3", 4}, {"net 3:0--1", 8}, {"net 3::", 6}, {"xath 3", 0}, {"pathz 3", 0}, {"z", 0},
            {"zath 3", 0}, {"net 3:0-0,1-2", 8}, {"net 3:0-9,1-9", 8}, {"net 3:9-0,1-9", 6}, {"net 3:0*1,1-9", 7},
            {"net 3:0,1-9", 7}, {"net 3:0-1,0-1,9", 12}, {"net 3:0-,9", 8}, {"path 9 9", 5}, {"grid 9*9", 5}};
        CleanNets used = new CleanNets();
        for (Object[] f : faults) {
            CHECK.due("'" + f[0] + "'", Check.read(new CleanNets(), (String) f[0]), -20 - (Integer) f[1]);
            CHECK.due("behind a longer text", Check.read(used, "net 5:3-4,0-1,2-3,1-2,4-0"), 5);
            CHECK.due("then '" + f[0] + "'", Check.read(used, (String) f[0]), -20 - (Integer) f[1]);
            CHECK.due("undone", used.undo() >= 0 ? 1 : 0, 1);
        }
        CHECK.due("a 2 that is no more", Check.read(used, "net 2"), 0);
        CHECK.due("then without it", Check.read(used, "net "), -24);
        CHECK.due("a sign that is no more", Check.read(used, "net 2:0-1"), 1);
        CHECK.due("then without it", Check.read(used, "net 2"), 0);
        CHECK.due("then without its end", Check.read(used, "net 2:0"), -27);
        CHECK.due("a grid", Check.read(used, "grid 2*2"), 4);
        CHECK.due("then without its height", Check.read(used, "grid 2*"), -27);
        CHECK.due("then without its star", Check.read(used, "grid 2"), -26);
        CHECK.due("blanks that are no more", Check.read(used, "path 3     "), 2);
    }

    private static void readKeeps() {
        CleanNets x = Check.made("path 4");
        x.tell(0, 2);
        x.tell(1, 5);
        x.act(0);
        x.seed(99);
        CHECK.due("a fault", Check.read(x, "path 9"), -25);
        CHECK.due("all else stays", Check.looks(x), 2000);
        CHECK.due("not to be undone", x.count(7), 4);
        CHECK.due("tape empty", x.type(32), 1);
        CHECK.due("read", Check.read(x, "star 3"), 2);
        CHECK.due("all foul", x.count(3), 0);
        CHECK.due("no guards", x.count(4), 0);
        CHECK.due("kind stays", x.count(5), 2);
        CHECK.due("team stays", x.count(6), 5);
        CHECK.due("draw stays", x.seed(99), 99);
        CHECK.due("to be undone", x.count(7), 5);
        x.undo();
        CHECK.due("as it was", Check.looks(x), 2000);
        CHECK.due("nodes as they were", x.count(0), 4);
        CHECK.due("links as they were", x.count(1), 3);
    }

    private static void drifts() {
        CleanNets x = Check.made("net 7");
        for (int bad : new int[] {0, -1, 41, Integer.MAX_VALUE, Integer.MIN_VALUE}) {
            CHECK.due("drift " + bad, x.drift(bad), CleanNets.BAD);
        }
        CHECK.due("one turn: 16838 and 2104", x.drift(1), 1);
        CHECK.due("3 with 4", x.node(3, 1), 16);
        CHECK.due("the draw", x.seed(1103527590), 1103527590);
        CHECK.due("three more: 4 with 5, cut again, 1 with 5", x.drift(3), 2);
        CHECK.due("the draw", x.seed(1), 1147902781);
        CHECK.due("the first turn once more: cut", x.drift(1), 1);
        CHECK.due("cut", x.node(3, 1) & 16, 0);
        CHECK.due("six known", x.count(7), 6);
        CHECK.due("forty", x.drift(40) >= 0 ? 1 : 0, 1);
        driftsByTheDocument();
        CleanNets two = new CleanNets();
        int turns = 0;
        for (int k = 0; k < 5; k++) {
            two.drift(1);
            turns++;
            CHECK.due("each turn may be undone", two.count(7), turns);
        }
        CleanNets greatest = new CleanNets();
        greatest.seed(Integer.MAX_VALUE);
        greatest.drift(1);
        CHECK.due("the greatest draw", greatest.seed(0), (2147483647L * 1103515245L + 12345L) & 0x7fffffffL);
        CleanNets foul = Check.made("net 2");
        foul.act(0);
        foul.act(10);
        foul.seed(1);
        for (int k = 0; k < 40 && foul.count(1) == 0; k++) {
            foul.drift(1);
        }
        CHECK.due("a link by drift", foul.count(1), 1);
        CHECK.due("lets the foul in", foul.count(3), 0);
    }

    private static void driftsByTheDocument() {
        for (int n = 2; n <= 7; n++) {
            CleanNets x = Check.made("net " + n);
            x.seed(n * 1000003);
            long draw = n * 1000003;
            boolean[][] linked = new boolean[n][n];
            for (int turn = 0; turn < 60; turn++) {
                draw = (draw * 1103515245L + 12345L) % 2147483648L;
                int u = (int) (draw / 65536 % n);
                int v = (int) (draw / 65536 / 8 % n);
                if (u != v) {
                    linked[u][v] = !linked[u][v];
                    linked[v][u] = linked[u][v];
                }
                x.drift(1);
                CHECK.due("turn " + turn + " of " + n, x.node(u, 1) >> v & 1, linked[u][v] ? 1 : 0);
            }
        }
    }

    private static void undone() {
        CleanNets x = Check.made("path 3");
        CHECK.due("a text", x.undo(), 0);
        CHECK.due("nodes", x.count(0), 2);
        CHECK.due("no more", x.undo(), CleanNets.NONE);
        x.act(0);
        x.link(0, 1, 1);
        x.tell(0, 1);
        x.tell(1, 5);
        Check.read(x, "all 4");
        x.seed(5);
        x.drift(1);
        x.seed(1234);
        CHECK.due("six", x.count(7), 6);
        CHECK.due("a turn", x.undo(), 5);
        CHECK.due("no link cut", x.count(1), 6);
        CHECK.due("the draw ahead of the turn", x.seed(77), 5);
        CHECK.due("the text", x.undo(), 4);
        CHECK.due("the draw, though seed is none", x.seed(78), 1);
        CHECK.due("nodes", x.count(0), 2);
        CHECK.due("guards", x.count(4), 1);
        CHECK.due("the team", x.undo(), 3);
        CHECK.due("team", x.count(6), 2);
        CHECK.due("the kind", x.undo(), 2);
        CHECK.due("kind", x.count(5), 0);
        CHECK.due("the link", x.undo(), 1);
        CHECK.due("links", x.count(1), 0);
        CHECK.due("the act", x.undo(), 0);
        CHECK.due("guards", x.count(4), 0);
        for (int team = 3; team <= 7; team++) {
            x.tell(1, team);
        }
        x.tell(1, 1);
        x.tell(1, 4);
        for (int left = 5; left >= 0; left--) {
            CHECK.due("seven done, six known", x.undo(), left);
        }
        CHECK.due("the oldest is lost", x.count(6), 3);
        CHECK.due("none", x.undo(), CleanNets.NONE);
        undoneManyTimes();
    }

    /** Teams told in turn, more and more of them, then back through the six that are known. */
    private static void undoneManyTimes() {
        for (int told = 1; told < 30; told++) {
            CleanNets x = new CleanNets();
            for (int k = 1; k <= told; k++) {
                x.tell(1, (k + 1) % 7 + 1);
            }
            int known = Math.min(told, 6);
            for (int back = 1; back <= known; back++) {
                CHECK.due("back " + back, x.undo(), known - back);
                CHECK.due("team " + back + " of " + told, x.count(6), (told - back + 1) % 7 + 1);
            }
            CHECK.due("none", x.undo(), CleanNets.NONE);
        }
    }

    private static void seeds() {
        CleanNets x = new CleanNets();
        CHECK.due("at first", x.seed(0), 1);
        CHECK.due("nought", x.seed(Integer.MAX_VALUE), 0);
        CHECK.due("below", x.seed(-1), CleanNets.BAD);
        CHECK.due("least", x.seed(Integer.MIN_VALUE), CleanNets.BAD);
        CHECK.due("greatest", x.seed(3), Integer.MAX_VALUE);
        CHECK.due("not to be undone", x.undo(), CleanNets.NONE);
    }

    private static void images() {
        CleanNets x = Check.made("ring 5");
        CHECK.due("none", x.restore(), CleanNets.NONE);
        x.act(1);
        x.tell(1, 4);
        x.seed(17);
        x.sheet(0, 1, 3);
        x.type('p');
        CHECK.due("image", x.image(), 1);
        x.type('a');
        x.sheet(1, 2, 5);
        x.drop(0);
        Check.read(x, "th 3");
        for (int k = 0; k < 8; k++) {
            x.drift(1);
        }
        x.tell(0, 2);
        CHECK.due("restore", x.restore(), 1);
        CHECK.due("nodes", Check.looks(x), 2000);
        CHECK.due("count", x.count(0), 5);
        CHECK.due("kind", x.count(5), 0);
        CHECK.due("team", x.count(6), 4);
        CHECK.due("what may be undone", x.count(7), 3);
        CHECK.due("draw", x.seed(18), 17);
        CHECK.due("sheets stay dropped", x.drop(0), CleanNets.NULL);
        CHECK.due("sheets stay made", x.drop(1), 5);
        CHECK.due("the tape stays", x.type('z'), 1);
        CHECK.due("undo", x.undo(), 2);
        CHECK.due("undone by the image", x.count(6), 2);
        CHECK.due("undo", x.undo(), 1);
        CHECK.due("undone by the image", x.count(4), 0);
        CHECK.due("undo", x.undo(), 0);
        CHECK.due("again", x.restore(), 1);
        CHECK.due("again", x.count(7), 3);
        CHECK.due("draw again", x.seed(18), 17);
        for (int left = 2; left >= 0; left--) {
            CHECK.due("undone once more", x.undo(), left);
        }
        CHECK.due("the first state", x.count(0), 2);
        x.tell(0, 1);
        x.image();
        x.tell(0, 2);
        x.restore();
        CHECK.due("a later image", x.count(5), 1);
    }
}
