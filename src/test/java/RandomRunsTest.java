import java.util.Random;

/** Every promise once more: runs of calls by chance (always the same ones), answered as SlowNets answers them. */
public final class RandomRunsTest {
    private static final Check CHECK = new Check("RandomRunsTest");
    private static final String[] TEXTS = {"path 3", "path 5", "ring 4", "ring 5", "star 4", "star 5", "all 4", "grid 2*2",
        "grid 3*1", "net 4", "net 5:0-1,1-2,3-4", "net 4:0-3,3-1,1-2", "net 5:0-1,0-2,1-3,1-4", "ring 6", "grid 2*3"};
    private static final String LETTERS = "0123456789:-,* nethgridpasl";

    private final Random chance;
    private final CleanNets x = new CleanNets();
    private final SlowNets y = new SlowNets();
    private String call = "";
    private int run;

    private RandomRunsTest(int run) {
        this.run = run;
        chance = new Random(run);
    }

    public static void main(String[] args) {
        for (int run = 0; run < 500; run++) {
            new RandomRunsTest(run).go(500);
        }
        for (int k = 0; k < 60; k++) {
            new RandomRunsTest(k).goThroughPlans(k);
        }
        CHECK.end();
    }

    private void due(String what, int got, int want) {
        CHECK.due("run " + run + ": " + what, got, want);
    }

    private void go(int calls) {
        for (int k = 0; k < calls; k++) {
            int kind = chance.nextInt(20);
            if (kind < 7) {
                doSomething();
            } else if (kind < 10) {
                sheets();
            } else if (kind < 12) {
                text();
            } else {
                ask();
            }
        }
        for (int what = 0; what < 8; what++) {
            due("count(" + what + ")", x.count(what), y.count(what));
        }
    }

    /** A number of a small range, now and then one beside it or far off. */
    private int some(int least, int most) {
        int which = chance.nextInt(40);
        if (which == 0) {
            return least - 1;
        }
        if (which == 1) {
            return most + 1;
        }
        if (which == 2) {
            return chance.nextBoolean() ? Integer.MAX_VALUE : Integer.MIN_VALUE;
        }
        return least + chance.nextInt(most - least + 1);
    }

    private int node() {
        return some(0, x.count(0) - 1);
    }

    private int actNumber() {
        switch (chance.nextInt(4)) {
            case 0: return node();
            case 1: return 10 + node();
            case 2: return 100 + 10 * chance.nextInt(7) + chance.nextInt(7);
            default: return x.rest(1);
        }
    }

    private void ask() {
        int a = some(0, 2);
        int b = some(0, 1);
        int v = node();
        int t = some(1, 7);
        switch (chance.nextInt(8)) {
            case 0: due("node " + v + " " + a, x.node(v, a), y.node(v, a)); break;
            case 1: int w = some(0, 7); due("count " + w, x.count(w), y.count(w)); break;
            case 2: int act = actNumber(); due("would " + act, x.would(act), y.would(act)); break;
            case 3: due("team " + a + " " + b, x.team(a, b), y.team(a, b)); break;
            case 4: due("fewest " + a + " " + t + " " + b, x.fewest(a, t, b), y.fewest(a, t, b)); break;
            case 5: int k = some(0, 9); due("plan " + a + " " + b + " " + k, x.plan(a, b, k), y.plan(a, b, k)); break;
            case 6: due("rest " + b, x.rest(b), y.rest(b)); break;
            default: int c = some(0, 10); due("lost " + c + " " + b, x.lost(c, b), y.lost(c, b)); break;
        }
    }

    private void doSomething() {
        int u = node();
        int v = node();
        int b = some(0, 1);
        switch (chance.nextInt(14)) {
            case 0: due("link " + u + " " + v + " " + b, x.link(u, v, b), y.link(u, v, b)); break;
            case 1: int t = b == 0 ? some(0, 2) : some(1, 7); due("tell " + b + " " + t, x.tell(b, t), y.tell(b, t)); break;
            case 2: int n = chance.nextInt(3) == 0 ? some(1, 40) : 1; due("drift " + n, x.drift(n), y.drift(n)); break;
            case 3: due("undo", x.undo(), y.undo()); break;
            case 4: int s = some(0, 1000000); due("seed " + s, x.seed(s), y.seed(s)); break;
            case 5: due("image", x.image(), y.image()); break;
            case 6: due("restore", x.restore(), y.restore()); break;
            default: int act = actNumber(); due("act " + act, x.act(act), y.act(act)); break;
        }
    }

    private void text() {
        StringBuilder text = new StringBuilder(TEXTS[chance.nextInt(TEXTS.length)]);
        if (chance.nextInt(2) == 0) {
            int at = chance.nextInt(text.length());
            char letter = LETTERS.charAt(chance.nextInt(LETTERS.length()));
            switch (chance.nextInt(4)) {
                case 0: text.setCharAt(at, letter); break;
                case 1: text.insert(at, letter); break;
                case 2: text.deleteCharAt(at); break;
                default: text.append(letter); break;
            }
        }
        call = text.toString();
        for (int k = 0; k < call.length(); k++) {
            due("type " + call.charAt(k), x.type(call.charAt(k)), y.type(call.charAt(k)));
        }
        int odd = some(32, 126);
        if (odd < 32 || odd > 126) {
            due("type " + odd, x.type(odd), y.type(odd));
        }
        due("read '" + call + "'", x.read(), y.read());
    }

    private void sheets() {
        int s = some(0, 3);
        int to = some(0, 3);
        int lane = some(0, 3) < 2 ? 1 : some(0, 3);
        int i = some(0, 8);
        int j = some(0, 8);
        int n = some(1, 4);
        switch (chance.nextInt(7)) {
            case 0: due("sheet " + s + " " + lane + " " + n * 3, x.sheet(s, lane, n * 3), y.sheet(s, lane, n * 3)); break;
            case 1: if (chance.nextInt(4) == 0) { due("drop " + s, x.drop(s), y.drop(s)); } break;
            case 2: case 3: long v = actNumber() + ((long) chance.nextInt(2) << 8 + 8 * chance.nextInt(5));
                due("item " + s + " " + lane + " " + i + " " + v, x.item(s, lane, i, v), y.item(s, lane, i, v)); break;
            case 4: due("film " + s + " " + lane + " " + i, x.film(s, lane, i), y.film(s, lane, i)); break;
            case 5: due("copy " + s + " " + i + " " + to + " " + j + " " + n, x.copy(s, i, to, j, n - 1),
                    y.copy(s, i, to, j, n - 1)); break;
            default: break;
        }
        due("allowed " + s + " " + lane + " " + i + " " + n, x.allowed(s, lane, i, n), y.allowed(s, lane, i, n));
        due("allowed " + s + " " + lane + " " + j + " 1", x.allowed(s, lane, j, 1), y.allowed(s, lane, j, 1));
    }

    /** All plans of a net by chance, greater nets too. */
    private void goThroughPlans(int k) {
        String text = "net " + (k < 48 ? 2 + k % 5 : 7);
        for (int at = 0; at < text.length(); at++) {
            x.type(text.charAt(at));
            y.type(text.charAt(at));
        }
        due("read", x.read(), y.read());
        x.seed(k * 7919);
        y.seed(k * 7919);
        due("drift", x.drift(4 + k % 20), y.drift(4 + k % 20));
        for (int kind = 0; kind < 3; kind++) {
            for (int steady = 0; steady < 2; steady++) {
                due("team " + kind + " " + steady, x.team(kind, steady), y.team(kind, steady));
                for (int t = 1; t <= 7; t++) {
                    due("fewest", x.fewest(kind, t, steady), y.fewest(kind, t, steady));
                }
                for (int act = 0; act < 20; act++) {
                    due("plan " + kind + " " + steady + " " + act, x.plan(kind, steady, act), y.plan(kind, steady, act));
                }
            }
        }
    }
}
