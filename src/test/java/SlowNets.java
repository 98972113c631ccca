import java.util.ArrayDeque;
import java.util.ArrayList;
import java.util.Arrays;
import java.util.HashMap;
import java.util.List;
import java.util.Map;
import java.util.TreeMap;
import java.util.TreeSet;

/**
 * The document once more, written without regard to speed and by other ways than CleanNets: nodes are letters of a
 * text (f foul, c clean, g guarded), plans come from how far each state is from the end, texts are read letter by
 * letter by a table of what may come next, sheets are real rows of their lanes.
 */
final class SlowNets {
    static final int BAD = -1, NOT = -2, FULL = -3, NONE = -4, NULL = -11, CAST = -12, INDEX = -13, SIZE = -14;

    /** All that may be undone; never changed, but made anew. */
    private record All(String nodes, boolean[][] links, int kind, int team, long draw) {
        All with(String newNodes) {
            return new All(newNodes, links, kind, team, draw);
        }
    }

    private record Saved(All all, List<All> past) {
    }

    private record Step(int act, String next) {
    }

    private All all = new All("ff", new boolean[2][2], 0, 2, 1);
    private List<All> past = new ArrayList<>();
    private Saved saved = null;
    private String tape = "";
    private final Object[] sheets = new Object[4];
    private static final Map<String, List<Integer>> KNOWN_PLANS = new HashMap<>();

    // ---- the net

    private static int size(All a) {
        return a.nodes.length();
    }

    private static String fouled(String nodes, boolean[][] links) {
        StringBuilder s = new StringBuilder(nodes);
        boolean goesOn = true;
        while (goesOn) {
            goesOn = false;
            for (int u = 0; u < s.length(); u++) {
                for (int v = 0; v < s.length(); v++) {
                    if (links[u][v] && s.charAt(u) == 'f' && s.charAt(v) == 'c') {
                        s.setCharAt(v, 'f');
                        goesOn = true;
                    }
                }
            }
        }
        return s.toString();
    }

    private static int newlyFoul(String before, String after) {
        int n = 0;
        for (int v = 0; v < before.length(); v++) {
            if (before.charAt(v) != 'f' && after.charAt(v) == 'f') {
                n++;
            }
        }
        return n;
    }

    private static int guards(String nodes) {
        return (int) nodes.chars().filter(c -> c == 'g').count();
    }

    private static Map<Long, int[]> actsOf(int n) {
        Map<Long, int[]> acts = new TreeMap<>();
        for (int v = 0; v < n; v++) {
            acts.put((long) v, new int[] {-1, v});
            acts.put(10L + v, new int[] {v, -1});
            for (int u = 0; u < n; u++) {
                if (u != v) {
                    acts.put(100L + 10 * u + v, new int[] {u, v});
                }
            }
        }
        return acts;
    }

    private static boolean hasGuardedNeighbour(String nodes, boolean[][] links, int v) {
        for (int u = 0; u < nodes.length(); u++) {
            if (links[u][v] && nodes.charAt(u) == 'g') {
                return true;
            }
        }
        return false;
    }

    /** 0, NOT or FULL. */
    private static int ruling(int[] act, String nodes, boolean[][] links, int kind, int team) {
        int from = act[0];
        int to = act[1];
        if (from >= 0 && nodes.charAt(from) != 'g' || to >= 0 && nodes.charAt(to) == 'g') {
            return NOT;
        }
        if (from >= 0 && to >= 0) {
            return kind == 1 && links[from][to] ? 0 : NOT;
        }
        if (to < 0) {
            return kind == 1 && from != 0 ? NOT : 0;
        }
        boolean isPlace = kind == 0 || to == 0 || kind == 2 && hasGuardedNeighbour(nodes, links, to);
        return !isPlace ? NOT : guards(nodes) >= team ? FULL : 0;
    }

    private static String done(int[] act, String nodes, boolean[][] links) {
        StringBuilder s = new StringBuilder(nodes);
        if (act[0] >= 0) {
            s.setCharAt(act[0], 'c');
        }
        if (act[1] >= 0) {
            s.setCharAt(act[1], 'g');
        }
        return fouled(s.toString(), links);
    }

    int node(int v, int what) {
        int n = size(all);
        if (v < 0 || v >= n || what < 0 || what > 2) {
            return BAD;
        }
        if (what == 0) {
            return "fcg".indexOf(all.nodes.charAt(v));
        }
        int set = 0;
        for (int u = 0; u < n; u++) {
            if (all.links[u][v]) {
                set |= 1 << u;
            }
        }
        return what == 1 ? set : part(v);
    }

    /** Of each node the least node of its part. */
    private int[] labels() {
        int[] label = new int[size(all)];
        for (int u = 0; u < label.length; u++) {
            label[u] = u;
        }
        for (int turn = 0; turn < label.length; turn++) {
            for (int u = 0; u < label.length; u++) {
                for (int w = 0; w < label.length; w++) {
                    if (all.links[u][w]) {
                        label[u] = Math.min(label[u], label[w]);
                    }
                }
            }
        }
        return label;
    }

    /** A part's number is its place among the parts, put in order by their least nodes. */
    private int part(int v) {
        int[] label = labels();
        return new TreeSet<>(Arrays.stream(label).boxed().toList()).headSet(label[v]).size();
    }

    private int links() {
        int links = 0;
        for (int u = 0; u < size(all); u++) {
            for (int v = 0; v < u; v++) {
                links += all.links[u][v] ? 1 : 0;
            }
        }
        return links;
    }

    int count(int what) {
        int clean = 0;
        int guarded = 0;
        int parts = (int) Arrays.stream(labels()).distinct().count();
        for (int v = 0; v < size(all); v++) {
            clean += all.nodes.charAt(v) != 'f' ? 1 << v : 0;
            guarded += all.nodes.charAt(v) == 'g' ? 1 << v : 0;
        }
        int[] answers = {size(all), links(), parts, clean, guarded, all.kind, all.team, past.size()};
        return what < 0 || what >= answers.length ? BAD : answers[what];
    }

    private int rulingNow(int number) {
        int[] act = actsOf(size(all)).get((long) number);
        return act == null ? BAD : ruling(act, all.nodes, all.links, all.kind, all.team);
    }

    int would(int number) {
        int ruling = rulingNow(number);
        if (ruling != 0) {
            return ruling;
        }
        return newlyFoul(all.nodes, done(actsOf(size(all)).get((long) number), all.nodes, all.links));
    }

    // ---- plans

    private static List<Step> steps(String from, boolean[][] links, int kind, int team, boolean steady) {
        List<Step> steps = new ArrayList<>();
        for (Map.Entry<Long, int[]> e : actsOf(from.length()).entrySet()) {
            if (ruling(e.getValue(), from, links, kind, team) == 0) {
                String next = done(e.getValue(), from, links);
                if (!steady || newlyFoul(from, next) == 0) {
                    steps.add(new Step(e.getKey().intValue(), next));
                }
            }
        }
        return steps;
    }

    /** The least row of the fewest acts from a state to all clean, or null: by how far each state is from the end. */
    private static List<Integer> way(String start, boolean[][] links, int kind, int team, boolean steady) {
        String key = start + Arrays.deepToString(links) + kind + team + steady;
        if (!KNOWN_PLANS.containsKey(key)) {
            KNOWN_PLANS.put(key, newWay(start, links, kind, team, steady));
        }
        return KNOWN_PLANS.get(key);
    }

    private static List<Integer> newWay(String start, boolean[][] links, int kind, int team, boolean steady) {
        Map<String, List<Step>> out = new HashMap<>();
        Map<String, List<String>> into = new HashMap<>();
        ArrayDeque<String> open = new ArrayDeque<>();
        open.push(start);
        out.put(start, null);
        while (!open.isEmpty()) {
            String at = open.pop();
            List<Step> steps = steps(at, links, kind, team, steady);
            out.put(at, steps);
            for (Step step : steps) {
                into.computeIfAbsent(step.next, k -> new ArrayList<>()).add(at);
                if (!out.containsKey(step.next)) {
                    out.put(step.next, null);
                    open.push(step.next);
                }
            }
        }
        Map<String, Integer> far = new HashMap<>();
        ArrayDeque<String> row = new ArrayDeque<>();
        for (String state : out.keySet()) {
            if (state.indexOf('f') < 0) {
                far.put(state, 0);
                row.add(state);
            }
        }
        while (!row.isEmpty()) {
            String at = row.remove();
            for (String before : into.getOrDefault(at, List.of())) {
                if (far.putIfAbsent(before, far.get(at) + 1) == null) {
                    row.add(before);
                }
            }
        }
        return far.containsKey(start) ? downhill(start, out, far) : null;
    }

    private static List<Integer> downhill(String start, Map<String, List<Step>> out, Map<String, Integer> far) {
        List<Integer> acts = new ArrayList<>();
        String at = start;
        while (far.get(at) > 0) {
            for (Step step : out.get(at)) {
                if (far.getOrDefault(step.next, 9999) == far.get(at) - 1) {
                    acts.add(step.act);
                    at = step.next;
                    break;
                }
            }
        }
        return acts;
    }

    private List<Integer> planBy(int kind, int team, int steady) {
        return way("f".repeat(size(all)), all.links, kind, team, steady == 1);
    }

    int team(int kind, int steady) {
        if (kind < 0 || kind > 2 || steady < 0 || steady > 1) {
            return BAD;
        }
        for (int t = 1; t <= size(all); t++) {
            if (planBy(kind, t, steady) != null) {
                return t;
            }
        }
        return NONE;
    }

    int fewest(int kind, int t, int steady) {
        if (kind < 0 || kind > 2 || steady < 0 || steady > 1 || t < 1 || t > 7) {
            return BAD;
        }
        List<Integer> plan = planBy(kind, t, steady);
        return plan == null ? NONE : plan.size();
    }

    int plan(int kind, int steady, int k) {
        int t = team(kind, steady);
        if (t == BAD || k < 0) {
            return BAD;
        }
        if (t == NONE) {
            return NONE;
        }
        List<Integer> plan = planBy(kind, t, steady);
        return k < plan.size() ? plan.get(k) : NONE;
    }

    int rest(int what) {
        if (what < 0 || what > 1) {
            return BAD;
        }
        List<Integer> way = way(all.nodes, all.links, all.kind, all.team, false);
        if (way == null || what == 1 && way.isEmpty()) {
            return NONE;
        }
        return what == 0 ? way.size() : way.get(0);
    }

    int lost(int c, int what) {
        if (c < 0 || c > 10 || what < 0 || what > 1) {
            return BAD;
        }
        long above = ways(all.nodes, 0, c);
        long below = 1;
        for (int k = 0; k < guards(all.nodes); k++) {
            below *= 10;
        }
        for (int prime : new int[] {2, 5}) {
            while (below % prime == 0 && above % prime == 0) {
                below /= prime;
                above /= prime;
            }
        }
        return (int) (what == 0 ? above : below);
    }

    private long ways(String nodes, int from, int c) {
        int guard = nodes.indexOf('g', from);
        if (guard < 0) {
            return newlyFoul(all.nodes, fouled(nodes, all.links)) == 0 ? 1 : 0;
        }
        String failed = nodes.substring(0, guard) + 'c' + nodes.substring(guard + 1);
        return c * ways(failed, guard + 1, c) + (10 - c) * ways(nodes, guard + 1, c);
    }

    // ---- what is done

    private void become(All next) {
        past.add(all);
        if (past.size() > 6) {
            past.remove(0);
        }
        all = next;
    }

    int act(int number) {
        int ruling = rulingNow(number);
        if (ruling != 0) {
            return ruling;
        }
        String before = all.nodes;
        become(all.with(done(actsOf(size(all)).get((long) number), before, all.links)));
        return newlyFoul(before, all.nodes);
    }

    private static boolean[][] turned(boolean[][] links, int u, int v) {
        boolean[][] turned = new boolean[links.length][];
        for (int k = 0; k < links.length; k++) {
            turned[k] = links[k].clone();
        }
        turned[u][v] = !turned[u][v];
        turned[v][u] = turned[u][v];
        return turned;
    }

    int link(int one, int other, int v) {
        int n = size(all);
        if (one < 0 || one >= n || other < 0 || other >= n || one == other || v < 0 || v > 1) {
            return BAD;
        }
        if (all.links[one][other] == (v == 1)) {
            return NOT;
        }
        boolean[][] links = turned(all.links, one, other);
        String before = all.nodes;
        become(new All(fouled(before, links), links, all.kind, all.team, all.draw));
        return newlyFoul(before, all.nodes);
    }

    int tell(int what, int v) {
        if (what < 0 || what > 1 || what == 0 && (v < 0 || v > 2) || what == 1 && (v < 1 || v > 7)) {
            return BAD;
        }
        int was = what == 0 ? all.kind : all.team;
        if (was == v) {
            return NOT;
        }
        become(new All(all.nodes, all.links, what == 0 ? v : all.kind, what == 1 ? v : all.team, all.draw));
        return was;
    }

    int type(int letter) {
        if (letter < 32 || letter > 126) {
            return BAD;
        }
        if (tape.length() == 90) {
            return FULL;
        }
        tape += (char) letter;
        return tape.length();
    }

    int read() {
        String text = tape;
        tape = "";
        SlowText told = new SlowText(text);
        if (told.fault >= 0) {
            return -20 - told.fault;
        }
        become(new All("f".repeat(told.n), told.links, all.kind, all.team, all.draw));
        return links();
    }

    int drift(int n) {
        if (n < 1 || n > 40) {
            return BAD;
        }
        for (int k = 0; k < n; k++) {
            long draw = (all.draw * 1103515245L + 12345L) % (1L << 31);
            long x = draw >> 16;
            int a = (int) (x % size(all));
            int b = (int) ((x >> 3) % size(all));
            boolean[][] links = a == b ? all.links : turned(all.links, a, b);
            become(new All(fouled(all.nodes, links), links, all.kind, all.team, draw));
        }
        return links();
    }

    int undo() {
        if (past.isEmpty()) {
            return NONE;
        }
        all = past.remove(past.size() - 1);
        return past.size();
    }

    int seed(int v) {
        if (v < 0) {
            return BAD;
        }
        int was = (int) all.draw;
        all = new All(all.nodes, all.links, all.kind, all.team, v);
        return was;
    }

    int image() {
        saved = new Saved(all, new ArrayList<>(past));
        return 1;
    }

    int restore() {
        if (saved == null) {
            return NONE;
        }
        all = saved.all;
        past = new ArrayList<>(saved.past);
        return 1;
    }

    // ---- sheets

    private static int lengthOf(Object row) {
        return java.lang.reflect.Array.getLength(row);
    }

    private static int laneOf(Object row) {
        return row instanceof byte[] ? 0 : row instanceof short[] ? 1 : row instanceof int[] ? 2 : 3;
    }

    private int wrong(int sheet, int lane, long i, long n) {
        Object row = sheets[sheet];
        if (row == null) {
            return NULL;
        }
        return laneOf(row) != lane ? CAST : n < 0 || i < 0 || i + n > lengthOf(row) ? INDEX : 0;
    }

    private static void set(Object row, int i, long v) {
        switch (laneOf(row)) {
            case 0 -> ((byte[]) row)[i] = (byte) v;
            case 1 -> ((short[]) row)[i] = (short) v;
            case 2 -> ((int[]) row)[i] = (int) v;
            default -> ((long[]) row)[i] = v;
        }
    }

    private static boolean isBadSheet(int sheet, int lane) {
        return sheet < 0 || sheet > 3 || lane < 0 || lane > 3;
    }

    int allowed(int sheet, int lane, int i, int n) {
        if (isBadSheet(sheet, lane) || n < 1 || n > 12) {
            return BAD;
        }
        int wrong = wrong(sheet, lane, i, n);
        if (wrong != 0) {
            return wrong;
        }
        List<int[]> acts = new ArrayList<>();
        for (int k = i; k < i + n; k++) {
            int[] act = actsOf(size(all)).get(java.lang.reflect.Array.getLong(sheets[sheet], k));
            if (act == null) {
                return NOT;
            }
            acts.add(act);
        }
        int kinds = 7;
        for (int kind = 0; kind < 3; kind++) {
            String nodes = "f".repeat(size(all));
            for (int[] act : acts) {
                if (ruling(act, nodes, all.links, kind, all.team) != 0) {
                    kinds &= ~(1 << kind);
                    break;
                }
                nodes = done(act, nodes, all.links);
            }
        }
        return kinds;
    }

    int film(int sheet, int lane, int i) {
        if (isBadSheet(sheet, lane)) {
            return BAD;
        }
        int wrong = wrong(sheet, lane, i, size(all));
        if (wrong != 0) {
            return wrong;
        }
        for (int v = 0; v < size(all); v++) {
            set(sheets[sheet], i + v, node(v, 0));
        }
        return size(all);
    }

    int sheet(int sheet, int lane, int n) {
        if (isBadSheet(sheet, lane) || n > 24) {
            return BAD;
        }
        if (n < 0) {
            return SIZE;
        }
        sheets[sheet] = lane == 0 ? new byte[n] : lane == 1 ? new short[n] : lane == 2 ? new int[n] : new long[n];
        return n;
    }

    int drop(int sheet) {
        if (isBadSheet(sheet, 0)) {
            return BAD;
        }
        if (sheets[sheet] == null) {
            return NULL;
        }
        int had = lengthOf(sheets[sheet]);
        sheets[sheet] = null;
        return had;
    }

    int item(int sheet, int lane, int i, long v) {
        if (isBadSheet(sheet, lane)) {
            return BAD;
        }
        int wrong = wrong(sheet, lane, i, 1);
        if (wrong != 0) {
            return wrong;
        }
        set(sheets[sheet], i, v);
        return 1;
    }

    int copy(int from, int i, int to, int j, int n) {
        if (isBadSheet(from, 0) || isBadSheet(to, 0)) {
            return BAD;
        }
        if (sheets[from] == null || sheets[to] == null) {
            return NULL;
        }
        int wrong = wrong(to, laneOf(sheets[from]), j, n);
        if (wrong == 0) {
            wrong = wrong(from, laneOf(sheets[from]), i, n);
        }
        if (wrong != 0) {
            return wrong;
        }
        System.arraycopy(sheets[from], i, sheets[to], j, n);
        return n;
    }
}
