/**
 * A net made clean by guards. What each call answers is said in the document, ../shared/DOC.md; sets
 * (of nodes, of kinds) are bits. Nothing is made behind the constructor: every row is used again.
 */
public final class CleanNets {
    public static final int BAD = -1, NOT = -2, FULL = -3, NONE = -4, NULL = -11, CAST = -12, INDEX = -13, SIZE = -14;

    private static final int FINE = 0;
    private static final int MOST_NODES = 7;
    private static final int SETS = 1 << MOST_NODES;
    private static final int KINDS = 3;
    private static final int FREE = 0;
    private static final int WALKING = 1;
    private static final int MOST_TEAM = 7;
    private static final int HOME_ALONE = 1;
    private static final int TAKE = 10;
    private static final int MOVE = 100;
    private static final int MOST_TURNS = 40;
    private static final int LOWEST_31_BITS = 0x7fffffff;
    private static final int MOST_TOLD = 12;
    private static final int KNOWN = 6;
    private static final int LETTERS = 90;
    private static final int FAULT = -20;
    private static final int SHEETS = 4;
    private static final int LANES = 4;
    private static final int ITEMS = 24;

    private final Standing now = new Standing();
    private final Past past = new Past();
    private final Standing kept = new Standing();
    private final Past keptPast = new Past();
    private boolean hasImage = false;
    private final Plans plans = new Plans();
    private final Net net = plans.net;
    private final Tape tape = new Tape();
    private final Sheet[] sheets = new Sheet[SHEETS];

    public CleanNets() {
        for (int k = 0; k < SHEETS; k++) {
            sheets[k] = new Sheet();
        }
    }

    // ---- 1 the net

    public int node(int v, int what) {
        if (!isNode(v)) {
            return BAD;
        }
        switch (what) {
            case 0: return now.look(v);
            case 1: return now.near[v];
            case 2: return currentNet().partOf(v);
            default: return BAD;
        }
    }

    public int count(int what) {
        switch (what) {
            case 0: return now.nodes;
            case 1: return now.links();
            case 2: return currentNet().parts();
            case 3: return now.clean;
            case 4: return now.guards;
            case 5: return now.kind;
            case 6: return now.team;
            case 7: return past.known;
            default: return BAD;
        }
    }

    public int would(int act) {
        int ruling = rulingNow(act);
        if (ruling != FINE) {
            return ruling;
        }
        int guards = Net.guardsAfter(act, now.guards);
        return Integer.bitCount(now.clean & ~net.settled(now.clean | guards, guards));
    }

    // ---- 2 plans

    public int team(int kind, int steady) {
        if (!isKind(kind) || !isOneOfTwo(steady)) {
            return BAD;
        }
        currentNet();
        return plans.leastTeam(kind, steady);
    }

    public int fewest(int kind, int t, int steady) {
        if (!isKind(kind) || !isTeam(t) || !isOneOfTwo(steady)) {
            return BAD;
        }
        currentNet();
        return plans.fewestActs(kind, t, steady);
    }

    public int plan(int kind, int steady, int k) {
        if (!isKind(kind) || !isOneOfTwo(steady) || k < 0) {
            return BAD;
        }
        currentNet();
        int team = plans.leastTeam(kind, steady);
        return team == NONE ? NONE : plans.actOf(kind, team, steady, k);
    }

    public int rest(int what) {
        if (!isOneOfTwo(what)) {
            return BAD;
        }
        currentNet();
        return what == 0 ? plans.restOf(now) : plans.firstOfRest(now);
    }

    public int lost(int c, int what) {
        if (c < 0 || c > 10 || !isOneOfTwo(what)) {
            return BAD;
        }
        int above = oddsOfTenths(c);
        int below = power(10, Integer.bitCount(now.guards));
        int part = what == 0 ? above : below;
        int common = commonDivisor(above, below);
        return common == 0 ? part : part / common;
    }

    // ---- 3 what is done

    public int act(int number) {
        int ruling = rulingNow(number);
        if (ruling != FINE) {
            return ruling;
        }
        past.remember(now);
        now.guards = Net.guardsAfter(number, now.guards);
        now.clean |= now.guards;
        return letFoul();
    }

    public int link(int one, int other, int v) {
        if (!isNode(one) || !isNode(other) || one == other || !isOneOfTwo(v)) {
            return BAD;
        }
        if (now.areLinked(one, other) == (v == 1)) {
            return NOT;
        }
        past.remember(now);
        now.turnLink(one, other);
        return letFoul();
    }

    public int tell(int what, int v) {
        if (!isOneOfTwo(what) || !(what == 0 ? isKind(v) : isTeam(v))) {
            return BAD;
        }
        int was = what == 0 ? now.kind : now.team;
        if (was == v) {
            return NOT;
        }
        past.remember(now);
        if (what == 0) {
            now.kind = v;
        } else {
            now.team = v;
        }
        return was;
    }

    public int type(int letter) {
        if (letter < 32 || letter > 126) {
            return BAD;
        }
        return tape.takes(letter) ? tape.length : FULL;
    }

    public int read() {
        int fault = tape.faultOfText();
        tape.length = 0;
        if (fault != Tape.SOUND) {
            return FAULT - fault;
        }
        past.remember(now);
        now.beNewNet(tape.nodes, tape.near);
        return now.links();
    }

    public int drift(int n) {
        if (n < 1 || n > MOST_TURNS) {
            return BAD;
        }
        for (int turn = 0; turn < n; turn++) {
            past.remember(now);
            driftOnce();
        }
        return now.links();
    }

    public int undo() {
        return past.giveBack(now) ? past.known : NONE;
    }

    public int seed(int v) {
        if (v < 0) {
            return BAD;
        }
        int was = now.draw;
        now.draw = v;
        return was;
    }

    public int image() {
        kept.become(now);
        keptPast.become(past);
        hasImage = true;
        return 1;
    }

    public int restore() {
        if (!hasImage) {
            return NONE;
        }
        now.become(kept);
        past.become(keptPast);
        return 1;
    }

    // ---- sheets

    public int allowed(int sheet, int lane, int i, int n) {
        if (!isSheet(sheet) || !isLane(lane) || n < 1 || n > MOST_TOLD) {
            return BAD;
        }
        Sheet row = sheets[sheet];
        int wrong = row.wrongAs(lane, i, n);
        if (wrong != FINE) {
            return wrong;
        }
        currentNet();
        for (int k = i; k < i + n; k++) {
            if (!net.isAct(row.items[k])) {
                return NOT;
            }
        }
        int kinds = 0;
        for (int kind = 0; kind < KINDS; kind++) {
            if (allAllowed(row, i, n, kind)) {
                kinds |= 1 << kind;
            }
        }
        return kinds;
    }

    public int film(int sheet, int lane, int i) {
        if (!isSheet(sheet) || !isLane(lane)) {
            return BAD;
        }
        Sheet row = sheets[sheet];
        int wrong = row.wrongAs(lane, i, now.nodes);
        if (wrong != FINE) {
            return wrong;
        }
        for (int v = 0; v < now.nodes; v++) {
            row.items[i + v] = now.look(v);
        }
        return now.nodes;
    }

    public int sheet(int sheet, int lane, int n) {
        if (!isSheet(sheet) || !isLane(lane) || n > ITEMS) {
            return BAD;
        }
        if (n < 0) {
            return SIZE;
        }
        sheets[sheet].begin(lane, n);
        return n;
    }

    public int drop(int sheet) {
        if (!isSheet(sheet)) {
            return BAD;
        }
        Sheet row = sheets[sheet];
        if (row.isMissing()) {
            return NULL;
        }
        row.lane = Sheet.MISSING;
        return row.length;
    }

    public int item(int sheet, int lane, int i, long v) {
        if (!isSheet(sheet) || !isLane(lane)) {
            return BAD;
        }
        Sheet row = sheets[sheet];
        int wrong = row.wrongAs(lane, i, 1);
        if (wrong != FINE) {
            return wrong;
        }
        row.items[i] = Sheet.lowestBits(lane, v);
        return 1;
    }

    public int copy(int from, int i, int to, int j, int n) {
        if (!isSheet(from) || !isSheet(to)) {
            return BAD;
        }
        Sheet source = sheets[from];
        Sheet target = sheets[to];
        if (source.isMissing() || target.isMissing()) {
            return NULL;
        }
        if (source.lane != target.lane) {
            return CAST;
        }
        if (!source.holds(i, n) || !target.holds(j, n)) {
            return INDEX;
        }
        System.arraycopy(source.items, i, target.items, j, n);
        return n;
    }

    // ---- what the calls share

    private boolean isNode(int v) {
        return v >= 0 && v < now.nodes;
    }

    private static boolean isKind(int kind) {
        return kind >= 0 && kind < KINDS;
    }

    private static boolean isTeam(int team) {
        return team >= 1 && team <= MOST_TEAM;
    }

    private static boolean isOneOfTwo(int choice) {
        return choice == 0 || choice == 1;
    }

    private static boolean isSheet(int sheet) {
        return sheet >= 0 && sheet < SHEETS;
    }

    private static boolean isLane(int lane) {
        return lane >= 0 && lane < LANES;
    }

    private static boolean has(int set, int v) {
        return (set >> v & 1) != 0;
    }

    private Net currentNet() {
        net.follow(now);
        return net;
    }

    private int rulingNow(int number) {
        currentNet();
        return net.isAct(number) ? net.ruling(number, now.guards, now.kind, now.team) : BAD;
    }

    /** FOULING comes: how many have become foul. A node that an act makes clean is guarded then, so it never counts. */
    private int letFoul() {
        int before = now.clean;
        now.clean = currentNet().settled(before, now.guards);
        return Integer.bitCount(before & ~now.clean);
    }

    private void driftOnce() {
        now.draw = now.draw * 1103515245 + 12345 & LOWEST_31_BITS;
        int x = now.draw / 65536;
        if (now.nodes < 2) {
            return;
        }
        int one = x % now.nodes;
        int other = x / 8 % now.nodes;
        if (one != other) {
            now.turnLink(one, other);
            letFoul();
        }
    }

    /** Of ten to the power of the guards' number so many ways in which nothing clean is lost. */
    private int oddsOfTenths(int c) {
        currentNet();
        int guards = Integer.bitCount(now.guards);
        int ways = 0;
        for (int failed = 0; failed < SETS; failed++) {
            boolean isOfGuards = (failed & ~now.guards) == 0;
            if (isOfGuards && net.settled(now.clean, now.guards & ~failed) == now.clean) {
                int fails = Integer.bitCount(failed);
                ways += power(c, fails) * power(10 - c, guards - fails);
            }
        }
        return ways;
    }

    private static int power(int base, int times) {
        int product = 1;
        for (int k = 0; k < times; k++) {
            product *= base;
        }
        return product;
    }

    private static int commonDivisor(int one, int other) {
        int greater = one;
        int less = other;
        for (int k = 0; k < 64 && less != 0; k++) {
            int left = greater % less;
            greater = less;
            less = left;
        }
        return greater;
    }

    private boolean allAllowed(Sheet row, int i, int n, int kind) {
        int guards = 0;
        for (int k = i; k < i + n; k++) {
            int number = (int) row.items[k];
            if (net.ruling(number, guards, kind, now.team) != FINE) {
                return false;
            }
            guards = Net.guardsAfter(number, guards);
        }
        return true;
    }

    /** All that UNDONE gives back: the net, its nodes, kind, team, draw. */
    private static final class Standing {
        int nodes = 2;
        final int[] near = new int[MOST_NODES];
        int clean = 0;
        int guards = 0;
        int kind = FREE;
        int team = 2;
        int draw = 1;

        void become(Standing other) {
            nodes = other.nodes;
            System.arraycopy(other.near, 0, near, 0, MOST_NODES);
            clean = other.clean;
            guards = other.guards;
            kind = other.kind;
            team = other.team;
            draw = other.draw;
        }

        void beNewNet(int newNodes, int[] newNear) {
            nodes = newNodes;
            System.arraycopy(newNear, 0, near, 0, MOST_NODES);
            clean = 0;
            guards = 0;
        }

        int look(int v) {
            return (clean >> v & 1) + (guards >> v & 1);
        }

        int links() {
            int ends = 0;
            for (int v = 0; v < nodes; v++) {
                ends += Integer.bitCount(near[v]);
            }
            return ends / 2;
        }

        boolean areLinked(int one, int other) {
            return has(near[one], other);
        }

        void turnLink(int one, int other) {
            near[one] ^= 1 << other;
            near[other] ^= 1 << one;
        }
    }

    /** What may be undone, the latest last. */
    private static final class Past {
        int known = 0;
        private final Standing[] rows = new Standing[KNOWN];

        Past() {
            for (int k = 0; k < KNOWN; k++) {
                rows[k] = new Standing();
            }
        }

        void remember(Standing standing) {
            if (known == KNOWN) {
                loseOldest();
            }
            rows[known].become(standing);
            known++;
        }

        private void loseOldest() {
            Standing oldest = rows[0];
            for (int k = 1; k < KNOWN; k++) {
                rows[k - 1] = rows[k];
            }
            rows[KNOWN - 1] = oldest;
            known--;
        }

        boolean giveBack(Standing standing) {
            if (known == 0) {
                return false;
            }
            known--;
            standing.become(rows[known]);
            return true;
        }

        void become(Past other) {
            known = other.known;
            for (int k = 0; k < known; k++) {
                rows[k].become(other.rows[k]);
            }
        }
    }

    /** The links of a net, worked out so that searches are quick, and what they and the kinds of rules allow. */
    private static final class Net {
        int nodes = 0;
        int all = 0;
        /** Another one for each net, so that what was found for an older one is known to be stale. */
        int edition = 0;
        private final int[] near = new int[MOST_NODES];
        /** Of each set of nodes all that are linked to one of them. */
        private final int[] beside = new int[SETS];

        void follow(Standing standing) {
            if (!isOf(standing)) {
                learn(standing);
            }
        }

        private boolean isOf(Standing standing) {
            boolean same = nodes == standing.nodes;
            for (int v = 0; v < MOST_NODES && same; v++) {
                same = near[v] == standing.near[v];
            }
            return same;
        }

        private void learn(Standing standing) {
            nodes = standing.nodes;
            all = (1 << nodes) - 1;
            edition++;
            for (int v = 0; v < MOST_NODES; v++) {
                near[v] = standing.near[v];
                int bit = 1 << v;
                for (int set = 0; set < bit; set++) {
                    beside[bit + set] = beside[set] | near[v];
                }
            }
        }

        /** What FOULING leaves clean: each turn that goes on makes one foul at least. */
        int settled(int clean, int guards) {
            int left = clean & all;
            for (int turn = 0; turn < MOST_NODES; turn++) {
                int reached = beside[all & ~left] & left & ~guards;
                if (reached == 0) {
                    break;
                }
                left &= ~reached;
            }
            return left;
        }

        int partOf(int v) {
            return partsBelow(leastOfPart(v));
        }

        int parts() {
            return partsBelow(nodes);
        }

        /** How many parts have their least node below this one: so parts are numbered without a gap. */
        private int partsBelow(int end) {
            int parts = 0;
            for (int v = 0; v < end; v++) {
                if (leastOfPart(v) == v) {
                    parts++;
                }
            }
            return parts;
        }

        private int leastOfPart(int v) {
            int part = 1 << v;
            for (int turn = 0; turn < MOST_NODES; turn++) {
                part |= beside[part & all];
            }
            int least = 0;
            while (least < v && !has(part, least)) {
                least++;
            }
            return least;
        }

        boolean isAct(long number) {
            if (number < 0) {
                return false;
            }
            if (number < TAKE) {
                return number < nodes;
            }
            if (number < MOVE) {
                return number < TAKE + nodes;
            }
            long from = (number - MOVE) / 10;
            long to = number % 10;
            return from < nodes && to < nodes && from != to;
        }

        /** Of an act that there is: FINE, NOT, or FULL. */
        int ruling(int number, int guards, int kind, int team) {
            if (number < TAKE) {
                if (!has(puts(guards, kind), number)) {
                    return NOT;
                }
                return isFull(guards, team) ? FULL : FINE;
            }
            if (number < MOVE) {
                return has(takes(guards, kind), number - TAKE) ? FINE : NOT;
            }
            return has(moves((number - MOVE) / 10, guards, kind), number % 10) ? FINE : NOT;
        }

        static boolean isFull(int guards, int team) {
            return Integer.bitCount(guards) >= team;
        }

        int puts(int guards, int kind) {
            if (kind == FREE) {
                return all & ~guards;
            }
            int places = kind == WALKING ? HOME_ALONE : HOME_ALONE | beside[guards & all];
            return places & ~guards;
        }

        static int takes(int guards, int kind) {
            return kind == WALKING ? guards & HOME_ALONE : guards;
        }

        /** Where a guard on this node may move to: nowhere, if there is none. */
        int moves(int from, int guards, int kind) {
            boolean isHere = from >= 0 && from < nodes && has(guards, from);
            return kind == WALKING && isHere ? near[from] & ~guards : 0;
        }

        static int guardsAfter(int number, int guards) {
            if (number < TAKE) {
                return guards | 1 << number;
            }
            if (number < MOVE) {
                return guards & ~(1 << number - TAKE);
            }
            return guards & ~(1 << (number - MOVE) / 10) | 1 << number % 10;
        }
    }

    /**
     * Looks for the way to all clean, nearest states first and of each state its least acts first: so each state is
     * found by the least row of the fewest acts, and the first one that is all clean by that of THE PLAN.
     */
    private static final class Search {
        /** As many as there are nets' states: each node foul, clean or guarded. */
        private static final int STATES = 2187;
        private static final int WORDS = SETS * SETS / 64;
        private static final int NOWHERE = -1;
        private static final int ACT_BITS = 8;

        final Net net = new Net();
        private final int[] states = new int[STATES];
        /** By which act a state was found, and above it from which state on. */
        private final int[] steps = new int[STATES];
        private final long[] seen = new long[WORDS];
        private int found = 0;
        private int goal = NOWHERE;
        private boolean isSteady = false;

        void run(int clean, int guards, int kind, int team, boolean steady) {
            for (int k = 0; k < WORDS; k++) {
                seen[k] = 0;
            }
            found = 0;
            goal = NOWHERE;
            isSteady = steady;
            find(clean, guards, 0);
            for (int here = 0; here < found && here < STATES && goal == NOWHERE; here++) {
                leave(here, kind, team);
            }
        }

        private void leave(int here, int kind, int team) {
            int guards = states[here] % SETS;
            if (!Net.isFull(guards, team)) {
                doEach(here, 0, net.puts(guards, kind));
            }
            doEach(here, TAKE, Net.takes(guards, kind));
            for (int from = 0; from < net.nodes && kind == WALKING; from++) {
                doEach(here, MOVE + 10 * from, net.moves(from, guards, kind));
            }
        }

        /** The acts that are told as base and a place. */
        private void doEach(int here, int base, int places) {
            int clean = states[here] / SETS;
            int guards = states[here] % SETS;
            for (int v = 0; places >> v != 0 && v < MOST_NODES; v++) {
                if (has(places, v)) {
                    int after = Net.guardsAfter(base + v, guards);
                    int left = net.settled(clean | after, after);
                    if (!isSteady || (clean & ~left) == 0) {
                        find(left, after, here << ACT_BITS | base + v);
                    }
                }
            }
        }

        private void find(int clean, int guards, int step) {
            int state = clean * SETS + guards;
            long bit = 1L << (state & 63);
            if (found >= STATES || (seen[state >> 6] & bit) != 0) {
                return;
            }
            seen[state >> 6] |= bit;
            states[found] = state;
            steps[found] = step;
            if (goal == NOWHERE && clean == net.all) {
                goal = found;
            }
            found++;
        }

        /** How many acts lead to all clean, or NONE. */
        int acts() {
            if (goal == NOWHERE) {
                return NONE;
            }
            int acts = 0;
            for (int at = goal; at > 0 && acts < STATES; at = steps[at] >> ACT_BITS) {
                acts++;
            }
            return acts;
        }

        /** Act k of those that lead to all clean, or NONE. */
        int actAt(int k) {
            int acts = acts();
            if (k < 0 || k >= acts) {
                return NONE;
            }
            int at = goal;
            for (int behind = acts - 1; behind > k; behind--) {
                at = steps[at] >> ACT_BITS;
            }
            return steps[at] & (1 << ACT_BITS) - 1;
        }
    }

    /** Plans from all foul on, and the rest from elsewhere; how many acts were found is kept while the net stays. */
    private static final class Plans {
        private static final int UNKNOWN = 0;
        private static final int OTHER = -1;

        private final Search search = new Search();
        final Net net = search.net;
        private final int[] lengths = new int[KINDS * MOST_TEAM * 2];
        private int edition = 0;
        /** Whose plan the search holds. */
        private int held = OTHER;

        int fewestActs(int kind, int team, int steady) {
            forgetOlderNets();
            int key = keyOf(kind, team, steady);
            if (lengths[key] == UNKNOWN) {
                search.run(0, 0, kind, team, steady == 1);
                held = key;
                lengths[key] = search.acts();
            }
            return lengths[key];
        }

        int leastTeam(int kind, int steady) {
            for (int team = 1; team <= net.nodes; team++) {
                if (fewestActs(kind, team, steady) != NONE) {
                    return team;
                }
            }
            return NONE;
        }

        int actOf(int kind, int team, int steady, int k) {
            forgetOlderNets();
            int key = keyOf(kind, team, steady);
            if (held != key) {
                search.run(0, 0, kind, team, steady == 1);
                held = key;
            }
            return search.actAt(k);
        }

        int restOf(Standing standing) {
            searchFrom(standing);
            return search.acts();
        }

        int firstOfRest(Standing standing) {
            searchFrom(standing);
            return search.actAt(0);
        }

        private void searchFrom(Standing standing) {
            held = OTHER;
            search.run(standing.clean, standing.guards, standing.kind, standing.team, false);
        }

        private static int keyOf(int kind, int team, int steady) {
            return (kind * MOST_TEAM + team - 1) * 2 + steady;
        }

        private void forgetOlderNets() {
            if (edition == net.edition) {
                return;
            }
            edition = net.edition;
            held = OTHER;
            for (int k = 0; k < KINDS * MOST_TEAM * 2; k++) {
                lengths[k] = UNKNOWN;
            }
        }
    }

    /** The letters told so far, and the net that they tell as a text. */
    private static final class Tape {
        static final int SOUND = -1;
        private static final int MISSING = -1;
        private static final int NO_SHAPE = 0;
        private static final int PATH = 1;
        private static final int RING = 2;
        private static final int STAR = 3;
        private static final int ALL = 4;
        private static final int OPEN = 5;
        private static final int GRID = 6;

        int length = 0;
        int nodes = 0;
        final int[] near = new int[MOST_NODES];
        private final int[] letters = new int[LETTERS];
        private int at = 0;
        private int fault = SOUND;

        boolean takes(int letter) {
            if (length >= LETTERS) {
                return false;
            }
            letters[length] = letter;
            length++;
            return true;
        }

        /** The place of the first letter that can't stand there, or SOUND: then the net is what the text tells. */
        int faultOfText() {
            at = 0;
            fault = SOUND;
            nodes = 0;
            for (int v = 0; v < MOST_NODES; v++) {
                near[v] = 0;
            }
            readShape(readName());
            skipBlanks();
            if (fault == SOUND && at < length) {
                fault = at;
            }
            return fault;
        }

        private int readName() {
            skipBlanks();
            int start = at;
            while (at < length && letters[at] >= 'a' && letters[at] <= 'z') {
                at++;
            }
            int shape = shapeNamedFrom(start);
            if (shape == NO_SHAPE) {
                fault = start;
            }
            return shape;
        }

        private int shapeNamedFrom(int start) {
            if (isNameFrom(start, "path")) {
                return PATH;
            }
            if (isNameFrom(start, "ring")) {
                return RING;
            }
            if (isNameFrom(start, "star")) {
                return STAR;
            }
            if (isNameFrom(start, "all")) {
                return ALL;
            }
            if (isNameFrom(start, "net")) {
                return OPEN;
            }
            return isNameFrom(start, "grid") ? GRID : NO_SHAPE;
        }

        private boolean isNameFrom(int start, String name) {
            boolean same = at - start == name.length();
            for (int k = 0; same && k < name.length(); k++) {
                same = letters[start + k] == name.charAt(k);
            }
            return same;
        }

        private void readShape(int shape) {
            if (shape == NO_SHAPE) {
                return;
            }
            if (shape == GRID) {
                readGrid();
                return;
            }
            int figure = readFigure(shape == RING ? 3 : 2, MOST_NODES);
            if (figure == MISSING) {
                return;
            }
            nodes = figure;
            if (shape == OPEN) {
                readLinks();
            } else {
                joinAs(shape);
            }
        }

        private void joinAs(int shape) {
            for (int v = 1; v < nodes; v++) {
                for (int u = 0; u < v; u++) {
                    boolean isNext = v - u == 1;
                    boolean isRound = u == 0 && v == nodes - 1;
                    if (shape == ALL || shape == STAR && u == 0 || shape == PATH && isNext
                            || shape == RING && (isNext || isRound)) {
                        join(u, v);
                    }
                }
            }
        }

        private void readGrid() {
            int wide = readFigure(1, MOST_NODES);
            if (wide < 1) {
                return;
            }
            if (!skipsSign('*')) {
                fault = at;
                return;
            }
            int high = readFigure(wide == 1 ? 2 : 1, MOST_NODES / wide);
            if (high == MISSING) {
                return;
            }
            nodes = wide * high;
            for (int v = 0; v < nodes; v++) {
                if (v % wide != 0) {
                    join(v - 1, v);
                }
                if (v >= wide) {
                    join(v - wide, v);
                }
            }
        }

        private void readLinks() {
            boolean goesOn = skipsSign(':');
            for (int k = 0; k < LETTERS && goesOn; k++) {
                goesOn = readLink() && skipsSign(',');
            }
        }

        private boolean readLink() {
            int one = readFigure(0, nodes - 1);
            if (one == MISSING) {
                return false;
            }
            if (!skipsSign('-')) {
                fault = at;
                return false;
            }
            int other = readFigure(0, nodes - 1);
            if (other == MISSING) {
                return false;
            }
            if (one == other || has(near[one], other)) {
                fault = at - 1;
                return false;
            }
            join(one, other);
            return true;
        }

        private void join(int one, int other) {
            near[one] |= 1 << other;
            near[other] |= 1 << one;
        }

        private void skipBlanks() {
            while (at < length && letters[at] == ' ') {
                at++;
            }
        }

        /** Whether this sign comes next: then it's behind us. */
        private boolean skipsSign(int sign) {
            skipBlanks();
            boolean isNext = at < length && letters[at] == sign;
            if (isNext) {
                at++;
            }
            return isNext;
        }

        private int readFigure(int least, int most) {
            skipBlanks();
            if (at >= length || letters[at] < '0' + least || letters[at] > '0' + most) {
                fault = at;
                return MISSING;
            }
            at++;
            return letters[at - 1] - '0';
        }
    }

    /** A row of a lane, or missing; its items are held as longs whatever the lane. */
    private static final class Sheet {
        static final int MISSING = -1;

        int lane = MISSING;
        int length = 0;
        final long[] items = new long[ITEMS];

        void begin(int newLane, int newLength) {
            lane = newLane;
            length = newLength;
            for (int k = 0; k < ITEMS; k++) {
                items[k] = 0;
            }
        }

        boolean isMissing() {
            return lane == MISSING;
        }

        /** Whether there are n items from i on; i is looked at if n is 0, too. */
        boolean holds(int i, int n) {
            return n >= 0 && i >= 0 && i <= length - n;
        }

        int wrongAs(int wantedLane, int i, int n) {
            if (isMissing()) {
                return NULL;
            }
            if (lane != wantedLane) {
                return CAST;
            }
            return holds(i, n) ? FINE : INDEX;
        }

        static long lowestBits(int lane, long v) {
            switch (lane) {
                case 0: return (byte) v;
                case 1: return (short) v;
                case 2: return (int) v;
                default: return v;
            }
        }
    }
}
