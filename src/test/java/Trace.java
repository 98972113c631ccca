/**
 * All that calls can tell of an object, as texts of several parts. Each part is asked of an object of its own, as some
 * of them change it, and with so few calls that it stays within the 512 that are promised.
 */
final class Trace {
    static final int NET = 0, PAST = 1, IMAGE = 2, TAPE = 3, SHEETS = 4;
    static final int PARTS = 8;
    private static final int NO_ACT = -1;
    private static final int SOME_MOVE = 100;

    private Trace() {
    }

    static String of(CleanNets x, int part) {
        StringBuilder told = new StringBuilder();
        switch (part) {
            case NET: net(x, told); break;
            case PAST: past(x, told); break;
            case IMAGE: told.append("restore ").append(x.restore()); past(x, told); break;
            case TAPE: tape(x, told); break;
            default: sheet(x, part - SHEETS, told); break;
        }
        return told.toString();
    }

    private static void standing(CleanNets x, StringBuilder told) {
        told.append(" counts");
        for (int what = 0; what < 8; what++) {
            told.append(' ').append(x.count(what));
        }
        for (int v = 0; v < x.count(0); v++) {
            told.append(" node ").append(x.node(v, 0)).append(' ').append(x.node(v, 1));
        }
    }

    private static void net(CleanNets x, StringBuilder told) {
        standing(x, told);
        int n = x.count(0);
        for (int v = 0; v < n; v++) {
            told.append(" part ").append(x.node(v, 2));
            told.append(" would ").append(x.would(v)).append(' ').append(x.would(10 + v));
            for (int u = 0; u < n; u++) {
                told.append(' ').append(x.would(100 + 10 * u + v));
            }
        }
        told.append(" rest ").append(x.rest(0)).append(' ').append(x.rest(1));
        told.append(" lost ").append(x.lost(3, 0)).append(' ').append(x.lost(3, 1));
        for (int kind = 0; kind < 3; kind++) {
            for (int steady = 0; steady < 2; steady++) {
                told.append(" team ").append(x.team(kind, steady)).append(" fewest ").append(x.fewest(kind, 2, steady));
                told.append(" plan ").append(x.plan(kind, steady, 0)).append(' ').append(x.plan(kind, steady, 3));
            }
        }
        told.append(" draw ").append(x.seed(0));
    }

    private static void past(CleanNets x, StringBuilder told) {
        int left = 0;
        for (int back = 0; back < 9 && left >= 0; back++) {
            standing(x, told);
            told.append(" draw ").append(x.seed(0));
            left = x.undo();
            told.append(" undo ").append(left);
        }
    }

    /** A figure more makes a whole text of those that the ways leave behind. */
    private static void tape(CleanNets x, StringBuilder told) {
        told.append("type ").append(x.type('2')).append(" read ").append(x.read());
        standing(x, told);
        told.append(" type ").append(x.type('2'));
    }

    private static void sheet(CleanNets x, int sheet, StringBuilder told) {
        int lane = laneOf(x, sheet);
        told.append("sheet ").append(sheet).append(" lane ").append(lane);
        if (lane < 0) {
            return;
        }
        beAllOfSeven(x);
        int length = lengthOf(x, sheet, lane);
        for (int i = 0; i < length; i++) {
            told.append(' ').append(valueOf(x, sheet, lane, i));
        }
        told.append(" drop ").append(x.drop(sheet));
    }

    /** Or NULL. */
    static int laneOf(CleanNets x, int sheet) {
        for (int lane = 0; lane < 4; lane++) {
            int answer = x.allowed(sheet, lane, 0, 1);
            if (answer == CleanNets.NULL) {
                return answer;
            }
            if (answer != CleanNets.CAST) {
                return lane;
            }
        }
        return CleanNets.CAST;
    }

    static int lengthOf(CleanNets x, int sheet, int lane) {
        int length = 0;
        while (length < 25 && x.allowed(sheet, lane, length, 1) != CleanNets.INDEX) {
            length++;
        }
        return length;
    }

    /** A net by which the acts that items tell can be known apart. */
    static void beAllOfSeven(CleanNets x) {
        x.read();
        Check.read(x, "all 7");
        x.tell(1, 7);
    }

    /** Which PUT or TAKE an item tells, by how it goes behind each PUT; the sheet next to its own is used for it. */
    static int valueOf(CleanNets x, int sheet, int lane, int i) {
        int alone = x.allowed(sheet, lane, i, 1);
        if (alone == CleanNets.NOT) {
            return NO_ACT;
        }
        int scratch = (sheet + 1) % 4;
        x.sheet(scratch, lane, 2);
        x.copy(sheet, i, scratch, 1, 1);
        for (int v = 0; v < 7; v++) {
            x.item(scratch, lane, 0, v);
            boolean isAllowed = (x.allowed(scratch, lane, 0, 2) & 1) != 0;
            if (isAllowed == (alone == 0)) {
                return alone == 0 ? 10 + v : v;
            }
        }
        return SOME_MOVE;
    }
}
