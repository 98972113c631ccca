/** Counts answers that are not as due, and prints them. */
final class Check {
    private final String name;
    private int calls = 0;
    private int wrong = 0;

    Check(String name) {
        this.name = name;
    }

    void due(String call, long got, long want) {
        calls++;
        if (got != want) {
            wrong++;
            if (wrong <= 40) {
                System.out.println(name + ": " + call + " answered " + got + ", due is " + want);
            }
        }
    }

    void holds(String what, boolean isSo) {
        calls++;
        if (!isSo) {
            wrong++;
            System.out.println(name + ": " + what + " does not hold");
        }
    }

    void end() {
        System.out.println(name + ": " + calls + " answers looked at, " + wrong + " not as due");
        if (wrong != 0 || calls == 0) {
            System.exit(1);
        }
    }

    /** Types a text and reads it. */
    static int read(CleanNets x, String text) {
        for (int k = 0; k < text.length(); k++) {
            x.type(text.charAt(k));
        }
        return x.read();
    }

    static CleanNets made(String text) {
        CleanNets x = new CleanNets();
        if (read(x, text) < 0) {
            throw new IllegalStateException("no text: " + text);
        }
        return x;
    }

    /** What all nodes are, as the figures of one number. */
    static int looks(CleanNets x) {
        int looks = 0;
        for (int v = 0; v < x.count(0); v++) {
            looks = looks * 10 + x.node(v, 0);
        }
        return looks;
    }

    /** A sheet filled with a row. */
    static void fill(CleanNets x, int sheet, int lane, long... row) {
        x.sheet(sheet, lane, row.length);
        for (int k = 0; k < row.length; k++) {
            x.item(sheet, lane, k, row[k]);
        }
    }
}
