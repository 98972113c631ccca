import java.util.Map;

/** A text read letter by letter: a state says which letters may come next and which state each of them leads to. */
final class SlowText {
    private static final Map<String, String> NEXT = Map.of("path", "n", "ring", "n", "star", "n", "all", "n", "net", "n",
            "grid", "w");

    int fault = -1;
    int n = 0;
    boolean[][] links = new boolean[0][0];

    private String name = "";
    private String state = "";
    private int first = 0;

    SlowText(String text) {
        int start = 0;
        while (start < text.length() && text.charAt(start) == ' ') {
            start++;
        }
        int end = start;
        while (end < text.length() && Character.isLowerCase(text.charAt(end))) {
            end++;
        }
        name = text.substring(start, end);
        if (!NEXT.containsKey(name)) {
            fault = start;
            return;
        }
        state = NEXT.get(name);
        for (int k = end; k < text.length(); k++) {
            if (text.charAt(k) != ' ' && !takes(text.charAt(k))) {
                fault = k;
                return;
            }
        }
        if (!state.equals("end") && !state.equals("colon") && !state.equals("comma")) {
            fault = text.length();
        }
    }

    private boolean takes(char c) {
        int figure = c >= '0' && c <= '9' ? c - '0' : -1;
        switch (state) {
            case "n": return takesNumber(figure);
            case "w": first = figure; return goTo("star", figure >= 1 && figure <= 7);
            case "star": return goTo("h", c == '*');
            case "h": return takesHeight(figure);
            case "colon": return goTo("u", c == ':');
            case "u": first = figure; return goTo("dash", figure >= 0 && figure < n);
            case "dash": return goTo("v", c == '-');
            case "v": return takesSecond(figure);
            case "comma": return goTo("u", c == ',');
            default: return false;
        }
    }

    private boolean goTo(String next, boolean isFine) {
        state = next;
        return isFine;
    }

    private boolean takesNumber(int figure) {
        if (figure < (name.equals("ring") ? 3 : 2) || figure > 7) {
            return false;
        }
        n = figure;
        links = new boolean[n][n];
        for (int u = 0; u < n; u++) {
            for (int v = 0; v < n; v++) {
                int apart = Math.abs(u - v);
                links[u][v] = switch (name) {
                    case "path" -> apart == 1;
                    case "ring" -> apart == 1 || apart == n - 1;
                    case "star" -> apart != 0 && (u == 0 || v == 0);
                    case "all" -> apart != 0;
                    default -> false;
                };
            }
        }
        return goTo(name.equals("net") ? "colon" : "end", true);
    }

    private boolean takesHeight(int figure) {
        if (figure < 1 || figure > 7 || first * figure < 2 || first * figure > 7) {
            return false;
        }
        n = first * figure;
        links = new boolean[n][n];
        for (int u = 0; u < n; u++) {
            for (int v = 0; v < n; v++) {
                links[u][v] = Math.abs(u % first - v % first) + Math.abs(u / first - v / first) == 1;
            }
        }
        return goTo("end", true);
    }

    private boolean takesSecond(int figure) {
        if (figure < 0 || figure >= n || figure == first || links[first][figure]) {
            return false;
        }
        links[first][figure] = true;
        links[figure][first] = true;
        return goTo("comma", true);
    }
}
