/** Texts: what the terms say of them, and promises 13 and 14. */
final class TextBounds {
    private static final int BAD = CleanNets.BAD, FULL = CleanNets.FULL;
    private static final int LEAST = Integer.MIN_VALUE, MOST = Integer.MAX_VALUE;
    private static final String[] NAMES = {"path", "ring", "star", "all", "net"};
    private static final String[] SOUND = {"path 2", "ring 7", "star3", "all 4", "net 5", "net 4:0-1", "net 7:6-0,0-5,1-2",
        "grid 2*3", "grid 7*1"};

    private final Book book;

    TextBounds(Book book) {
        this.book = book;
    }

    void run() {
        netToldIsFoul();
        names();
        grids();
        path();
        ring();
        star();
        all();
        grid();
        net();
        faults();
        namesThatAreNone();
        blanks();
        type();
        typeBad();
        typeFull();
        read();
        readFault();
    }

    private static int answer(String text) {
        return Check.read(new CleanNets(), text);
    }

    private void faultAt(String text, int place) {
        book.due("'" + text + "'", answer(text), -20 - place);
    }

    private void linksOf(String text, int links) {
        book.due("'" + text + "'", answer(text), links);
    }

    private void netToldIsFoul() {
        book.says(Book.TERMS, "THE NET told as a TEXT: all FOUL, no GUARDS.");
        for (String text : SOUND) {
            CleanNets x = new CleanNets();
            Ways.WALK.go(x);
            book.holds("it was not all foul", x.count(3) != 0 && x.count(4) != 0);
            book.holds("read", Check.read(x, text) >= 0);
            book.due(text + ", clean ones", x.count(3), 0);
            book.due(text + ", guards", x.count(4), 0);
            book.due(text + ", the kind stays", x.count(5), 1);
            book.due(text + ", the team stays", x.count(6), 2);
            book.due(text + ", the draw stays", x.seed(0), MOST);
        }
        CleanNets same = new CleanNets();
        Ways.WALK.go(same);
        Check.read(same, "ring 5");
        book.due("the net that it was", same.count(3), 0);
    }

    private static boolean isLetter(int sign) {
        return sign >= 'a' && sign <= 'z';
    }

    private static int linksByName(String name, int n) {
        switch (name) {
            case "ring": return n;
            case "all": return n * (n - 1) / 2;
            case "net": return 0;
            default: return n - 1;
        }
    }

    /** Every letter there is behind a name, right away and behind a blank. */
    private void names() {
        book.says(Book.TERMS, "A TEXT: a NAME (letters a .. z in a row): path, ring, star, all, net, then a number"
                + " n (a figure 2 .. 7; of a ring 3 .. 7);");
        for (String name : NAMES) {
            int least = name.equals("ring") ? '3' : '2';
            for (int sign = 32; sign <= 126; sign++) {
                String near = name + (char) sign;
                String apart = name + ' ' + (char) sign;
                if (sign >= least && sign <= '7') {
                    linksOf(near, linksByName(name, sign - '0'));
                    linksOf(apart, linksByName(name, sign - '0'));
                    faultAt(near + "3", near.length());
                    faultAt(near + " x", near.length() + 1);
                } else if (sign == ' ') {
                    faultAt(near, near.length());
                    faultAt(apart, apart.length());
                } else {
                    faultAt(near, isLetter(sign) ? 0 : name.length());
                    faultAt(near + "3", isLetter(sign) ? 0 : name.length());
                    faultAt(apart, name.length() + 1);
                }
            }
            faultAt(name, name.length());
        }
    }

    private void grids() {
        book.says(Book.TERMS, "or grid, w (a figure 1 .. 7), * , h (a figure 1 .. 7): 2 to 7 NODES, NODE w y and x"
                + " is x, y.");
        for (int sign = 32; sign <= 126; sign++) {
            boolean isFigure = sign >= '1' && sign <= '7';
            String wide = "grid" + (char) sign;
            faultAt(wide, isLetter(sign) ? 0 : isFigure || sign == ' ' ? 5 : 4);
            String star = "grid3" + (char) sign;
            faultAt(star, sign == '*' || sign == ' ' ? 6 : 5);
            String high = "grid 3*" + (char) sign;
            book.due(high, answer(high), sign == '1' ? 2 : sign == '2' ? 7 : sign == ' ' ? -28 : -27);
            String behind = "grid 3*2" + (char) sign;
            book.due(behind, answer(behind), sign == ' ' ? 7 : -28);
        }
        for (int w = 0; w <= 9; w++) {
            for (int h = 0; h <= 9; h++) {
                String text = "grid" + w + "*" + h;
                if (w < 1 || w > 7) {
                    faultAt(text, 4);
                } else if (w * h < 2 || w * h > 7) {
                    faultAt(text, 6);
                } else {
                    CleanNets x = Check.made(text);
                    book.due(text + ", nodes", x.count(0), w * h);
                    book.due("0 and 1 are beside each other in a row", x.node(0, 1) >> 1 & 1, w > 1 || h > 1 ? 1 : 0);
                    book.due("0 and w are one below the other", x.node(0, 1) >> w & 1, h > 1 ? 1 : 0);
                }
            }
        }
    }

    /** Whether a text's net links just those that this says. */
    private interface Linked {
        boolean are(int u, int v, int n);
    }

    private void links(String text, int n, Linked linked) {
        CleanNets x = new CleanNets();
        int links = 0;
        int answer = Check.read(x, text);
        for (int u = 0; u < n; u++) {
            int near = 0;
            for (int v = 0; v < n; v++) {
                boolean is = u != v && linked.are(Math.min(u, v), Math.max(u, v), n);
                near |= is ? 1 << v : 0;
                links += is && u < v ? 1 : 0;
            }
            book.due(text + ", near " + u, x.node(u, 1), near);
        }
        book.due(text + ", links", answer, links);
        book.due(text + ", nodes", x.count(0), n);
    }

    private void path() {
        book.says(Book.TERMS, "path: 0 1, 1 2, .. are LINKED;");
        for (int n = 2; n <= 7; n++) {
            links("path " + n, n, (u, v, all) -> v == u + 1);
        }
        faultAt("path 1", 5);
        faultAt("path 8", 5);
    }

    private void ring() {
        book.says(Book.TERMS, "ring: the last one and 0, too;");
        for (int n = 3; n <= 7; n++) {
            links("ring " + n, n, (u, v, all) -> v == u + 1 || u == 0 && v == all - 1);
        }
        faultAt("ring 2", 5);
        faultAt("ring 8", 5);
    }

    private void star() {
        book.says(Book.TERMS, "star: 0 with all others;");
        for (int n = 2; n <= 7; n++) {
            links("star " + n, n, (u, v, all) -> u == 0);
        }
        faultAt("star 1", 5);
        faultAt("star 8", 5);
    }

    private void all() {
        book.says(Book.TERMS, "all: any two;");
        for (int n = 2; n <= 7; n++) {
            links("all " + n, n, (u, v, all) -> true);
        }
        faultAt("all 1", 4);
        faultAt("all 8", 4);
    }

    private void grid() {
        book.says(Book.TERMS, "grid: those beside each other;");
        for (int w = 1; w <= 7; w++) {
            for (int h = w == 1 ? 2 : 1; w * h <= 7; h++) {
                int wide = w;
                links("grid " + w + "*" + h, w * h, (u, v, all) ->
                        Math.abs(u % wide - v % wide) + Math.abs(u / wide - v / wide) == 1);
            }
        }
    }

    private void net() {
        book.says(Book.TERMS, "net: behind n perhaps : and LINKS with , between: figures u, v with - between, both"
                + " NODES, not alike, no LINK that was told ahead of it.");
        for (int n = 2; n <= 7; n++) {
            links("net " + n, n, (u, v, all) -> false);
            for (int u = 0; u <= 9; u++) {
                for (int v = 0; v <= 9; v++) {
                    oneLink(n, u, v);
                }
            }
        }
        for (int sign = 32; sign <= 126; sign++) {
            char c = (char) sign;
            book.due("behind n " + c, answer("net3" + c), c == ' ' ? 0 : c == ':' ? -25 : -24);
            faultAt("net3:" + c, c == ' ' || c >= '0' && c <= '2' ? 6 : 5);
            faultAt("net3:0" + c, c == ' ' || c == '-' ? 7 : 6);
            book.due("second " + c, answer("net3:0-" + c), c == ' ' ? -28 : c == '1' || c == '2' ? 1 : -27);
            book.due("behind a link " + c, answer("net3:0-1" + c), c == ' ' ? 1 : c == ',' ? -29 : -28);
            faultAt("net3:0-1," + c, c == ' ' || c >= '0' && c <= '2' ? 10 : 9);
        }
        String most = allLinks();
        book.due("letters of all 21 links", most.length(), 88);
        linksOf(most, 21);
        faultAt(most + ",", 89);
        faultAt(most + ",0", 90);
        faultAt(most + ", ", 90);
        faultAt(most + ",7", 89);
        linksOf(most + "  ", 21);
    }

    private static String allLinks() {
        StringBuilder text = new StringBuilder("net7");
        for (int v = 6; v > 0; v--) {
            for (int u = 0; u < v; u++) {
                text.append(text.length() == 4 ? ':' : ',').append(v).append('-').append(u);
            }
        }
        return text.toString();
    }

    private void oneLink(int n, int u, int v) {
        String text = "net" + n + ":" + u + "-" + v;
        if (u >= n) {
            faultAt(text, 5);
        } else if (v >= n || v == u) {
            faultAt(text, 7);
        } else {
            links(text, n, (one, other, all) -> one == Math.min(u, v) && other == Math.max(u, v));
            faultAt(text + "," + u + "-" + v, 11);
            faultAt(text + "," + v + "-" + u, 11);
            faultAt(text + "," + u + "-" + u, 11);
            faultAt(text + "," + u + "-" + n, 11);
            faultAt(text + "," + n + "-" + u, 9);
            int other = u != 0 && v != 0 ? 0 : u != 1 && v != 1 ? 1 : 2;
            if (n > 2) {
                linksOf(text + "," + v + "-" + other, 2);
                faultAt(text + "," + v + "-" + other + "," + v + "-" + u, 15);
            }
        }
    }

    private void faults() {
        book.says(Book.TERMS, "A FAULT is the first letter (behind blanks) that can't stand there (of grid an h by"
                + " which there are not 2 to 7 NODES, of a LINK its second figure, if it's the same NODE, or the"
                + " LINK was told ahead; the end: how many letters there are);");
        faultAt("", 0);
        for (int blanks = 0; blanks < 4; blanks++) {
            String b = " ".repeat(blanks);
            faultAt(b, blanks);
            faultAt(b + "*", blanks);
            faultAt("path" + b, 4 + blanks);
            faultAt("path" + b + "9" + b + "9", 4 + blanks);
            faultAt("path 3" + b + "!" + b + "?", 6 + blanks);
            faultAt("grid" + b + "0*0", 4 + blanks);
            faultAt("grid 1" + b + "1", 6 + blanks);
            faultAt("grid 1*" + b + "1", 7 + blanks);
            faultAt("grid 2*" + b + "4", 7 + blanks);
            faultAt("grid 2*" + b + "0", 7 + blanks);
            faultAt("grid 7*" + b + "2", 7 + blanks);
            faultAt("grid 2*" + b, 7 + blanks);
            faultAt("grid 2" + b, 6 + blanks);
            faultAt("net 3:0-" + b + "0", 8 + blanks);
            faultAt("net 3:0" + b + "-0,9-9", 8 + blanks);
            faultAt("net 3:0-1,0-" + b + "1", 12 + blanks);
            faultAt("net 3:0-1,1-" + b + "0,2-2", 12 + blanks);
            faultAt("net 3:0-1,2-0,0-" + b + "2", 16 + blanks);
            faultAt("net 3:" + b, 6 + blanks);
            faultAt("net 3:0" + b, 7 + blanks);
            faultAt("net 3:0-" + b, 8 + blanks);
            faultAt("net 3:0-1," + b, 10 + blanks);
            faultAt("net 3:" + b + "3-0", 6 + blanks);
            faultAt("net 3:0-" + b + "3", 8 + blanks);
        }
        faultAt(" ".repeat(90), 90);
        faultAt(" ".repeat(89) + "5", 89);
        faultAt(" ".repeat(86) + "path", 90);
        linksOf(" ".repeat(85) + "path4", 3);
    }

    private void namesThatAreNone() {
        book.says(Book.TERMS, "of a NAME that is none of these its first letter.");
        String[] names = {"path", "ring", "star", "all", "net", "grid"};
        for (String name : names) {
            for (int at = 0; at < name.length(); at++) {
                noName(name.substring(0, at) + name.substring(at + 1));
                for (char c = 'a'; c <= 'z'; c++) {
                    String other = name.substring(0, at) + c + name.substring(at + 1);
                    if (!other.equals(name)) {
                        noName(other);
                    }
                    noName(name.substring(0, at) + c + name.substring(at));
                }
                faultAt(name.substring(0, at) + Character.toUpperCase(name.charAt(at)) + name.substring(at + 1) + "3", 0);
            }
            for (char c = 'a'; c <= 'z'; c++) {
                noName(name + c);
                noName("" + c);
            }
            noName(name + name);
        }
        noName("z".repeat(80));
    }

    private void noName(String name) {
        faultAt(name, 0);
        faultAt("  " + name + " 3", 2);
        faultAt(name + "3*2", 0);
    }

    private void blanks() {
        book.says(Book.TERMS, "Blanks count for nothing, but letters in a row end there.");
        for (String text : SOUND) {
            int nameEnd = text.startsWith("all") || text.startsWith("net") ? 3 : 4;
            for (int at = 0; at <= text.length(); at++) {
                String apart = text.substring(0, at) + "  " + text.substring(at);
                if (at > 0 && at < nameEnd) {
                    faultAt(apart, 0);
                    faultAt(" " + apart, 1);
                } else {
                    book.same("'" + apart + "'", x -> Check.read(x, apart), x -> Check.read(x, text), Trace.NET);
                }
            }
        }
        linksOf(" net 4 : 0 - 1 , 1 - 2 , 3 - 0 ", 3);
        linksOf(" grid 2 * 2 ", 4);
    }

    private void type() {
        book.says(13, "One letter more behind THE TAPE: how many it has.");
        CleanNets x = new CleanNets();
        for (int k = 1; k <= 90; k++) {
            book.due("letter " + k, x.type(k % 95 + 31 + k % 2), k);
        }
        x.read();
        book.due("the first one again", x.type('r'), 1);
        book.due("behind it", x.type('i'), 2);
        Ways.type(x, "ng 7");
        book.due("all of them, in their order", x.read(), 7);
        book.due("nothing else is another: nothing to undo but the text", x.count(7), 1);
    }

    private void typeBad() {
        book.says(13, "BAD: not 32 .. 126;");
        for (int bad : new int[] {31, 127, 0, -1, 128, 255, 256 + 'a', 65536 + 'a', LEAST, MOST}) {
            book.refused("type(" + bad + ")", Ways.BUSY, x -> x.type(bad), BAD);
            book.refused("type(" + bad + "), a full tape", Ways.FULL_TAPE, x -> x.type(bad), BAD);
        }
        CleanNets x = new CleanNets();
        book.due("32", x.type(32), 1);
        book.due("33", x.type(33), 2);
        book.due("125", x.type(125), 3);
        book.due("126", x.type(126), 4);
    }

    private void typeFull() {
        book.says(13, "FULL: 90.");
        for (int letter : new int[] {32, 33, '7', 126}) {
            book.refused("type(" + letter + ")", Ways.FULL_TAPE, x -> x.type(letter), FULL);
        }
        CleanNets x = new CleanNets();
        Ways.type(x, " ".repeat(89));
        book.due("the 90th", x.type(' '), 90);
        book.due("the 91st", x.type(' '), FULL);
        x.read();
        book.due("an empty one", x.type(' '), 1);
        CleanNets full = new CleanNets();
        Ways.FULL_TAPE.go(full);
        book.due("all 90 count", full.read(), 6);
    }

    private void read() {
        book.says(14, "THE TAPE, which is empty then (by a FAULT, too), is a TEXT: how many LINKS.");
        for (String text : SOUND) {
            CleanNets x = new CleanNets();
            int links = Check.read(x, text);
            book.due(text, links, x.count(1));
            book.due("empty then", x.type(' '), 1);
            book.due("one blank", x.read(), -21);
            book.due("empty by a fault, too", x.type('p'), 1);
            book.due("a name that is none", x.read(), -20);
            book.due("empty again", x.read(), -20);
            book.due("one text may be undone", x.count(7), 1);
        }
        book.due("no links", answer("net 7"), 0);
        book.due("the most", answer("all 7"), 21);
    }

    private void readFault() {
        book.says(14, "A FAULT: -20 less its place (all else stays).");
        book.refused("an empty tape", Ways.WALK, CleanNets::read, -20);
        book.refused("an empty tape", Ways.FRESH, CleanNets::read, -20);
        String[] faulty = {"x", "path 8", "path 3 3", "grid 2*4", "net 4:0-1,0-1", "net 4:0-1,2-2", "all 7 !", "net 7:0-1,"};
        int[] places = {0, 5, 7, 7, 12, 12, 6, 10};
        for (int k = 0; k < faulty.length; k++) {
            String text = faulty[k];
            faultAt(text, places[k]);
            Way read = Ways.WALK.then(x -> Check.read(x, text));
            book.same("'" + text + "'", read, Ways.WALK, 0, 1, 2, 3, 4, 5, 6, 7);
        }
        Way typed = Ways.BUSY.then(x -> x.type('9'));
        CleanNets x = new CleanNets();
        typed.go(x);
        book.due("nine high", x.read(), -27);
        book.same("all but the tape", typed.then(CleanNets::read), Ways.BUSY, 0, 1, 2, 4, 5, 6, 7);
    }
}
