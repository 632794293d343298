/** Promises 1 to 11: the new object, the hole and its clubs, the law's text, a single shot. Worked out by hand. */
public final class PromisesOfTheHole extends Checks {
    public static void main(String[] args) {
        newObject();
        club();
        clubsFromRows();
        clubsThatEnd();
        mend();
        mendEdges();
        of();
        feed();
        lawFaults();
        lawNesting();
        lawValues();
        lawLines();
        lawKept();
        lies();
        liesBackward();
        chance();
        believed();
        believedInWind();
        layUp();
        finish();
    }

    private static void newObject() {
        WhichClub other = with(202);
        other.mend(3, 0, 2);
        other.mend(0, 4, 7);
        WhichClub w = new WhichClub();
        for (int cell = 0; cell <= 30; cell++) {
            due(1, "ground of " + cell, w.of(cell, 0), cell < 20 ? 0 : 4);
        }
        int[] first = {20, 0, 6, 3, 3, 0};
        for (int what = 4; what <= 9; what++) {
            due(1, "of(0, " + what + ")", w.of(0, what), first[what - 4]);
        }
        int[] counts = {0, 11, 0, 0, 0, 0, 0};
        for (int what = 0; what < counts.length; what++) {
            due(1, "count(" + what + ")", w.count(what), counts[what]);
        }
        for (int what = 0; what <= 4; what++) {
            due(1, "led(" + what + ")", w.led(what), 0);
        }
        for (int shelf = 0; shelf <= 5; shelf++) {
            due(1, "shelf " + shelf, w.taken(shelf, 0), -11);
        }
        due(1, "undo", w.undo(), -5);
        due(1, "redo", w.redo(), -5);
        due(1, "back", w.back(), -5);
        due(1, "trace", w.trace(0), -1);
    }

    private static void club() {
        WhichClub w = new WhichClub();
        int[] bad = {-1, -10, 4, 9, 304, 310, 313, 1000, Integer.MIN_VALUE, Integer.MAX_VALUE};
        for (int cs : bad) {
            due(2, "club(" + cs + ")", w.club(cs), -1);
        }
        due(2, "none came", w.count(0), 0);
        int[] good = {0, 303, 300, 3, 152, 81};
        for (int i = 0; i < good.length; i++) {
            due(2, "club(" + good[i] + ")", w.club(good[i]), i);
            due(2, "carry", w.of(i, 1), good[i] / 10);
            due(2, "spread", w.of(i, 2), good[i] % 10);
            due(2, "believed", w.of(i, 3), 1);
        }
        due(2, "a seventh", w.club(100), -3);
        due(2, "a seventh that is BAD", w.club(4), -1);
        due(2, "six", w.count(0), 6);
        due(2, "a club is no change", w.count(4), 0);
    }

    private static void clubsFromRows() {
        WhichClub w = new WhichClub();
        due(3, "missing row", w.clubs(0, 0, 3), 0);
        due(3, "no such shelf", w.clubs(6, 0, 3), -1);
        due(3, "no such shelf", w.clubs(-1, 0, 3), -1);
        due(3, "n 0", w.clubs(0, 0, 0), -1);
        due(3, "n 7", w.clubs(0, 0, 7), -1);
        due(3, "missing row, place below 0", w.clubs(0, -1, 1), 0);
        due(3, "missing row, least place", w.clubs(0, Integer.MIN_VALUE, 6), 0);
        due(3, "BAD n, place below 0", w.clubs(0, -1, 0), -1);
        due(3, "no such shelf, place below 0", w.clubs(6, -1, 1), -1);
        w.body(0);
        w.keep(1, 0);
        due(3, "a word", w.clubs(1, 0, 1), -12);
        w.row(1, 2, 9);
        due(3, "ints", w.clubs(1, 0, 1), -12);
        w.row(1, 4, 9);
        due(3, "booleans", w.clubs(1, 0, 1), -12);
        due(3, "BAD ahead of -12", w.clubs(1, 0, 0), -1);
        due(3, "booleans, place below 0", w.clubs(1, -1, 1), -12);
        bytes(w, 0, 99, 22, 3, 2, 30, 0, 9, 0, 1, 0);
        due(3, "from place 1", w.clubs(0, 1, 2), 2);
        due(3, "two", w.count(0), 2);
        int[] due = {22, 3, 2, 30, 0, 9};
        for (int i = 0; i < 6; i++) {
            due(3, "number " + i, w.of(i / 3, 1 + i % 3), due[i]);
        }
        due(3, "the third", w.clubs(0, 7, 1), 1);
        due(3, "its carry", w.of(2, 1), 0);
        due(3, "its believed", w.of(2, 3), 0);
    }

    private static void clubsThatEnd() {
        WhichClub w = new WhichClub();
        bytes(w, 0, 10, 1, 1, 11, 1);
        due(3, "ends within a three", w.clubs(0, 0, 2), 1);
        due(3, "within the first three", w.clubs(0, 3, 2), 0);
        due(3, "at the end", w.clubs(0, 5, 2), 0);
        due(3, "behind the end", w.clubs(0, Integer.MAX_VALUE, 6), 0);
        for (int place : new int[] {-1, -3, -15, -18, Integer.MIN_VALUE, Integer.MIN_VALUE + 1}) {
            due(3, "place " + place, w.clubs(0, place, 6), 0);
        }
        due(3, "one", w.count(0), 1);
        int[][] notSo = {{31, 0, 0}, {-1, 0, 0}, {0, 4, 0}, {0, -1, 0}, {0, 0, 10}, {0, 0, -1}};
        for (int[] three : notSo) {
            bytes(w, 0, three);
            due(3, "one that is not so", w.clubs(0, 0, 1), 0);
        }
        bytes(w, 0, 5, 0, 0, 31, 0, 0, 6, 0, 0);
        due(3, "those ahead of one that is not so", w.clubs(0, 0, 3), 1);
        due(3, "two", w.count(0), 2);
        bytes(w, 0, 1, 0, 0, 2, 0, 0, 3, 0, 0, 4, 0, 0, 5, 0, 0, 6, 0, 0);
        due(3, "until FULL", w.clubs(0, 0, 6), 4);
        due(3, "six", w.count(0), 6);
        due(3, "FULL", w.clubs(0, 0, 6), 0);
        WhichClub all = new WhichClub();
        bytes(all, 0, 0, 0, 0, 1, 0, 0, 2, 0, 0, 3, 0, 0, 4, 0, 0, 5, 0, 0, 6, 0, 0);
        due(3, "six of them, to the end", all.clubs(0, 3, 6), 6);
        due(3, "the last", all.of(5, 1), 6);
        due(3, "no changes", w.count(4), 0);
        w.row(0, 0, 0);
        due(3, "an empty row", w.clubs(0, 0, 1), 0);
    }

    private static void mend() {
        WhichClub w = with(101, 52);
        due(4, "ground", w.mend(7, 0, 3), 0);
        due(4, "ground", w.mend(7, 0, 1), 3);
        due(4, "carry", w.mend(1, 1, 30), 5);
        due(4, "spread", w.mend(0, 2, 3), 1);
        due(4, "believed", w.mend(1, 3, 9), 1);
        due(4, "pin", w.mend(0, 4, 29), 20);
        due(4, "wind", w.mend(0, 5, -3), 0);
        due(4, "wind", w.mend(0, 5, 3), -3);
        due(4, "touch", w.mend(0, 6, 12), 6);
        due(4, "bold", w.mend(0, 7, 9), 3);
        due(4, "risk", w.mend(0, 8, 0), 3);
        int[] now = {w.of(7, 0), w.of(1, 1), w.of(0, 2), w.of(1, 3), w.of(0, 4), w.of(0, 5), w.of(0, 6), w.of(0, 7), w.of(0, 8)};
        int[] want = {1, 30, 3, 9, 29, 3, 12, 9, 0};
        for (int i = 0; i < want.length; i++) {
            due(4, "now " + i, now[i], want[i]);
        }
        due(4, "the other club", w.of(0, 1), 10);
        due(4, "the other cell", w.of(8, 0), 0);
        due(4, "changes", w.count(4), 11);
        due(4, "the same number", w.mend(7, 0, 1), 1);
        due(4, "is none", w.count(4), 11);
    }

    private static void mendEdges() {
        WhichClub w = with(101);
        int[][] bad = {
            {-1, 0, 0}, {31, 0, 0}, {0, 0, -1}, {0, 0, 5}, {1, 1, 5}, {-1, 1, 5}, {0, 1, -1}, {0, 1, 31},
            {0, 2, -1}, {0, 2, 4}, {0, 3, -1}, {0, 3, 10}, {0, 4, 0}, {0, 4, 30}, {1, 4, 5}, {0, 5, -4}, {0, 5, 4},
            {1, 5, 0}, {0, 6, -1}, {0, 6, 13}, {-1, 6, 5}, {0, 7, -1}, {0, 7, 10}, {0, 8, -1}, {0, 8, 10}, {1, 8, 3},
            {0, 9, 3}, {0, -1, 0}, {0, Integer.MIN_VALUE, 0}, {Integer.MIN_VALUE, 0, 0}, {0, 7, Integer.MIN_VALUE}
        };
        for (int[] b : bad) {
            due(4, "mend(" + b[0] + ", " + b[1] + ", " + b[2] + ")", w.mend(b[0], b[1], b[2]), -2000000000);
        }
        due(4, "no changes", w.count(4), 0);
        int[][] good = {{0, 1, 0}, {0, 1, 30}, {0, 2, 0}, {0, 2, 3}, {0, 3, 0}, {0, 3, 9}, {0, 4, 1}, {0, 4, 29},
            {0, 5, -3}, {0, 5, 3}, {0, 6, 0}, {0, 6, 12}, {0, 7, 9}, {0, 8, 0}, {0, 7, 12}, {0, 7, 0}, {0, 8, 12},
            {0, 0, 4}, {30, 0, 0}};
        for (int[] g : good) {
            w.mend(g[0], g[1], g[2]);
            due(4, "edge " + g[1], w.of(g[0], g[1]), g[2]);
        }
        due(4, "bold above 12 less risk", w.mend(0, 7, 1), -2000000000);
    }

    private static void of() {
        WhichClub w = with(123);
        due(5, "carry", w.of(0, 1), 12);
        due(5, "spread", w.of(0, 2), 3);
        int[][] bad = {{-1, 0}, {31, 0}, {1, 1}, {1, 2}, {1, 3}, {-1, 3}, {1, 4}, {1, 9}, {-1, 9}, {0, 10}, {0, -1}};
        for (int[] b : bad) {
            due(5, "of(" + b[0] + ", " + b[1] + ")", w.of(b[0], b[1]), -2000000000);
        }
        w.mend(0, 2, 0);
        w.hit(0, 1);
        due(5, "the cell one is in", w.of(0, 9), 12);
        w.mend(9, 0, 3);
        w.mend(0, 4, 9);
        due(5, "the pin's ground as it was told", w.of(9, 0), 3);
    }

    private static void feed() {
        WhichClub w = new WhichClub();
        due(6, "feed(-1)", w.feed(-1), -1);
        due(6, "feed(256)", w.feed(256), -1);
        for (int i = 1; i <= 120; i++) {
            due(6, "byte " + i, w.feed(i == 1 ? 0 : i == 2 ? 255 : 'd'), i);
        }
        due(6, "FULL", w.feed('d'), -3);
        due(6, "BAD ahead of FULL", w.feed(256), -1);
        due(6, "bytes", w.count(3), 120);
        due(6, "a fault at 0", w.law(), -100);
        due(6, "the tape is empty", w.feed('d'), 1);
    }

    private static void lawFaults() {
        String[] good = {"d", "0", "9999", "d+c*2", "d?c", "d?c;k", "d;c;s", "!d", "-d", "(d)", "d<c", "(d<c)<s", "d|c&s=w+k*g",
            "d-c-s-w", "d*c/s%w", "d--c", "d-!c", "d=-c", "!!d", "d|c|s", "d&c&s", "0000", "1?2;3?4", "(d|c)&(s=w)", "d<c&s>w|k=g"};
        for (String s : good) {
            due(7, s, text(new WhichClub(), s), 1);
        }
        Object[][] bad = {{"", 0}, {"+", 0}, {"d+", 2}, {"d c", 1}, {" d", 0}, {"12345", 4}, {"d<c<s", 3}, {"d=c>s", 3}, {"d?c?s", 3},
            {"?c", 0}, {"d?", 2}, {"d;", 2}, {";d", 0}, {"d;;c", 2}, {"(d", 2}, {"(d?c)", 2}, {"(d;c)", 2}, {"d)", 1}, {"()", 1},
            {"dc", 1}, {"d1", 1}, {"1d", 1}, {"x", 0}, {"D", 0}, {"d!c", 1}, {"d+*c", 2}, {"d||c", 2}, {"d==c", 2}, {"!", 1}, {"-", 1},
            {"!+d", 1}, {"d?c;s?", 6}, {"d/", 2}, {"(d<c", 4}, {"(d<c<", 4}, {"d\u00e9", 1}, {"d\0", 1}, {"d*(c+s))", 7}};
        for (Object[] b : bad) {
            due(7, "\"" + b[0] + "\"", text(new WhichClub(), (String) b[0]), -100 - (Integer) b[1]);
        }
    }

    private static void lawNesting() {
        due(7, "six !", text(new WhichClub(), "!!!!!!d"), 1);
        due(7, "seven !", text(new WhichClub(), "!!!!!!!d"), -106);
        due(7, "six (", text(new WhichClub(), "((((((d))))))"), 1);
        due(7, "seven (", text(new WhichClub(), "(((((((d)))))))"), -106);
        due(7, "mixed six", text(new WhichClub(), "(!-(!-d))"), 1);
        due(7, "mixed seven", text(new WhichClub(), "(!-(!-(d)))"), -106);
        due(7, "six behind ?", text(new WhichClub(), "!!!!!!d?------c|((((((s))))))"), 1);
        due(7, "seven behind ?", text(new WhichClub(), "d?!!!!!!!c"), -108);
        due(7, "six again behind six", text(new WhichClub(), "!!!!!!d+------c"), 1);
        due(7, "within brackets", text(new WhichClub(), "(!!!!!d*-----c)"), 1);
        due(7, "within brackets, seven", text(new WhichClub(), "(!!!!!d*------c)"), -113);
        due(7, "operators are not open", text(new WhichClub(), "d-d-d-d-d-d-d-d-d"), 1);
        StringBuilder longest = new StringBuilder("d");
        while (longest.length() < 119) {
            longest.append(";d");
        }
        due(7, "119 bytes", text(new WhichClub(), longest.toString()), 1);
        due(7, "120 bytes, the last lacks", text(new WhichClub(), longest + ";"), -220);
        due(7, "120 bytes", text(new WhichClub(), longest.substring(0, 117) + "123"), -217);
        due(7, "120 bytes", text(new WhichClub(), longest.substring(0, 116) + "1234"), 1);
    }

    /** Whether the first text ranks club 1 above club 0, where club 0 has rank 0: "k?E;0" ranks club 1 by E. */
    private static void rank(String e, boolean above) {
        WhichClub w = with(101, 132);
        w.mend(0, 5, -2);
        w.mend(3, 0, 2);
        w.mend(1, 3, 4);
        due(7, e, text(w, "k?" + e + ";0"), 1);
        due(7, e + " above 0", w.believed(3), above ? 1 : 0);
    }

    /** That e has this value, for club 1 (d 17, g 2, c 17, s 2, w -2, k 1). */
    private static void value(String e, String equals) {
        rank("(" + e + ")=(" + equals + ")", true);
    }

    private static void lawValues() {
        value("d", "17");
        value("g", "2");
        value("c", "17");
        value("s", "2");
        value("w", "-2");
        value("k", "1");
        value("7+2*3", "13");
        value("(7+2)*3", "27");
        value("7-2-3", "2");
        value("7/2", "3");
        value("-7/2", "-3");
        value("7%-2", "1");
        value("-7%2", "-1");
        value("7/0", "0");
        value("7%0", "0");
        value("24/4/3", "2");
        value("2*7%4", "2");
        value("7+8/2", "11");
        value("7+9%4", "8");
        value("10-2*3", "4");
        value("10-2+3", "11");
        value("8/2*3", "12");
        value("3-1<2+1", "1");
        value("2=1+1", "1");
        value("0&1|1", "1");
        value("1|1&0", "1");
        value("2>1&1", "1");
        value("5&6", "1");
        value("5&0", "0");
        value("0|0", "0");
        value("5|0", "1");
        value("1|0&0", "1");
        value("1<2", "1");
        value("2<1", "0");
        value("1<1", "0");
        value("1>1", "0");
        value("2>1", "1");
        value("1=1", "1");
        value("!5", "0");
        value("!0", "1");
        value("!!7", "1");
        value("!d=0", "1");
        value("-3+5", "2");
        value("1+1=2&3>2", "1");
        value("9999*9999*9999", "9999*9999*9999");
        rank("9999*9999*22-1", false);
        rank("9999*9999*21", true);
        rank("-(9999*9999*22)", true);
        value("(9999*9999*21+9999*4805)*0+0-0", "0");
        value("0007", "7");
    }

    private static void lawLines() {
        rank("1;0", true);
        rank("0;1", false);
        WhichClub w = with(101, 131, 161);
        due(7, "lines", text(w, "k=0?3;k=1?5;4"), 1);
        due(7, "second line", w.believed(0), 1);
        due(7, "lines", text(w, "k=0?3;k=1?3;4"), 1);
        due(7, "last line", w.believed(0), 2);
        due(7, "none counts: 0", text(w, "k=0?0-1;k=1?0-1"), 1);
        due(7, "none counts: 0", w.believed(0), 2);
        due(7, "none counts: 0", text(w, "k=1?1"), 1);
        due(7, "none counts: 0", w.believed(0), 1);
        due(7, "a | behind ?", text(w, "k?0|k=2;0"), 1);
        due(7, "a | behind ?", w.believed(0), 2);
        due(7, "like ones", text(w, "1"), 1);
        due(7, "the least number", w.believed(0), 0);
        due(7, "a first line without a first E counts", text(w, "0-k;k"), 1);
        due(7, "a first line without a first E counts", w.believed(0), 0);
        due(7, "a condition that is -1", text(w, "0-k?k;0"), 1);
        due(7, "a condition that is -1", w.believed(0), 2);
    }

    private static void lawKept() {
        WhichClub w = with(101, 201);
        due(7, "without a text", w.believed(0), 1);
        due(7, "a text", text(w, "0-c"), 1);
        due(7, "by the text", w.believed(0), 0);
        due(7, "a fault", text(w, "c+"), -102);
        due(7, "the tape is empty", w.count(3), 0);
        due(7, "still by the text", w.believed(0), 0);
        due(7, "another", text(w, "c"), 1);
        due(7, "by the other", w.believed(0), 1);
        due(7, "a law is no change", w.count(4), 0);
    }

    private static void lie(WhichClub w, int cc, int cell, long above, long below) {
        due(8, "lies(" + cc + ", " + cell + ", 0)", w.lies(cc, cell, 0), above);
        due(8, "lies(" + cc + ", " + cell + ", 1)", w.lies(cc, cell, 1), below);
    }

    private static void lies() {
        WhichClub w = with(102, 40, 11, 53);
        lie(w, 50, 12, 0, 1);
        lie(w, 50, 13, 1, 5);
        lie(w, 50, 17, 1, 5);
        lie(w, 50, 18, 0, 1);
        w.mend(14, 0, 3);
        w.mend(16, 0, 3);
        lie(w, 50, 14, 0, 1);
        lie(w, 50, 5, 2, 5);
        w.mend(5, 0, 1);
        lie(w, 50, 12, 1, 5);
        lie(w, 50, 5, 2, 5);
        w.mend(5, 0, 2);
        lie(w, 50, 8, 1, 5);
        lie(w, 50, 13, 0, 1);
        w.mend(0, 5, 3);
        lie(w, 50, 9, 1, 5);
        w.mend(0, 5, 2);
        lie(w, 50, 9, 1, 5);
        lie(w, 50, 13, 1, 5);
        lie(w, 51, 7, 1, 1);
        w.mend(5, 0, 0);
        lie(w, 51, 9, 1, 1);
        lie(w, 53, 9, 1, 7);
        lie(w, 53, 5, 1, 7);
        w.mend(0, 0, 1);
        lie(w, 2, 0, 2, 3);
        lie(w, 2, 1, 1, 3);
        w.mend(2, 1, 0);
        lie(w, 2, 1, 1, 3);
        w.mend(2, 2, 0);
        lie(w, 2, 0, 1, 1);
        int[][] bad = {{-1, 0, 0}, {4, 0, 0}, {9, 0, 0}, {200, 20, 0}, {300, 0, 0}, {310, 0, 0}, {0, -1, 0}, {0, 31, 0}, {0, 0, 2}, {0, 0, -1}};
        for (int[] b : bad) {
            due(8, "lies(" + b[0] + ", " + b[1] + ", " + b[2] + ")", w.lies(b[0], b[1], b[2]), NONE);
        }
        w.mend(0, 4, 12);
        due(8, "from the pin, though it is fairway", w.lies(120, 0, 0), NONE);
    }

    private static void liesBackward() {
        WhichClub w = with(101, 30, 300);
        w.mend(0, 4, 5);
        w.mend(25, 0, 0);
        lie(w, 250, 14, 1, 3);
        lie(w, 250, 16, 1, 3);
        w.mend(0, 5, 2);
        lie(w, 250, 18, 1, 3);
        lie(w, 250, 14, 0, 1);
        lie(w, 251, 22, 1, 1);
        lie(w, 252, 0, 1, 1);
        w.mend(25, 0, 1);
        lie(w, 250, 19, 1, 3);
        w.mend(25, 0, 2);
        lie(w, 250, 21, 1, 3);
        lie(w, 252, 11, 1, 1);
        lie(w, 2, 30, 1, 1);
    }

    private static void odds(WhichClub w, int cc, int what, long above, long below) {
        due(9, "chance(" + cc + ", " + what + ", 0)", w.chance(cc, what, 0), above);
        due(9, "chance(" + cc + ", " + what + ", 1)", w.chance(cc, what, 1), below);
    }

    private static void chance() {
        WhichClub w = with(103, 202, 0);
        odds(w, 0, 0, 0, 1);
        odds(w, 0, 1, 0, 1);
        odds(w, 1, 1, 3, 5);
        odds(w, 100, 1, 4, 7);
        w.mend(8, 0, 3);
        w.mend(10, 0, 3);
        w.mend(13, 0, 3);
        odds(w, 0, 0, 3, 7);
        w.mend(0, 4, 10);
        odds(w, 0, 0, 2, 7);
        odds(w, 0, 1, 1, 7);
        odds(w, 82, 0, 1, 1);
        due(9, "in water one stands where one stood", w.lies(82, 8, 0), 1);
        w.mend(30, 0, 3);
        w.mend(0, 4, 20);
        odds(w, 191, 0, 1, 1);
        odds(w, 191, 1, 0, 1);
        int[][] bad = {{-1, 0, 0}, {3, 0, 0}, {200, 0, 0}, {310, 0, 0}, {0, 2, 0}, {0, -1, 0}, {0, 0, 2}, {0, 0, -1}};
        for (int[] b : bad) {
            due(9, "chance(" + b[0] + ", " + b[1] + ", " + b[2] + ")", w.chance(b[0], b[1], b[2]), NONE);
        }
    }

    private static void believed() {
        WhichClub w = new WhichClub();
        due(10, "no clubs", w.believed(0), -2);
        due(10, "no cell", w.believed(31), -1);
        due(10, "no cell", w.believed(-1), -1);
        w.club(202);
        w.club(190);
        due(10, "20 and 1 is farther from 20 than 19 and 1", w.believed(0), 1);
        w.mend(0, 3, 0);
        due(10, "like ones", w.believed(0), 0);
        due(10, "the green", w.believed(20), -2);
        due(10, "the green", w.believed(30), -2);
        due(10, "no cell", w.believed(31), -1);
        w.mend(5, 0, 4);
        due(10, "green now", w.believed(5), -2);
        w.mend(0, 4, 3);
        due(10, "the pin", w.believed(3), -2);
        w.mend(25, 0, 0);
        due(10, "22 back", w.believed(25), 0);
    }

    private static void believedInWind() {
        WhichClub w = with(90, 120, 40);
        w.mend(0, 4, 14);
        due(10, "13 of 14", w.believed(0), 1);
        w.mend(0, 5, 3);
        due(10, "10 and 3, 13 and 3", w.believed(0), 0);
        w.mend(0, 5, -3);
        due(10, "7, 10", w.believed(0), 1);
        w.mend(0, 4, 8);
        w.mend(0, 5, 3);
        due(10, "the wind counts for short clubs, too, when they are ranked", w.believed(0), 2);
        w.mend(30, 0, 0);
        w.mend(0, 4, 16);
        due(10, "d 14 backward, the wind as it is: 13, 16, 8", w.believed(30), 0);
    }

    private static void layUp() {
        WhichClub w = with(101, 152, 150, 60);
        due(11, "the farthest, the least of like ones", w.layUp(0), 1);
        w.mend(17, 0, 3);
        due(11, "not that which may slip into it", w.layUp(0), 2);
        w.mend(15, 0, 3);
        due(11, "shorter", w.layUp(0), 0);
        w.mend(11, 0, 3);
        due(11, "shorter", w.layUp(0), 3);
        w.mend(6, 0, 3);
        due(11, "none", w.layUp(0), -2);
        due(11, "green", w.layUp(20), -1);
        due(11, "no cell", w.layUp(-1), -1);
        due(11, "no cell", w.layUp(31), -1);
        due(11, "no clubs", new WhichClub().layUp(0), -2);
        WhichClub behind = with(50, 100, 80);
        behind.mend(0, 4, 10);
        behind.mend(25, 0, 0);
        due(11, "backward", behind.layUp(25), 1);
        behind.mend(15, 0, 3);
        due(11, "backward, short of water", behind.layUp(25), 2);
        due(11, "from the middle", behind.layUp(5), 2);
        WhichClub far = with(150, 200, 300);
        due(11, "the farthest, though the hole ends", far.layUp(19), 2);
        far.mend(30, 0, 3);
        due(11, "none is dry", far.layUp(19), -2);
        far.mend(0, 1, 0);
        due(11, "a club that goes nowhere", far.layUp(19), 0);
    }
}
