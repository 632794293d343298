/** Promises 12 to 21: strokes on the mean, lies, the pin, practice, rounds told, draws. Worked out by hand. */
public final class PromisesOfStrokes extends Checks {
    public static void main(String[] args) {
        strokes();
        strokesByBest();
        strokesEdges();
        byLaw();
        lie();
        lieTies();
        lieKnown();
        lieEdges();
        atPin();
        practise();
        practiseTies();
        dream();
        judge();
        judgeEdges();
        truly();
        trulyEdges();
        guessed();
        drawn();
        drawnByDraws();
        drawnEdges();
        nothingIsLeftOver();
        finish();
    }

    private static void law(WhichClub w, String s) {
        due(7, s, text(w, s), 1);
    }

    private static void best(WhichClub w, int cell, int n, long above, long below, long club) {
        String call = "strokes(" + cell + ", " + n + ", ";
        due(12, call + "0)", w.strokes(cell, n, 0), above);
        due(12, call + "1)", w.strokes(cell, n, 1), below);
        due(12, call + "2)", w.strokes(cell, n, 2), club);
    }

    private static void strokes() {
        WhichClub w = with(101);
        best(w, 0, 0, 6, 1, -2);
        best(w, 1, 0, 5, 1, -2);
        best(w, 15, 0, 3, 1, -2);
        best(w, 16, 0, 2, 1, -2);
        best(w, 20, 0, 1, 1, -2);
        best(w, 21, 0, 3, 2, -2);
        best(w, 20, 4, 1, 1, -2);
        best(w, 30, 4, 3, 2, -2);
        // 19, 20, 21: 2 (none is left), 1, 3/2
        best(w, 10, 1, 5, 2, 0);
        // from 19 the shot must be hit, to 28 .. 30
        best(w, 10, 2, 8, 3, 0);
        w.mend(19, 0, 3);
        // 19 is water: one more, and 4 from 10
        best(w, 10, 1, 7, 2, 0);
        // once more: 1 + (1 + 7/2 + 5/2) / 3
        best(w, 10, 2, 10, 3, 0);
        WhichClub wide = with(102);
        // 18, 19: 2; 20: 1; 21, 22: 3/2
        best(wide, 10, 1, 13, 5, 0);
        w.mend(0, 6, 12);
        best(w, 21, 3, 1, 1, -2);
        w.mend(0, 6, 0);
        best(w, 21, 3, 2, 1, -2);
        best(w, 20, 3, 1, 1, -2);
        w.mend(0, 6, 5);
        best(w, 21, 3, 19, 12, -2);
        // 1 + (5 + 1 + 19/12) / 3
        best(w, 10, 1, 127, 36, 0);
    }

    private static void strokesByBest() {
        WhichClub w = with(50, 100, 200, 100);
        best(w, 0, 1, 2, 1, 2);
        best(w, 10, 1, 2, 1, 1);
        best(w, 5, 1, 5, 2, 2);
        best(w, 5, 2, 5, 2, 2);
        w.mend(0, 6, 0);
        // by 2 to the green and two putts, or by 0 to 10, by 1 to the pin, one putt: like ones
        best(w, 5, 2, 3, 1, 0);
        best(w, 5, 1, 3, 1, 2);
        w.mend(0, 1, 2);
        best(w, 5, 3, 3, 1, 2);
        w.mend(25, 0, 2);
        // to 15, or to the sand in 25: 1 and 3 either way
        best(w, 5, 1, 4, 1, 1);
    }

    private static void strokesEdges() {
        WhichClub w = with(101);
        int[][] bad = {{-1, 0, 0}, {31, 0, 0}, {0, -1, 0}, {0, 5, 0}, {0, 0, -1}, {0, 0, 3}};
        for (int[] b : bad) {
            due(12, "strokes(" + b[0] + ", " + b[1] + ", " + b[2] + ")", w.strokes(b[0], b[1], b[2]), NONE);
        }
        best(new WhichClub(), 0, 4, 6, 1, -2);
        best(new WhichClub(), 25, 4, 3, 2, -2);
        w = with(303, 303);
        w.mend(0, 4, 29);
        // 27 .. 30, four in 30: 27 28 30 green, 29 the pin
        best(w, 0, 1, 17, 7, 0);
        w = with(3);
        // a spread of 3 to nowhere, four times: a denominator of 7 to the power of 4
        w.mend(0, 4, 1);
        w.mend(2, 0, 1);
        w.mend(3, 0, 1);
        due(12, "a long way down", w.strokes(30, 4, 1) == 2 && w.strokes(30, 4, 0) == 3 ? 1 : 0, 1);
    }

    private static void lawful(WhichClub w, int cell, int n, long above, long below) {
        String call = "byLaw(" + cell + ", " + n + ", ";
        due(13, call + "0)", w.byLaw(cell, n, 0), above);
        due(13, call + "1)", w.byLaw(cell, n, 1), below);
    }

    private static void byLaw() {
        WhichClub w = with(200, 190);
        // 20 is told 19 and 1: to 19, then by 20 of 1 cell, to the green
        lawful(w, 0, 1, 3, 1);
        lawful(w, 0, 2, 7, 2);
        lawful(w, 0, 3, 7, 2);
        lawful(w, 0, 4, 7, 2);
        lawful(w, 0, 0, 6, 1);
        lawful(w, 20, 3, 1, 1);
        lawful(w, 21, 3, 3, 2);
        law(w, "0-k");
        lawful(w, 0, 3, 2, 1);
        law(w, "k");
        lawful(w, 0, 1, 3, 1);
        w.mend(1, 2, 1);
        // 18, 19, 20
        lawful(w, 0, 1, 8, 3);
        w.mend(19, 0, 3);
        // 19 is water: 1 and 6
        lawful(w, 0, 1, 13, 3);
        lawful(new WhichClub(), 0, 3, 6, 1);
        int[][] bad = {{-1, 0, 0}, {31, 0, 0}, {0, -1, 0}, {0, 5, 0}, {0, 0, -1}, {0, 0, 2}};
        for (int[] b : bad) {
            due(13, "byLaw(" + b[0] + ", " + b[1] + ", " + b[2] + ")", w.byLaw(b[0], b[1], b[2]), NONE);
        }
    }

    private static void told(WhichClub w, int cell, int n, long... want) {
        for (int part = 0; part <= 6; part++) {
            due(14, "lie(" + cell + ", " + n + ", " + part + ")", w.lie(cell, n, part), want[part]);
        }
    }

    private static void lie() {
        WhichClub w = with(100, 120);
        w.mend(0, 3, 0);
        w.mend(1, 3, 0);
        // of 11 he takes 10 (to 19: 3), of 12 he takes 12 (to 21: 5/2)
        told(w, 9, 1, 5, 2, 1, 1, 2, 1, 2);
        // from 19 by the law 10 (to 29: 5/2)
        told(w, 9, 2, 5, 2, 1, 1, 1, 1, 1);
        // of 12 he takes 12: nothing to be gained
        told(w, 8, 1, 2, 1, 0, 0, 1, 0, 1);
        // of 10 he takes 10
        told(w, 10, 1, 2, 1, 0, 0, 1, 0, 1);
        law(w, "d<9&k");
        // untold he takes 10, told less than 9 he takes 12: from 8, x is -4, and half of it does nothing
        told(w, 8, 1, 2, 1, -4, 1, 1, 0, 1);
    }

    private static void lieTies() {
        WhichClub w = with(90, 100, 120);
        w.mend(0, 3, 2);
        w.mend(1, 3, 0);
        w.mend(2, 3, 0);
        w.mend(19, 0, 4);
        // of 11 he takes 9 (to 18: 3); of 10 he takes 10 (to 19), of 12 he takes 12 (to 21): both 5/2
        told(w, 9, 1, 5, 2, -1, 1, 2, 1, 2);
        law(w, "k=1?d=9;k=2?d=14;0");
        // -2 is nearer 0 than 3
        told(w, 9, 1, 5, 2, -2, 1, 2, 1, 2);
        law(w, "k=1?d=8;k=2?d=13;0");
        told(w, 9, 1, 5, 2, 2, 1, 2, 1, 2);
        law(w, "k=1?d=6;k=2?d=17;0");
        told(w, 9, 1, 5, 2, -5, 1, 2, 0, 1);
        law(w, "k=1?d=5;k=2?d=17;0");
        told(w, 9, 1, 3, 1, 0, 0, 1, 0, 1);
        law(w, "k=1?d=0-2;0");
        w.mend(17, 0, 1);
        // from 17, 3 cells, told as -2: 10 from the rough to 26
        told(w, 17, 1, 5, 2, 0, 0, 1, 0, 1);
        w.mend(25, 0, 2);
        // 9 less 1 goes to 25, sand: 1 and 2 and 1
        told(w, 17, 1, 5, 2, -5, 3, 2, 0, 1);
    }

    private static void lieKnown() {
        WhichClub w = with(110, 170);
        w.mend(0, 3, 0);
        w.mend(1, 3, 0);
        w.mend(20, 0, 2);
        w.mend(26, 0, 4);
        // of 11 he takes 11 to the pin
        told(w, 9, 1, 2, 1, 0, 0, 1, 0, 1);
        w.mend(0, 1, 10);
        w.mend(0, 3, 1);
        // 10 to 19: 3; 17 to 26: 5/2, once he is told 15: too much for half of it
        told(w, 9, 1, 5, 2, 4, 1, 2, 0, 1);
        law(w, "k&d>11&d<14");
        // 12 or 13: x 1; half of 2 is 1
        told(w, 9, 1, 5, 2, 1, 1, 2, 1, 2);
        law(w, "k&d=13");
        // x 2; half of 4 is 2
        told(w, 9, 1, 5, 2, 2, 1, 2, 1, 2);
        law(w, "k&d=10");
        // half of -3 is -1, cut toward 0
        told(w, 9, 1, 5, 2, -1, 1, 2, 1, 2);
        law(w, "k&d=9");
        told(w, 9, 1, 5, 2, -2, 1, 2, 1, 2);
        law(w, "k&d=8");
        told(w, 9, 1, 5, 2, -3, 1, 2, 0, 1);
    }

    private static void lieEdges() {
        WhichClub w = with(100);
        int[][] bad = {{-1, 1, 0}, {31, 1, 0}, {0, 0, 0}, {0, 5, 0}, {0, 1, -1}, {0, 1, 7}, {20, 1, 0}, {25, 4, 2}};
        for (int[] b : bad) {
            due(14, "lie(" + b[0] + ", " + b[1] + ", " + b[2] + ")", w.lie(b[0], b[1], b[2]), NONE);
        }
        due(14, "no clubs", new WhichClub().lie(0, 1, 0), NONE);
        told(w, 0, 4, 3, 1, 0, 0, 1, 0, 1);
    }

    private static void pin(WhichClub w, int behind, int holes, long above, long below, long which) {
        int dh = 10 * (behind + 9) + holes;
        due(15, "atPin(" + dh + ", 0)", w.atPin(dh, 0), above);
        due(15, "atPin(" + dh + ", 1)", w.atPin(dh, 1), below);
        due(15, "atPin(" + dh + ", 2)", w.atPin(dh, 2), which);
    }

    private static void atPin() {
        WhichClub w = new WhichClub();
        pin(w, -9, 1, 1, 1, 0);
        pin(w, 0, 1, 1, 1, 0);
        pin(w, 1, 1, 1, 4, 1);
        pin(w, 2, 1, 0, 1, 0);
        pin(w, 0, 2, 1, 1, 0);
        // 3/12 is even by then, 6/12 once more 1/4
        pin(w, 1, 2, 3, 8, 1);
        pin(w, 2, 2, 1, 16, 1);
        pin(w, 3, 2, 0, 1, 0);
        pin(w, 9, 2, 0, 1, 0);
        w.mend(0, 7, 5);
        w.mend(0, 8, 7);
        pin(w, 1, 2, 5, 12, 0);
        pin(w, 2, 2, 25, 144, 1);
        w.mend(0, 8, 6);
        // 5/12 + 1/12 * 5/12
        pin(w, 1, 2, 65, 144, 1);
        w.mend(0, 8, 0);
        w.mend(0, 7, 12);
        pin(w, 2, 2, 1, 1, 1);
        pin(w, 0, 2, 1, 1, 0);
        w.mend(0, 7, 0);
        pin(w, 1, 2, 0, 1, 0);
        int[][] bad = {{-1, 0}, {0, 0}, {3, 0}, {9, 0}, {191, 0}, {192, 0}, {90, 0}, {93, 0}, {91, -1}, {91, 3}, {Integer.MIN_VALUE, 0},
            {Integer.MAX_VALUE, 0}};
        for (int[] b : bad) {
            due(15, "atPin(" + b[0] + ", " + b[1] + ")", w.atPin(b[0], b[1]), NONE);
        }
    }

    private static void practice(WhichClub w, long above, long below, long which) {
        due(16, "practise(0)", w.practise(0), above);
        due(16, "practise(1)", w.practise(1), below);
        due(16, "practise(2)", w.practise(2), which);
    }

    private static void practise() {
        WhichClub w = with(201);
        // 8/3 now; to the pin at once: 2; with a better touch 47/18
        practice(w, 2, 3, 1);
        w.mend(0, 2, 0);
        practice(w, 0, 1, 0);
        w.mend(0, 1, 22);
        practice(w, 1, 12, 0);
        w.mend(0, 6, 11);
        practice(w, 1, 12, 0);
        w.mend(0, 6, 12);
        practice(w, 0, 1, 0);
        practice(new WhichClub(), 0, 1, 0);
        // three shots do not come to the green: no touch helps
        practice(with(60), 0, 1, 0);
        due(16, "practise(3)", w.practise(3), NONE);
        due(16, "practise(-1)", w.practise(-1), NONE);
    }

    private static void practiseTies() {
        WhichClub w = with(201, 201);
        practice(w, 2, 3, 1);
        w.mend(0, 1, 3);
        practice(w, 2, 3, 2);
        due(16, "it is only thought of: spread", w.of(1, 2), 1);
        due(16, "touch", w.of(0, 6), 6);
        due(16, "no changes more", w.count(4), 1);
        due(16, "strokes as before", w.strokes(0, 3, 0), 8);
        w = with(203);
        // 17 .. 23, each short one 5/2, each long one 3/2: a spread of 2 brings 2/35, TOUCH 1/14
        practice(w, 1, 14, 0);
    }

    private static void dream() {
        WhichClub w = with(200, 190);
        // to 19 and on to the green, 7/2, against 2
        due(17, "dream(0)", w.dream(0), 3);
        due(17, "dream(1)", w.dream(1), 2);
        due(17, "he still believes", w.believed(0), 1);
        due(17, "the number stands", w.of(1, 3), 1);
        due(17, "by the law as before", w.byLaw(0, 3, 0), 7);
        w.mend(0, 3, 0);
        due(17, "nothing", w.dream(0), 0);
        due(17, "nothing", w.dream(1), 1);
        w = with(200, 250);
        w.mend(0, 3, 9);
        w.mend(1, 3, 0);
        law(w, "c");
        // 29 is taken, to the pin; 25 would be
        due(17, "below 0", w.dream(0), -1);
        due(17, "below 0", w.dream(1), 2);
        w = with(60, 90);
        w.mend(27, 0, 2);
        law(w, "d<5&c=10&k");
        // only a fourth shot would be another one
        due(17, "three shots", w.dream(0), 0);
        due(13, "four shots", w.byLaw(0, 4, 0), 7);
        w.mend(1, 3, 0);
        due(13, "four shots", w.byLaw(0, 4, 0), 11);
        due(17, "dream(2)", w.dream(2), NONE);
        due(17, "dream(-1)", w.dream(-1), NONE);
        due(17, "no clubs", new WhichClub().dream(0), 0);
    }

    private static void judge() {
        WhichClub w = with(101, 60);
        bytes(w, 0, 0, 0, 9, 9, 0, 20, 3, 1, 9);
        due(18, "all can be", w.judge(0), -2);
        w.put(0, 8, 10);
        due(18, "6 does not go 7", w.judge(0), 2);
        w.put(0, 5, 17);
        due(18, "10 does not go 8", w.judge(0), 1);
        w.put(0, 2, 8);
        due(18, "10 does not go 8", w.judge(0), 0);
        bytes(w, 0, 0, 0, 9, 0, 0, 0);
        due(18, "it did not lie where it was hit from", w.judge(0), 1);
        w.mend(10, 0, 3);
        due(18, "water", w.judge(0), -2);
        bytes(w, 0, 0, 0, 10);
        due(18, "not in the water", w.judge(0), 0);
        bytes(w, 0, 20, 1, 26);
        due(18, "from the green", w.judge(0), 0);
        bytes(w, 0, 24, 1, 18);
        w.mend(24, 0, 0);
        due(18, "backward", w.judge(0), -2);
    }

    private static void judgeEdges() {
        WhichClub w = with(100);
        due(18, "no shelf", w.judge(-1), -1);
        due(18, "no shelf", w.judge(6), -1);
        due(18, "nothing", w.judge(5), -11);
        w.body(1);
        w.keep(5, 0);
        due(18, "a word", w.judge(5), -12);
        w.row(5, 1, 3);
        due(18, "shorts", w.judge(5), -12);
        w.row(5, 0, 0);
        due(18, "an empty row", w.judge(5), -2);
        int[][] bad = {{-1, 0, 10}, {31, 0, 10}, {0, -1, 10}, {0, 1, 10}, {0, 0, -1}, {0, 0, 31}, {30, 0, 40}};
        for (int[] b : bad) {
            bytes(w, 0, 0, 0, 10, b[0], b[1], b[2]);
            due(18, "no cell, no club", w.judge(0), 1);
        }
        bytes(w, 0, 0, 0, 10, 0);
        due(18, "an end that lacks", w.judge(0), 1);
        bytes(w, 0, 0, 0, 10, 0, 0);
        due(18, "an end that lacks", w.judge(0), 1);
        bytes(w, 0, 0);
        due(18, "an end that lacks", w.judge(0), 0);
        bytes(w, 0, 0, 0, 11, 0, 0);
        due(18, "the first", w.judge(0), 0);
    }

    private static void truly() {
        WhichClub w = with(101, 100);
        bytes(w, 0, 0, 0, 9);
        due(19, "8, 9, 10: the least", w.truly(0, 0), 8);
        bytes(w, 0, 0, 0, 9, 0, 0, 11);
        due(19, "10", w.truly(0, 0), 10);
        bytes(w, 0, 0, 0, 9, 0, 0, 12);
        due(19, "cannot be", w.truly(0, 0), -2);
        bytes(w, 0, 0, 0, 9, 0, 1, 12, 0, 0, 8);
        due(19, "of the other", w.truly(0, 1), 12);
        due(19, "of this one", w.truly(0, 0), 8);
        w.mend(0, 5, 2);
        due(19, "wind", w.truly(0, 0), 6);
        bytes(w, 0, 0, 0, 5);
        due(19, "below 5 there is no wind: 4 goes 4", w.truly(0, 0), 4);
        w.mend(0, 5, 0);
        w.mend(0, 0, 2);
        due(19, "sand: 8 goes 4", w.truly(0, 0), 8);
        w.mend(0, 0, 0);
        w.mend(7, 0, 3);
        w.mend(8, 0, 3);
        bytes(w, 0, 0, 0, 0);
        // 6 has one way into the water, 7 two, 8 two, 9 one; 0 and 1 have two and one that lie there
        due(19, "the likeliest", w.truly(0, 0), 0);
        bytes(w, 0, 0, 0, 0, 0, 0, 0, 0, 0, 6);
        due(19, "the likeliest of 5, 6 and 7", w.truly(0, 0), 7);
        bytes(w, 0, 29, 0, 30);
        w.mend(0, 4, 29);
        w.mend(28, 0, 1);
        bytes(w, 0, 28, 0, 30);
        due(19, "held within: all beyond 30", w.truly(0, 0), 4);
    }

    private static void trulyEdges() {
        WhichClub w = with(101, 101);
        due(19, "nothing", w.truly(0, 0), -11);
        due(19, "no club", w.truly(0, 2), -1);
        due(19, "no club", w.truly(0, -1), -1);
        due(19, "no shelf", w.truly(6, 0), -1);
        w.row(0, 3, 3);
        due(19, "longs", w.truly(0, 0), -12);
        w.body(0);
        w.keep(0, 0);
        due(19, "a word", w.truly(0, 0), -12);
        w.row(0, 0, 0);
        due(19, "no three", w.truly(0, 0), -2);
        int[][] bad = {{20, 0, 25}, {-1, 0, 10}, {31, 0, 30}, {0, 0, -1}, {0, 0, 31}};
        for (int[] b : bad) {
            bytes(w, 0, 0, 0, 10, b[0], b[1], b[2]);
            due(19, "one that cannot be", w.truly(0, 0), -2);
            bytes(w, 0, b[0], b[1], b[2], 0, 1, 10);
            due(19, "none of the other's", w.truly(0, 1), 9);
        }
        bytes(w, 0, 0, 0, 10, 31, 0);
        due(19, "an end that lacks is passed over", w.truly(0, 0), 9);
        bytes(w, 0, 0, 0);
        due(19, "an end that lacks is no three", w.truly(0, 0), -2);
        int[] many = new int[60];
        for (int i = 0; i < 60; i += 3) {
            many[i] = 19;
            many[i + 2] = 30;
        }
        w.mend(0, 2, 3);
        bytes(w, 0, many);
        due(19, "twenty of seven ways each", w.truly(0, 0), 14);
    }

    private static void guessed() {
        WhichClub w = with(200, 100);
        due(20, "nothing", w.guessed(0), -11);
        due(20, "no shelf", w.guessed(-1), -1);
        due(20, "no shelf", w.guessed(6), -1);
        w.row(0, 4, 3);
        due(20, "booleans", w.guessed(0), -12);
        w.body(0);
        w.keep(0, 0);
        due(20, "a word", w.guessed(0), -12);
        bytes(w, 0, 0, 0, 99, 10, 1, -5, 10, 0, 20, 5, 1, 0);
        due(20, "three of four", w.guessed(0), 3);
        bytes(w, 0, 20, 0, 0, 31, 0, 0, -1, 1, 0, 0, 2, 0, 0, -2, 0);
        due(20, "none", w.guessed(0), 0);
        bytes(w, 0, 0, 0, 1, 0, 0);
        due(20, "an end that lacks", w.guessed(0), 1);
        law(w, "k");
        due(20, "by the text", w.guessed(0), 0);
        bytes(w, 0, 0, 1, 1);
        due(20, "by the text", w.guessed(0), 1);
        w.mend(0, 0, 4);
        due(20, "green now", w.guessed(0), 0);
        WhichClub none = new WhichClub();
        bytes(none, 0, 0, -2, 0, 0, 0, 0);
        due(20, "no clubs", none.guessed(0), 0);
    }

    private static void drawn() {
        WhichClub w = with(200);
        due(21, "to the pin, one putt", w.drawn(1, 10, 0), 2);
        due(21, "twenty of them", w.drawn(1, 200, 0), 40);
        due(21, "by the law", w.drawn(1, 201, 0), 40);
        due(21, "dry", w.drawn(1, 201, 1), 0);
        w.mend(0, 6, 0);
        w.mend(0, 1, 21);
        due(21, "two putts", w.drawn(1, 50, 0), 15);
        w.mend(0, 6, 12);
        due(21, "one putt", w.drawn(1, 50, 0), 10);
        w.mend(21, 0, 3);
        due(21, "never: 12 shots, 12 of water, 5", w.drawn(1, 10, 0), 29);
        due(21, "water", w.drawn(1, 10, 1), 12);
        due(21, "twenty times", w.drawn(7, 201, 1), 240);
        w.mend(0, 1, 0);
        due(21, "never: 12 and 5", w.drawn(1, 30, 0), 51);
        due(21, "dry", w.drawn(1, 30, 1), 0);
        w.mend(0, 1, 2);
        due(21, "ten shots to the pin", w.drawn(1, 10, 0), 11);
        w.mend(0, 0, 4);
        due(21, "from the green", w.drawn(1, 10, 0), 1);
        WhichClub two = with(200, 190);
        due(21, "the best", two.drawn(9, 100, 0), 20);
        two.mend(0, 6, 12);
        due(21, "by the law: 19, then the green", two.drawn(9, 101, 0), 30);
        due(21, "nothing happened in deed", two.led(0) + two.led(1) + two.of(0, 9), 0);
    }

    private static int z;

    private static int draw(int ways) {
        z = z * 1103515245 + 12345;
        return (z >>> 8) % ways;
    }

    /** One club of 10 and spread 3, told shot by shot. */
    private static void drawnByDraws() {
        for (int seed = -20; seed <= 20; seed++) {
            WhichClub w = with(103);
            w.mend(9, 0, 3);
            w.mend(10, 0, 3);
            w.mend(0, 4, 25);
            w.mend(30, 0, 0);
            z = seed;
            int strokes = 0;
            int water = 0;
            for (int hole = 0; hole < 6; hole++) {
                int cell = 0;
                int shots = 0;
                while (shots < 12 && (cell < 20 || cell > 29)) {
                    int to = Math.max(0, Math.min(30, cell + (cell > 25 ? -10 : 10) + draw(7) - 3));
                    shots++;
                    if (to == 9 || to == 10) {
                        strokes++;
                        water++;
                    } else {
                        cell = to;
                    }
                }
                boolean isThere = cell >= 20 && cell <= 29;
                strokes += shots + (!isThere ? 5 : cell == 25 ? 1 : draw(12) < 6 ? 1 : 2);
            }
            due(21, "drawn(" + seed + ", 60, 0)", w.drawn(seed, 60, 0), strokes);
            due(21, "drawn(" + seed + ", 61, 1)", w.drawn(seed, 61, 1), water);
        }
        // a spread of 0 takes a draw, too
        for (int seed = 1; seed <= 20; seed++) {
            WhichClub w = with(220);
            z = seed;
            int strokes = 0;
            for (int hole = 0; hole < 3; hole++) {
                draw(1);
                strokes += 1 + (draw(12) < 6 ? 1 : 2);
            }
            due(21, "drawn(" + seed + ", 30, 0)", w.drawn(seed, 30, 0), strokes);
        }
    }

    private static void drawnEdges() {
        WhichClub w = new WhichClub();
        due(21, "no clubs", w.drawn(1, 10, 0), -5);
        w.mend(0, 0, 4);
        due(21, "no clubs, on the green", w.drawn(1, 11, 1), -5);
        int[][] bad = {{0, 0}, {1, 0}, {9, 0}, {210, 0}, {211, 0}, {12, 0}, {19, 0}, {10, -1}, {10, 2}, {-10, 0}, {-1, 0},
            {Integer.MIN_VALUE, 0}, {Integer.MAX_VALUE, 0}};
        for (int[] b : bad) {
            due(21, "BAD ahead of STATE: drawn(1, " + b[0] + ", " + b[1] + ")", w.drawn(1, b[0], b[1]), -1);
        }
        w.club(100);
        for (int[] b : bad) {
            due(21, "drawn(1, " + b[0] + ", " + b[1] + ")", w.drawn(1, b[0], b[1]), -1);
        }
    }

    /** What was worked out is worked out anew behind every kind of change. */
    private static void nothingIsLeftOver() {
        WhichClub w = with(101);
        best(w, 10, 1, 5, 2, 0);
        lawful(w, 10, 1, 5, 2);
        w.club(100);
        best(w, 10, 1, 2, 1, 1);
        w.mend(1, 1, 12);
        w.mend(0, 3, 9);
        lawful(w, 10, 1, 5, 2);
        law(w, "0-k");
        w.mend(0, 2, 0);
        lawful(w, 10, 1, 2, 1);
        w.undo();
        lawful(w, 10, 1, 5, 2);
        w.redo();
        lawful(w, 10, 1, 2, 1);
        bytes(w, 0, 1, 0, 0);
        w.mend(0, 1, 3);
        best(w, 19, 1, 5, 2, 0);
        w.clubs(0, 0, 1);
        best(w, 19, 1, 2, 1, 2);
        practice(w, 1, 12, 0);
        w.mend(0, 6, 12);
        practice(w, 0, 1, 0);
        w.mend(0, 4, 18);
        best(w, 19, 1, 2, 1, 2);
        best(w, 19, 0, 2, 1, -2);
        WhichClub other = with(101);
        best(other, 5, 0, 5, 1, -2);
        lawful(other, 6, 0, 4, 1);
        other.mend(0, 4, 10);
        best(other, 5, 0, 3, 1, -2);
        lawful(other, 6, 0, 2, 1);
        due(17, "dream(0)", other.dream(0), 0);
        other.mend(0, 4, 29);
        lawful(other, 0, 0, 7, 1);
        w.mend(0, 5, 3);
        due(12, "in the wind", w.strokes(0, 1, 2), 1);
    }
}
