/**
 * Each sentence of the document's parts 2 and 3, of DRAWN in part 4, and of promises 12 to 21, that names a boundary has
 * a test of its own here: the last that is allowed, the first beyond it on either side, and that what is refused
 * changes nothing.
 */
public final class BoundariesOfStrokes extends Checks {
    private static final int[] NO_CELL = {LEAST_INT, -1, 31, 32, MOST_INT};
    private static final int[] NO_SHELF = {LEAST_INT, -1, 6, 7, MOST_INT};

    public static void main(String[] args) {
        // strokes
        refusedStrokes();
        shotsAreZeroToFour();
        whatIsNotOnTheGreen();
        whichClubOrNot();
        lowestTerms();
        refusedByLaw();
        refusedLie();
        toldIsFiveEitherWay();
        ofLikeLiesTheNearest();
        shotsInAll();
        // the pin, practice, dreams
        refusedAtPin();
        atLeastEven();
        boldAtItsEdges();
        refusedPractise();
        twelveAtMostZeroAtLeast();
        practiseIsOfThreeShots();
        ofLikePracticeTheLeast();
        dreamIsOfThreeShots();
        dreamBelowZero();
        // rounds told
        refusedRounds();
        judgedFirstThree();
        judgedEnds();
        trulyZeroToThirty();
        trulyLikeliest();
        trulyNot();
        guessedOfAllThrees();
        // draws
        refusedDrawn();
        holesAreOneToTwenty();
        twelveShotsAtMost();
        drawnByTheBestOfThree();
        drawnAtTheEdgesOfSlips();
        drawnPutts();
        drawnBySeedsThatWrap();
        finish();
    }

    private static void best(WhichClub w, int cell, int n, long above, long below, long club) {
        String call = "strokes(" + cell + ", " + n + ", ";
        due(12, call + "0)", w.strokes(cell, n, 0), above);
        due(12, call + "1)", w.strokes(cell, n, 1), below);
        due(12, call + "2)", w.strokes(cell, n, 2), club);
    }

    private static void lawful(WhichClub w, int cell, int n, long above, long below) {
        String call = "byLaw(" + cell + ", " + n + ", ";
        due(13, call + "0)", w.byLaw(cell, n, 0), above);
        due(13, call + "1)", w.byLaw(cell, n, 1), below);
    }

    private static void law(WhichClub w, String s) {
        due(7, s, text(w, s), 1);
    }

    // ---- strokes

    /** "STROKES from a CELL with n SHOTS (0 .. 4): part 0, 1; the CLUB (2; NOT)." */
    private static void refusedStrokes() {
        for (int cell : NO_CELL) {
            for (int part = 0; part <= 2; part++) {
                int which = part;
                refused(12, "strokes(" + cell + ", 3, " + part + ")", w -> w.strokes(cell, 3, which), NONE);
            }
            due(12, "BAD ahead of NOT", new WhichClub().strokes(cell, 0, 2), NONE);
        }
        for (int n : new int[] {LEAST_INT, -1, 5, 6, MOST_INT}) {
            refused(12, "strokes(0, " + n + ", 0)", w -> w.strokes(0, n, 0), NONE);
            refused(12, "strokes(25, " + n + ", 2)", w -> w.strokes(25, n, 2), NONE);
        }
        for (int part : new int[] {LEAST_INT, -1, 3, 4, MOST_INT}) {
            refused(12, "strokes(0, 3, " + part + ")", w -> w.strokes(0, 3, part), NONE);
        }
    }

    /** "n SHOTS (0 .. 4) at most ahead of the green": a club of 5 is at the green of 20 with the fourth. */
    private static void shotsAreZeroToFour() {
        WhichClub w = with(50);
        best(w, 0, 0, 6, 1, -2);
        best(w, 0, 1, 6, 1, 0);
        best(w, 0, 2, 6, 1, 0);
        best(w, 0, 3, 6, 1, 0);
        best(w, 0, 4, 5, 1, 0);
        lawful(w, 0, 3, 6, 1);
        lawful(w, 0, 4, 5, 1);
        w.mend(0, 1, 4);
        best(w, 0, 4, 6, 1, 0);
        best(w, 4, 4, 5, 1, 0);
        // no more than are needed
        best(w, 16, 4, 2, 1, 0);
        best(w, 16, 1, 2, 1, 0);
        best(w, 30, 4, 3, 2, -2);
        w.mend(30, 0, 0);
        best(w, 30, 4, 5, 2, 0);
        best(w, 30, 0, 4, 1, -2);
    }

    /** "what is not on the green behind the last one counts 2 more than CELLS to THE PIN by 5 (cut) strokes". */
    private static void whatIsNotOnTheGreen() {
        int[] far = {1, 4, 5, 6, 9, 10, 14, 15, 19, 20, 24, 25, 28, 29};
        int[] count = {2, 2, 3, 3, 3, 4, 4, 5, 5, 6, 6, 7, 7, 7};
        WhichClub ahead = with(100);
        WhichClub behind = with(100);
        for (int cell = 20; cell <= 30; cell++) {
            ahead.mend(cell, 0, 0);
            behind.mend(cell, 0, 0);
        }
        ahead.mend(0, 4, 29);
        behind.mend(0, 4, 1);
        for (int i = 0; i < far.length; i++) {
            best(ahead, 29 - far[i], 0, count[i], 1, -2);
            best(behind, 1 + far[i], 0, count[i], 1, -2);
            lawful(ahead, 29 - far[i], 0, count[i], 1);
            lawful(behind, 1 + far[i], 0, count[i], 1);
        }
        best(ahead, 30, 0, 2, 1, -2);
        best(behind, 0, 0, 2, 1, -2);
        best(ahead, 29, 0, 1, 1, -2);
        best(behind, 1, 0, 1, 1, -2);
    }

    /** "the CLUB (of like ones the least; NOT: on the green, or n is 0, or no CLUBS)". */
    private static void whichClubOrNot() {
        WhichClub none = new WhichClub();
        WhichClub w = with(100, 100, 100);
        for (int n = 0; n <= 4; n++) {
            int shots = n;
            refused(12, "no clubs", WhichClub::new, x -> x.strokes(0, shots, 2), -2);
            refused(12, "on the green", x -> x.strokes(20, shots, 2), -2);
            best(none, 0, n, 6, 1, -2);
            best(none, 19, n, 2, 1, -2);
            best(none, 25, n, 3, 2, -2);
            lawful(none, 0, n, 6, 1);
            best(w, 20, n, 1, 1, -2);
            best(w, 21, n, 3, 2, -2);
            due(12, "like ones", w.strokes(10, n, 2), n == 0 ? -2 : 0);
        }
        refused(12, "no shots", x -> x.strokes(0, 0, 2), -2);
        w.mend(0, 1, 11);
        best(w, 10, 1, 2, 1, 1);
        w.mend(1, 1, 11);
        best(w, 10, 1, 2, 1, 2);
        w.mend(2, 1, 11);
        best(w, 10, 1, 5, 2, 0);
        // six of them, the last the best
        w = with(10, 20, 30, 40, 50, 60);
        best(w, 14, 1, 2, 1, 5);
        best(w, 15, 1, 2, 1, 4);
        // like ones by other ways: 6 and one putt, or 20 in two
        w = with(30, 60);
        best(w, 14, 2, 2, 1, 1);
        w.mend(20, 0, 2);
        w.mend(0, 4, 17);
        best(w, 14, 2, 2, 1, 0);
    }

    /** "a fraction in lowest terms". */
    private static void lowestTerms() {
        WhichClub w = with(203);
        // 17, 18, 19: 2, the pin: 1, 21, 22, 23: 3/2; 1 and 23/14
        best(w, 0, 1, 37, 14, 0);
        w.mend(0, 6, 12);
        // 1 and (6 + 4) / 7
        best(w, 0, 1, 17, 7, 0);
        w.mend(0, 6, 0);
        // 1 and (6 + 1 + 6) / 7
        best(w, 0, 1, 20, 7, 0);
        w.mend(0, 6, 7);
        // 1 and (6 + 1 + 3 * 17/12) / 7
        best(w, 0, 1, 73, 28, 0);
        w.mend(0, 6, 11);
        // 1 and (7 + 3 * 13/12) / 7
        best(w, 0, 1, 69, 28, 0);
        w.mend(0, 2, 0);
        best(w, 0, 1, 2, 1, 0);
        best(w, 0, 4, 2, 1, 0);
        // the pin in 10, water in the six cells about it
        w = with(103);
        w.mend(0, 4, 10);
        for (int cell = 7; cell <= 13; cell++) {
            w.mend(cell, 0, cell == 10 ? 0 : 3);
        }
        // 1 and 6/7 of 1 and what is next, and 1/7 of one putt; 4 at last
        best(w, 0, 0, 4, 1, -2);
        best(w, 0, 1, 38, 7, 0);
        best(w, 0, 2, 326, 49, 0);
        best(w, 0, 3, 2642, 343, 0);
        best(w, 0, 4, 20654, 2401, 0);
        lawful(w, 0, 4, 20654, 2401);
    }

    /** "BY THE LAW likewise (part 0, 1)." */
    private static void refusedByLaw() {
        for (int cell : NO_CELL) {
            refused(13, "byLaw(" + cell + ", 3, 0)", w -> w.byLaw(cell, 3, 0), NONE);
        }
        for (int n : new int[] {LEAST_INT, -1, 5, 6, MOST_INT}) {
            refused(13, "byLaw(0, " + n + ", 0)", w -> w.byLaw(0, n, 0), NONE);
            refused(13, "byLaw(20, " + n + ", 1)", w -> w.byLaw(20, n, 1), NONE);
        }
        for (int part : new int[] {LEAST_INT, -1, 2, 3, MOST_INT}) {
            refused(13, "byLaw(0, 3, " + part + ")", w -> w.byLaw(0, 3, part), NONE);
        }
        WhichClub w = with(100);
        w.mend(30, 0, 0);
        lawful(w, 30, 4, 2, 1);
        lawful(w, 0, 4, 3, 1);
        lawful(w, 20, 4, 1, 1);
    }

    /** "BEST LIE from a CELL with n SHOTS (1 .. 4): STROKES (part 0, 1), the x (2), WORTH (3, 4), what KNOWN is worth (5, 6). BAD also on the green, or no CLUBS." */
    private static void refusedLie() {
        for (int cell : new int[] {LEAST_INT, -1, 20, 21, 22, 29, 31, 32, MOST_INT}) {
            for (int part = 0; part <= 6; part += 2) {
                int which = part;
                refused(14, "lie(" + cell + ", 2, " + part + ")", w -> w.lie(cell, 2, which), NONE);
            }
        }
        for (int n : new int[] {LEAST_INT, -1, 0, 5, 6, MOST_INT}) {
            refused(14, "lie(0, " + n + ", 0)", w -> w.lie(0, n, 0), NONE);
        }
        for (int part : new int[] {LEAST_INT, -1, 7, 8, MOST_INT}) {
            refused(14, "lie(0, 2, " + part + ")", w -> w.lie(0, 2, part), NONE);
        }
        for (int part = 0; part <= 6; part++) {
            int which = part;
            refused(14, "no clubs", WhichClub::new, w -> w.lie(0, 1, which), NONE);
        }
        WhichClub w = with(100);
        w.mend(30, 0, 0);
        due(14, "the last cell", w.lie(30, 1, 0), 2);
        due(14, "the tee", w.lie(0, 4, 0), 3);
        due(14, "the last ahead of the green", w.lie(19, 1, 0), 5);
        due(14, "the pin's cell", w.lie(20, 1, 0), NONE);
        w.mend(0, 4, 5);
        due(14, "the pin's cell", w.lie(5, 1, 0), NONE);
    }

    private static void told(WhichClub w, int cell, int n, long... want) {
        for (int part = 0; part <= 6; part++) {
            due(14, "lie(" + cell + ", " + n + ", " + part + ")", w.lie(cell, n, part), want[part]);
        }
    }

    /** "may tell d as x more (-5 .. 5)", "each told x counts as half of it (cut toward 0)". From 9, d 11, 11 cells are to the pin. */
    private static void toldIsFiveEitherWay() {
        for (int x = -8; x <= 8; x++) {
            WhichClub w = with(100, 110);
            law(w, "k&d=" + (11 + x));
            int known = Math.abs(x) <= 2 ? 1 : 0;
            if (x == 0) {
                told(w, 9, 1, 2, 1, 0, 0, 1, 0, 1);
            } else if (Math.abs(x) <= 5) {
                told(w, 9, 1, 2, 1, x, 1, 1, known, 1);
            } else {
                told(w, 9, 1, 3, 1, 0, 0, 1, 0, 1);
            }
        }
    }

    /** "(of like ones the one nearest 0, then the one below 0)". */
    private static void ofLikeLiesTheNearest() {
        for (int a = -6; a <= 6; a++) {
            for (int b = -6; b <= 6; b++) {
                WhichClub w = with(100, 110);
                law(w, "k&(d=" + (11 + a) + "|d=" + (11 + b) + ")");
                int x = Math.abs(a) < Math.abs(b) || Math.abs(a) == Math.abs(b) && a < 0 ? a : b;
                due(14, a + " and " + b, w.lie(9, 1, 2), Math.abs(x) > 5 ? 0 : x);
            }
        }
        // x 0 is nearest, though all the others do as well
        WhichClub w = with(100, 110);
        law(w, "k");
        told(w, 9, 1, 2, 1, 0, 0, 1, 0, 1);
        law(w, "0-k");
        told(w, 9, 1, 3, 1, 0, 0, 1, 0, 1);
        // the fewest, though it is the farthest: 11 to the pin, 12 to 21
        w = with(100, 120, 110);
        law(w, "k=1?d=12;k=2?d=16;0");
        told(w, 9, 1, 2, 1, 5, 1, 1, 1, 2);
        law(w, "k=1?d=10;k=2?d=6;0");
        told(w, 9, 1, 2, 1, -5, 1, 1, 1, 2);
        law(w, "k=1?d=8;k=2?d=6;0");
        told(w, 9, 1, 2, 1, -5, 1, 1, 0, 1);
        law(w, "k=1?d=9;k=2?d=6;0");
        told(w, 9, 1, 2, 1, -5, 1, 1, 1, 2);
    }

    /** "STROKES (that one SHOT, then BY THE LAW untold; n SHOTS in all)". */
    private static void shotsInAll() {
        WhichClub w = with(100, 110);
        law(w, "k&d=13");
        told(w, 9, 1, 2, 1, 2, 1, 1, 1, 1);
        // untold to 19, then by 10 to 29, where one putts: 7/2
        for (int n = 2; n <= 4; n++) {
            told(w, 9, n, 2, 1, 2, 3, 2, 3, 2);
        }
        w = with(70, 130, 100);
        law(w, "k=1?d=13;k=2?d>14&d<22;d=22&k=0");
        // untold to 10 (5), told 22 to 7 (5)
        told(w, 0, 1, 5, 1, 0, 0, 1, 0, 1);
        // untold to 10, then to 17 (4); told to 7, from there untold, 13 to the pin (3)
        told(w, 0, 2, 3, 1, 2, 1, 1, 1, 1);
        // untold to 10, 17 and 24 (9/2), and no more than these are needed
        told(w, 0, 3, 3, 1, 2, 3, 2, 3, 2);
        told(w, 0, 4, 3, 1, 2, 3, 2, 3, 2);
    }

    // ---- the pin, practice, dreams

    private static void pin(WhichClub w, int behind, int holes, long above, long below, long which) {
        int dh = 10 * (behind + 9) + holes;
        due(15, "atPin(" + dh + ", 0)", w.atPin(dh, 0), above);
        due(15, "atPin(" + dh + ", 1)", w.atPin(dh, 1), below);
        due(15, "atPin(" + dh + ", 2)", w.atPin(dh, 2), which);
    }

    /** "(dh: 10 times d and 9, and h)", "d strokes behind (-9 .. 9) with h holes (1, 2)". */
    private static void refusedAtPin() {
        for (int dh : new int[] {LEAST_INT, -11, -10, -9, -8, -2, -1, 0, 3, 9, 10, 13, 19, 90, 93, 99, 180, 183, 189, 190, 191, 192, 201, MOST_INT}) {
            refused(15, "atPin(" + dh + ", 0)", w -> w.atPin(dh, 0), NONE);
            refused(15, "atPin(" + dh + ", 2)", w -> w.atPin(dh, 2), NONE);
        }
        for (int part : new int[] {LEAST_INT, -1, 3, 4, MOST_INT}) {
            refused(15, "atPin(101, " + part + ")", w -> w.atPin(101, part), NONE);
        }
        WhichClub w = new WhichClub();
        pin(w, -9, 1, 1, 1, 0);
        pin(w, -9, 2, 1, 1, 0);
        pin(w, 9, 1, 0, 1, 0);
        pin(w, 9, 2, 0, 1, 0);
        due(15, "the first", w.atPin(1, 0), 1);
        due(15, "the last", w.atPin(182, 0), 0);
    }

    /** "how likely one is at least even at the end": 0 behind is even, 1 behind is not. */
    private static void atLeastEven() {
        WhichClub w = new WhichClub();
        for (int d = -9; d <= 0; d++) {
            pin(w, d, 1, 1, 1, 0);
            pin(w, d, 2, 1, 1, 0);
        }
        pin(w, 1, 1, 1, 4, 1);
        pin(w, 1, 2, 3, 8, 1);
        pin(w, 2, 2, 1, 16, 1);
        for (int d = 2; d <= 9; d++) {
            pin(w, d, 1, 0, 1, 0);
        }
        for (int d = 3; d <= 9; d++) {
            pin(w, d, 2, 0, 1, 0);
        }
    }

    /** "BOLD (0 .. 12; ..) one less, RISK (0 .. 12 less BOLD; ..) two more", "(.. of like ones SAFE)". */
    private static void boldAtItsEdges() {
        WhichClub w = new WhichClub();
        w.mend(0, 7, 0);
        pin(w, 1, 1, 0, 1, 0);
        pin(w, 1, 2, 0, 1, 0);
        w.mend(0, 8, 12);
        pin(w, 1, 1, 0, 1, 0);
        pin(w, 0, 1, 1, 1, 0);
        pin(w, 0, 2, 1, 1, 0);
        w.mend(0, 8, 11);
        w.mend(0, 7, 1);
        pin(w, 1, 1, 1, 12, 1);
        // now, or behind it: like ones
        pin(w, 1, 2, 1, 12, 0);
        pin(w, 2, 2, 1, 144, 1);
        w.mend(0, 8, 10);
        // 1/12, else 1/12 of what is left: 1/12 of it safe
        pin(w, 1, 2, 13, 144, 1);
        w.mend(0, 8, 0);
        // 1/12 + 11/12 * 1/12
        pin(w, 1, 2, 23, 144, 1);
        w.mend(0, 7, 12);
        pin(w, 1, 1, 1, 1, 1);
        pin(w, 1, 2, 1, 1, 0);
        pin(w, 2, 2, 1, 1, 1);
        pin(w, 3, 2, 0, 1, 0);
        pin(w, 2, 1, 0, 1, 0);
    }

    private static void practice(WhichClub w, long above, long below, long which) {
        due(16, "practise(0)", w.practise(0), above);
        due(16, "practise(1)", w.practise(1), below);
        due(16, "practise(2)", w.practise(2), which);
    }

    /** "PRACTISE (3 SHOTS): how much (part 0, 1), which (2).", "DREAM (3 SHOTS)." */
    private static void refusedPractise() {
        for (int part : new int[] {LEAST_INT, -1, 3, 4, MOST_INT}) {
            refused(16, "practise(" + part + ")", w -> w.practise(part), NONE);
        }
        for (int part : new int[] {LEAST_INT, -1, 2, 3, MOST_INT}) {
            refused(17, "dream(" + part + ")", w -> w.dream(part), NONE);
        }
        // it is only thought of
        long[] is = {midway().practise(0), midway().practise(1), midway().practise(2)};
        for (int part = 0; part <= 2; part++) {
            int which = part;
            refused(16, "practise(" + part + ") changes nothing", w -> w.practise(which), is[part]);
        }
        long cost = midway().dream(0);
        refused(17, "dream(0) changes nothing", w -> w.dream(0), cost);
    }

    /** "0 TOUCH 1 more (12 at most), 1 + c SPREAD of CLUB c 1 less (0 at least)". */
    private static void twelveAtMostZeroAtLeast() {
        WhichClub w = with(210);
        practice(w, 1, 12, 0);
        w.mend(0, 6, 11);
        practice(w, 1, 12, 0);
        w.mend(0, 6, 12);
        practice(w, 0, 1, 0);
        w.mend(0, 6, 0);
        practice(w, 1, 12, 0);
        w.mend(0, 2, 1);
        w.mend(0, 6, 12);
        // 20, 21, 22, one putt each: less of a spread brings nothing
        practice(w, 0, 1, 0);
        w.mend(0, 1, 20);
        // 19 is one in three: 1 more each time, and once 0 is its spread no more of it
        practice(w, 1, 3, 1);
        w.mend(0, 2, 0);
        practice(w, 0, 1, 0);
        // the last of six clubs
        w = with(10, 10, 10, 10, 10, 201);
        w.mend(0, 6, 12);
        practice(w, 1, 3, 6);
        practice(new WhichClub(), 0, 1, 0);
        WhichClub green = new WhichClub();
        green.mend(0, 0, 4);
        practice(green, 1, 12, 0);
        green.mend(0, 4, 1);
        practice(green, 1, 12, 0);
        // a spread that brings strokes up if it is less: 19, 20 (3) and the pin in 21 (2), or 20 alone
        w = with(201);
        w.mend(0, 6, 12);
        w.mend(20, 0, 2);
        w.mend(0, 4, 21);
        practice(w, 0, 1, 0);
    }

    /** "PRACTISE (3 SHOTS)": not two, not four. */
    private static void practiseIsOfThreeShots() {
        // 7, 14, 21: the third comes to the green
        practice(with(70), 1, 12, 0);
        WhichClub w = with(50);
        w.mend(0, 4, 21);
        // 5, 10, 15: only a fourth would
        practice(w, 0, 1, 0);
        w.mend(0, 1, 7);
        practice(w, 0, 1, 0);
        w.mend(0, 4, 20);
        practice(w, 1, 12, 0);
    }

    /** "(of like ones the least)". */
    private static void ofLikePracticeTheLeast() {
        WhichClub w = with(201, 201, 201);
        w.mend(0, 6, 12);
        practice(w, 1, 3, 1);
        w.mend(0, 1, 3);
        practice(w, 1, 3, 2);
        w.mend(1, 1, 3);
        practice(w, 1, 3, 3);
        // 20, 21 and 22: 1/18 by TOUCH; 21 alone would be one more putt
        practice(with(211), 1, 18, 0);
        // 17, 18, 19 (3 each), 20 (1), 21 (2): a putt's twelfth from four of five, or 17/5 less 10/3, both 1/15
        w = with(192);
        w.mend(0, 6, 0);
        practice(w, 1, 15, 0);
    }

    /** "DREAM (3 SHOTS)": by the third shot alone another club is taken. */
    private static void dreamIsOfThreeShots() {
        WhichClub w = with(70, 90);
        w.mend(23, 0, 2);
        law(w, "d<9&c=10&k");
        // 7, 14, then 9 to the sand in 23 (5), or 7 to the green in 21 (9/2)
        due(17, "dream(0)", w.dream(0), 1);
        due(17, "dream(1)", w.dream(1), 2);
        lawful(w, 0, 2, 5, 1);
        lawful(w, 0, 3, 5, 1);
        // from the sand 4 back to 19, no green in four
        lawful(w, 0, 4, 6, 1);
        w.mend(1, 3, 0);
        due(17, "nothing is believed of it", w.dream(0), 0);
        due(17, "nothing is believed of it", w.dream(1), 1);
        lawful(w, 0, 2, 5, 1);
        lawful(w, 0, 3, 9, 2);
    }

    /** "(below 0, too)", "if all BELIEVED are 0". */
    private static void dreamBelowZero() {
        WhichClub w = with(200, 250);
        w.mend(0, 3, 9);
        w.mend(1, 3, 0);
        law(w, "c");
        due(17, "to the pin as he dreams, to 25 else", w.dream(0), -1);
        due(17, "to the pin as he dreams, to 25 else", w.dream(1), 2);
        WhichClub all = with(200, 190, 180);
        // 21, 20, 19 believed: to 19; else to the pin
        due(17, "all of them", all.dream(0), 3);
        due(17, "all of them", all.dream(1), 2);
        all.mend(1, 3, 0);
        // 21, 19, 19: like ones, to the pin either way
        due(17, "nothing", all.dream(0), 0);
        due(17, "nothing", all.dream(1), 1);
        due(17, "no clubs", new WhichClub().dream(0), 0);
        due(17, "no clubs", new WhichClub().dream(1), 1);
    }

    // ---- rounds told

    /** "BAD, -11, -12 (no ROW of bytes); NOT.", for judge, truly and guessed alike. */
    private static void refusedRounds() {
        for (int shelf : NO_SHELF) {
            refused(18, "judge(" + shelf + ")", w -> w.judge(shelf), -1);
            refused(19, "truly(" + shelf + ", 0)", w -> w.truly(shelf, 0), -1);
            refused(20, "guessed(" + shelf + ")", w -> w.guessed(shelf), -1);
        }
        for (int club : new int[] {LEAST_INT, -1, 5, 6, MOST_INT}) {
            for (int shelf = 0; shelf <= 3; shelf++) {
                int from = shelf;
                refused(19, "truly(" + shelf + ", " + club + "): BAD is first", w -> w.truly(from, club), -1);
            }
        }
        refused(18, "nothing there", w -> w.judge(0), -11);
        refused(19, "nothing there", w -> w.truly(0, 4), -11);
        refused(20, "nothing there", w -> w.guessed(0), -11);
        for (int shelf : new int[] {1, 3, 4, 5}) {
            refused(18, "no row of bytes", w -> w.judge(shelf), -12);
            refused(19, "no row of bytes", w -> w.truly(shelf, 0), -12);
            refused(20, "no row of bytes", w -> w.guessed(shelf), -12);
        }
        WhichClub w = with(100);
        for (int shelf = 0; shelf <= 5; shelf++) {
            w.row(shelf, 3, 3);
            due(18, "longs", w.judge(shelf), -12);
            due(19, "longs", w.truly(shelf, 0), -12);
            due(20, "longs", w.guessed(shelf), -12);
            bytes(w, shelf, 0, 0, 10);
            due(18, "bytes", w.judge(shelf), -2);
            due(19, "bytes", w.truly(shelf, 0), 10);
            due(20, "bytes", w.guessed(shelf), 1);
        }
        WhichClub none = new WhichClub();
        bytes(none, 0, 0, 0, 10);
        due(18, "no clubs", none.judge(0), 0);
        due(19, "no clubs", none.truly(0, 0), -1);
        due(20, "no clubs", none.guessed(0), 0);
    }

    /** "the first three that cannot be (no CELL, no CLUB, ..)". */
    private static void judgedFirstThree() {
        WhichClub w = with(50, 300, 0);
        w.mend(0, 4, 25);
        w.mend(30, 0, 0);
        int[][] can = {{0, 0, 5}, {0, 1, 30}, {30, 1, 0}, {30, 2, 30}, {0, 2, 0}, {30, 0, 25}, {19, 0, 24}, {19, 1, 30}};
        for (int[] c : can) {
            bytes(w, 0, c);
            due(18, "it can be", w.judge(0), -2);
        }
        int[][] cannot = {{-1, 0, 5}, {31, 0, 25}, {-128, 0, 0}, {127, 0, 30}, {0, -1, 5}, {0, 3, 5}, {0, -128, 5}, {0, 127, 5},
            {0, 0, -1}, {0, 1, 31}, {30, 1, -1}, {0, 0, -128}, {0, 0, 127}, {0, 0, 4}, {0, 0, 6}, {20, 0, 25}, {25, 2, 25}};
        for (int[] c : cannot) {
            bytes(w, 0, 0, 0, 5, c[0], c[1], c[2], 5, 0, 10, -1, -1, -1);
            due(18, "it cannot be: " + c[0] + " " + c[1] + " " + c[2], w.judge(0), 1);
        }
    }

    /** "(.. a three's end that lacks); NOT." */
    private static void judgedEnds() {
        for (int length = 0; length <= 60; length++) {
            WhichClub w = with(0);
            w.row(0, 0, length);
            due(18, "a row of " + length, w.judge(0), length % 3 == 0 ? -2 : length / 3);
        }
        WhichClub w = with(0);
        w.row(0, 0, 60);
        w.put(0, 59, 1);
        due(18, "the last of twenty", w.judge(0), 19);
        w.put(0, 1, 1);
        due(18, "the first of twenty", w.judge(0), 0);
        // bytes keep their lowest bits
        bytes(w, 0, 256, 256, 512);
        due(18, "0 0 0", w.judge(0), -2);
        bytes(w, 0, 0, 0);
        w.put(0, 0, -1);
        due(18, "the three that lacks is the first that cannot be", w.judge(0), 0);
    }

    /** "the CARRY (0 .. 30) of a CLUB by which all threes of it can be". */
    private static void trulyZeroToThirty() {
        WhichClub w = with(100);
        bytes(w, 0, 0, 0, 30);
        due(19, "the most", w.truly(0, 0), 30);
        w.mend(0, 5, 1);
        due(19, "29 and 1, or 30 and 1", w.truly(0, 0), 29);
        w.mend(0, 5, -1);
        due(19, "31 would do", w.truly(0, 0), -2);
        w.mend(0, 2, 1);
        due(19, "30 less 1, and 1", w.truly(0, 0), 30);
        w.mend(0, 5, -2);
        due(19, "31 would do", w.truly(0, 0), -2);
        w.mend(0, 5, 0);
        w.mend(0, 2, 0);
        bytes(w, 0, 7, 0, 7);
        due(19, "the least", w.truly(0, 0), 0);
        bytes(w, 0, 7, 0, 6);
        due(19, "less than the least would do", w.truly(0, 0), -2);
        w.mend(0, 5, 3);
        bytes(w, 0, 0, 0, 4);
        due(19, "4, without the wind", w.truly(0, 0), 4);
        bytes(w, 0, 0, 0, 5);
        due(19, "neither 4 nor 5 and 3", w.truly(0, 0), -2);
        bytes(w, 0, 0, 0, 8);
        due(19, "5 and 3", w.truly(0, 0), 5);
        w.mend(0, 5, 0);
        w.mend(0, 0, 1);
        bytes(w, 0, 0, 0, 0);
        due(19, "0 from rough, as 1", w.truly(0, 0), 0);
        bytes(w, 0, 0, 0, 29);
        due(19, "30 less 1", w.truly(0, 0), 30);
        w.mend(0, 0, 2);
        bytes(w, 0, 0, 0, 15);
        due(19, "30 by 2", w.truly(0, 0), 30);
        bytes(w, 0, 0, 0, 14);
        due(19, "28 by 2, as 29", w.truly(0, 0), 28);
        w.mend(30, 0, 0);
        bytes(w, 0, 30, 0, 0);
        due(19, "all of it backward", w.truly(0, 0), 30);
    }

    /** "likeliest (as SPREAD is; of like ones the least)". */
    private static void trulyLikeliest() {
        WhichClub w = with(100, 103);
        for (int spread = 0; spread <= 3; spread++) {
            w.mend(0, 2, spread);
            bytes(w, 0, 0, 0, 12);
            due(19, "the least of " + (2 * spread + 1), w.truly(0, 0), 12 - spread);
        }
        bytes(w, 0, 0, 0, 9, 0, 0, 15);
        due(19, "12 alone", w.truly(0, 0), 12);
        bytes(w, 0, 0, 0, 9, 0, 0, 16);
        due(19, "none for both", w.truly(0, 0), -2);
        bytes(w, 0, 0, 0, 10, 0, 0, 15);
        due(19, "12 or 13", w.truly(0, 0), 12);
        bytes(w, 0, 0, 0, 9, 0, 1, 30, 0, 0, 15);
        due(19, "the other club's are its own", w.truly(0, 0), 12);
        due(19, "the other club: 27 has one way, 30 has four", w.truly(0, 1), 30);
        w.mend(1, 2, 1);
        due(19, "29, 30, 31: two ways by 30, one by 29", w.truly(0, 1), 30);
        w.mend(20, 0, 3);
        w.mend(0, 4, 25);
        w.mend(0, 2, 1);
        bytes(w, 0, 10, 0, 10);
        // 0 and 1 lie there, 9, 10 and 11 may be in the water: one way each, and none has two
        due(19, "like ones: the least", w.truly(0, 0), 0);
        w.mend(19, 0, 3);
        // 9 and 10 have two ways into the water
        due(19, "the likeliest", w.truly(0, 0), 9);
    }

    /** "NOT (no three of it; one of it from a green CELL, or with no CELL, too; a three's end that lacks is passed over)". */
    private static void trulyNot() {
        WhichClub w = with(101, 101);
        bytes(w, 0, 0, 1, 10);
        due(19, "no three of it", w.truly(0, 0), -2);
        w.row(0, 0, 0);
        due(19, "no three at all", w.truly(0, 0), -2);
        int[][] not = {{20, 0, 21}, {30, 0, 30}, {-1, 0, 9}, {31, 0, 30}, {127, 0, 20}, {0, 0, -1}, {0, 0, 31}, {0, 0, 127}, {0, 0, -128}};
        for (int[] n : not) {
            bytes(w, 0, 0, 0, 10, n[0], n[1], n[2], 0, 1, 10);
            due(19, "one of it that is not so", w.truly(0, 0), -2);
            due(19, "none of the other's", w.truly(0, 1), 9);
            bytes(w, 0, n);
            due(19, "it alone", w.truly(0, 0), -2);
        }
        w = with(101, 101);
        bytes(w, 0, 19, 0, 29, 30);
        due(19, "the last ahead of the green; one byte lacks two", w.truly(0, 0), 9);
        bytes(w, 0, 0, 0, 10, 20, 0);
        due(19, "a three's end that lacks", w.truly(0, 0), 9);
        bytes(w, 0, 0, 0);
        due(19, "a three's end that lacks is no three of it", w.truly(0, 0), -2);
        bytes(w, 0, 0);
        due(19, "a three's end that lacks is no three of it", w.truly(0, 0), -2);
        bytes(w, 0, 0, 2, 10, 0, -1, 10, 0, 0, 10);
        due(19, "what is no club is not of it", w.truly(0, 0), 9);
        w.mend(0, 4, 9);
        bytes(w, 0, 9, 0, 19);
        due(19, "from the pin's cell", w.truly(0, 0), -2);
        w.mend(0, 4, 8);
        due(19, "no longer the pin's: backward it cannot be", w.truly(0, 0), -2);
        bytes(w, 0, 9, 0, 0);
        due(19, "backward: by 8 and 9 two ways are held in 0, by 10 all three", w.truly(0, 0), 10);
        // twenty threes of seven ways each
        w = with(103);
        w.row(0, 0, 60);
        w.mend(0, 0, 1);
        for (int i = 0; i < 60; i += 3) {
            w.put(0, i, 19);
            w.put(0, i + 2, 30);
        }
        due(19, "beyond the hole, all ways", w.truly(0, 0), 14);
        w.put(0, 59, 29);
        due(19, "19 of them, and one way", w.truly(0, 0), 13);
    }

    /** "of all threes (from a CELL that is not green; the third may be anything)". */
    private static void guessedOfAllThrees() {
        WhichClub w = with(200, 100);
        w.mend(0, 4, 25);
        int[][] took = {{0, 0, 0}, {0, 0, -128}, {0, 0, 127}, {0, 0, 31}, {19, 1, -1}, {15, 1, 25}, {9, 0, 9}};
        for (int[] t : took) {
            bytes(w, 0, t);
            due(20, "it took it", w.guessed(0), 1);
        }
        // d 14 at 11: 11 and 21 are 3 and 7 off; d 16 at 9: 5 and 5, like ones, the least
        int[][] not = {{0, 1, 20}, {0, -1, 20}, {0, 2, 20}, {20, 0, 0}, {25, 0, 0}, {30, 0, 0}, {-1, 0, 0}, {31, 0, 0}, {127, 0, 0},
            {19, 0, 0}, {9, 1, 9}};
        for (int[] n : not) {
            bytes(w, 0, n);
            due(20, "it did not", w.guessed(0), 0);
        }
        w = with(200, 100);
        w.mend(30, 0, 0);
        bytes(w, 0, 30, 1, 20, 0, 0, 20, 0, 0);
        due(20, "the last cell, the first; an end that lacks is none", w.guessed(0), 2);
        bytes(w, 0, 0, 0, 0, 0);
        due(20, "one byte more", w.guessed(0), 1);
        w.row(0, 0, 0);
        due(20, "none", w.guessed(0), 0);
        w.row(0, 0, 60);
        due(20, "twenty", w.guessed(0), 20);
        w.row(0, 0, 59);
        due(20, "nineteen, and an end that lacks", w.guessed(0), 19);
    }

    // ---- draws

    /** "DRAWN (nw: 10 n and the way): strokes (what 0), water (1). BAD; STATE: no CLUBS." */
    private static void refusedDrawn() {
        for (int nw : new int[] {LEAST_INT, -11, -10, -1, 0, 1, 2, 9, 12, 19, 102, 109, 202, 209, 210, 211, 1000, MOST_INT}) {
            refused(21, "drawn(1, " + nw + ", 0)", w -> w.drawn(1, nw, 0), -1);
            refused(21, "BAD ahead of STATE", WhichClub::new, w -> w.drawn(1, nw, 1), -1);
        }
        for (int what : new int[] {LEAST_INT, -1, 2, 3, MOST_INT}) {
            refused(21, "drawn(1, 10, " + what + ")", w -> w.drawn(1, 10, what), -1);
            refused(21, "BAD ahead of STATE", WhichClub::new, w -> w.drawn(1, 10, what), -1);
        }
        for (int nw : new int[] {10, 11, 200, 201}) {
            refused(21, "no clubs", WhichClub::new, w -> w.drawn(1, nw, 0), -5);
            refused(21, "no clubs", WhichClub::new, w -> w.drawn(1, nw, 1), -5);
        }
        int is = midway().drawn(3, 200, 0);
        refused(21, "nothing happens in deed", w -> w.drawn(3, 200, 0), is);
    }

    /** "n holes (1 .. 20)", each from the tee. */
    private static void holesAreOneToTwenty() {
        WhichClub w = with(200);
        for (int n = 1; n <= 20; n++) {
            for (int way = 0; way <= 1; way++) {
                due(21, n + " holes", w.drawn(5, 10 * n + way, 0), 2 * n);
                due(21, n + " holes, dry", w.drawn(5, 10 * n + way, 1), 0);
            }
        }
        w.mend(20, 0, 3);
        w.mend(0, 4, 21);
        for (int n = 1; n <= 20; n++) {
            due(21, n + " holes", w.drawn(5, 10 * n, 0), 29 * n);
            due(21, n + " holes, wet", w.drawn(5, 10 * n + 1, 1), 12 * n);
        }
    }

    /** "12 SHOTS at most, then on the green", "a hole that is not at the green in 12: 5 more". */
    private static void twelveShotsAtMost() {
        WhichClub w = with(10);
        for (int pin = 1; pin <= 16; pin++) {
            w.mend(0, 4, pin);
            int due = pin <= 12 ? pin + 1 : 17;
            due(21, "the pin in " + pin, w.drawn(9, 10, 0), due);
            due(21, "the pin in " + pin, w.drawn(9, 31, 0), 3 * due);
        }
        // on the green with the twelfth, two putts
        w.mend(12, 0, 4);
        w.mend(0, 6, 0);
        due(21, "12 and two putts", w.drawn(9, 10, 0), 14);
        w.mend(12, 0, 0);
        w.mend(13, 0, 4);
        due(21, "12 and 5", w.drawn(9, 10, 0), 17);
        // water counts: the last four of twelve
        w.mend(9, 0, 3);
        due(21, "8, four in water, 5", w.drawn(9, 10, 0), 21);
        due(21, "four in water", w.drawn(9, 10, 1), 4);
        w.mend(0, 0, 4);
        due(21, "no shot from the green", w.drawn(9, 10, 0), 2);
    }

    /** "0 best of 3 SHOTS": each time of three, not of two or four. */
    private static void drawnByTheBestOfThree() {
        WhichClub w = with(30, 50);
        w.mend(0, 6, 12);
        w.mend(11, 0, 1);
        int[] cells = {0, 3, 8, 11, 15};
        int[] takes = {0, 1, 0, 1, 1};
        for (int i = 0; i < cells.length; i++) {
            due(12, "of three from " + cells[i], w.strokes(cells[i], 3, 2), takes[i]);
        }
        // 3, 8, 11, 15, 20, a putt; of four it would be 5, 10, 15, 20, of two one more
        due(21, "best of three", w.drawn(1, 10, 0), 6);
        due(21, "best of three", w.drawn(1, 200, 0), 120);
        law(w, "k");
        due(21, "by the law", w.drawn(1, 11, 0), 5);
        law(w, "0-k");
        // 3, 6, 9, 12, 15, 18, 21
        due(21, "by the law", w.drawn(1, 11, 0), 8);
    }

    private static int slipOf(int seed, int ways) {
        return ((seed * 1103515245 + 12345) >>> 8) % ways;
    }

    /** "(z >>> 8) % (2 SPREAD and 1) less SPREAD (above 0: to greater CELLS, from beyond THE PIN, too)". */
    private static void drawnAtTheEdgesOfSlips() {
        for (int spread = 0; spread <= 3; spread++) {
            boolean[] came = new boolean[2 * spread + 1];
            for (int seed = 0; seed < 60; seed++) {
                int slip = slipOf(seed, 2 * spread + 1) - spread;
                came[slip + spread] = true;
                WhichClub w = with(100 + spread);
                due(22, "hit by seed " + seed, w.hit(0, seed), 10 + slip);
                // the one cell of green is where it falls
                w = with(100 + spread);
                w.mend(0, 4, 29);
                w.mend(10 + slip, 0, 4);
                int strokes = slipOf(seed * 1103515245 + 12345, 12) < 6 ? 2 : 3;
                due(21, "drawn by seed " + seed, w.drawn(seed, 10, 0), strokes);
                w = with(300, 100 + spread);
                w.mend(30, 0, 0);
                w.mend(0, 4, 5);
                w.hit(0, 1);
                due(22, "hit back by seed " + seed, w.hit(1, seed), 20 + slip);
            }
            for (boolean each : came) {
                due(22, "each slip came", each ? 1 : 0, 1);
            }
        }
    }

    /** "a putt: in, if (z >>> 8) % 12 is below TOUCH (in THE PIN's CELL: no draw)". */
    private static void drawnPutts() {
        for (int seed = 0; seed < 40; seed++) {
            int draw = slipOf(seed * 1103515245 + 12345, 12);
            WhichClub w = with(220);
            w.mend(0, 6, draw);
            due(21, "a draw of TOUCH", w.drawn(seed, 10, 0), 3);
            w.mend(0, 6, draw + 1);
            due(21, "a draw of TOUCH less 1", w.drawn(seed, 10, 0), 2);
        }
        // the pin's cell or water: no hole takes a draw but for its slips
        for (int seed = 0; seed < 40; seed++) {
            WhichClub w = with(201);
            w.mend(19, 0, 3);
            w.mend(21, 0, 3);
            int strokes = 0;
            int wet = 0;
            int z = seed;
            for (int hole = 0; hole < 5; hole++) {
                boolean isIn = false;
                for (int shot = 0; shot < 12 && !isIn; shot++) {
                    isIn = slipOf(z, 3) == 1;
                    z = z * 1103515245 + 12345;
                    strokes += isIn ? 1 : 2;
                    wet += isIn ? 0 : 1;
                }
                strokes += isIn ? 1 : 5;
            }
            due(21, "five holes by seed " + seed, w.drawn(seed, 50, 0), strokes);
            due(21, "water by seed " + seed, w.drawn(seed, 51, 1), wet);
        }
    }

    /** "(an int; SEED at first)". */
    private static void drawnBySeedsThatWrap() {
        for (int seed : new int[] {LEAST_INT, LEAST_INT + 1, -1, 0, 1, MOST_INT - 1, MOST_INT}) {
            int slip = slipOf(seed, 7) - 3;
            due(22, "hit by seed " + seed, with(103).hit(0, seed), 10 + slip);
            WhichClub w = with(213);
            w.mend(18, 0, 4);
            w.mend(19, 0, 4);
            w.mend(0, 4, 29);
            int putts = slipOf(seed * 1103515245 + 12345, 12) < 6 ? 1 : 2;
            due(21, "drawn by seed " + seed, w.drawn(seed, 10, 0), 1 + putts);
            WhichClub one = with(220);
            one.hit(0, 1);
            due(23, "putt by seed " + seed, one.putt(seed), slipOf(seed, 12) < 6 ? 1 : 2);
        }
    }
}
