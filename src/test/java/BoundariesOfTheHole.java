/**
 * Each sentence of the document's part 1, and of promises 1 to 11, that names a boundary has a test of its own here:
 * the last that is allowed, the first beyond it on either side, and that what is refused changes nothing.
 */
public final class BoundariesOfTheHole extends Checks {
    private static final String OPERANDS = "0123456789dgcswk!-(";
    private static final String JOINS = "|&<=>+-*/%";

    public static void main(String[] args) {
        constants();
        // the terms
        atFirst();
        cellsAreZeroToThirty();
        groundIsZeroToFour();
        pinIsOneToTwentyNine();
        behindThirtyCountsAsThirty();
        clubsAreSix();
        carryAndSpread();
        believedIsZeroToNine();
        windIsThreeEitherWay();
        windFromACarryOfFiveOn();
        touchIsZeroToTwelve();
        touchOfTwelveDraws();
        backwardFromBehindThePin();
        lessOneFromRough();
        byTwoFromSand();
        spreadEitherWay();
        heldAtTheLowEnd();
        water();
        thePinsCellCountsAsGreen();
        // the law
        tapeOfAHundredAndTwenty();
        textOfAHundredAndTwenty();
        signsThatGoOn();
        signsBehindEachOperand();
        numbersOfOneToFourDigits();
        sixAreOpenAtOnce();
        endsTooEarly();
        intsThatWrap();
        byZero();
        truths();
        whichLineCounts();
        namesAtTheirEdges();
        greatestOfLikeOnesTheLeast();
        withoutAText();
        // the promises
        refusedClub();
        refusedClubs();
        clubsEnd();
        refusedMend();
        boldAndRisk();
        theSameNumberIsNoChange();
        refusedOf();
        refusedFeed();
        lawThatIsRefused();
        refusedLies();
        refusedChance();
        refusedBelieved();
        refusedLayUp();
        layUpWithoutAnyChance();
        finish();
    }

    // ---- the hole

    private static void lie(WhichClub w, int cc, int cell, long above, long below) {
        due(8, "lies(" + cc + ", " + cell + ", 0)", w.lies(cc, cell, 0), above);
        due(8, "lies(" + cc + ", " + cell + ", 1)", w.lies(cc, cell, 1), below);
    }

    private static void chance(WhichClub w, int cc, int what, long above, long below) {
        due(9, "chance(" + cc + ", " + what + ", 0)", w.chance(cc, what, 0), above);
        due(9, "chance(" + cc + ", " + what + ", 1)", w.chance(cc, what, 1), below);
    }

    /** "BAD = -1, NOT = -2, FULL = -3, STATE = -5, VOID = -2000000000". */
    private static void constants() {
        due(1, "BAD", WhichClub.BAD, -1);
        due(1, "NOT", WhichClub.NOT, -2);
        due(1, "FULL", WhichClub.FULL, -3);
        due(1, "STATE", WhichClub.STATE, -5);
        due(1, "VOID", WhichClub.VOID, -2000000000);
    }

    /** "0 at first; CELL 20 and behind it: 4 at first", "20 at first", "1 at first", "6 at first", "3 at first". */
    private static void atFirst() {
        WhichClub w = new WhichClub();
        due(1, "the last of the fairway", w.of(19, 0), 0);
        due(1, "the first of the green", w.of(20, 0), 4);
        due(1, "the tee", w.of(0, 0), 0);
        due(1, "the last cell", w.of(30, 0), 4);
        due(1, "THE PIN", w.of(0, 4), 20);
        due(1, "WIND", w.of(0, 5), 0);
        due(1, "TOUCH", w.of(0, 6), 6);
        due(1, "BOLD", w.of(0, 7), 3);
        due(1, "RISK", w.of(0, 8), 3);
        due(1, "one is at the tee", w.of(0, 9), 0);
        due(1, "no clubs", w.of(0, 1), -2000000000);
        due(1, "nothing is kept", w.taken(0, 0) + w.taken(5, 0), -22);
        due(1, "no law's text: the first byte is the first", w.feed('d'), 1);
        w.club(0);
        due(1, "BELIEVED", w.of(0, 3), 1);
    }

    /** "A HOLE is a row of CELLS 0 .. 30": of a cell's ground; the other calls that take a cell are tested by promise. */
    private static void cellsAreZeroToThirty() {
        for (int cell : new int[] {LEAST_INT, -31, -1, 31, 32, MOST_INT}) {
            refused(4, "mend(" + cell + ", 0, 1)", w -> w.mend(cell, 0, 1), -2000000000);
            refused(5, "of(" + cell + ", 0)", w -> w.of(cell, 0), -2000000000);
        }
        WhichClub w = new WhichClub();
        due(4, "the first", w.mend(0, 0, 1), 0);
        due(4, "the last", w.mend(30, 0, 1), 4);
        due(5, "the first", w.of(0, 0), 1);
        due(5, "the last", w.of(30, 0), 1);
        due(5, "the second", w.of(1, 0), 0);
        due(5, "the last but one", w.of(29, 0), 4);
    }

    /** "GROUND of a CELL: 0 fairway, 1 rough, 2 sand, 3 water, 4 green". */
    private static void groundIsZeroToFour() {
        for (int v : new int[] {LEAST_INT, -1, 5, 6, MOST_INT}) {
            refused(4, "mend(7, 0, " + v + ")", w -> w.mend(7, 0, v), -2000000000);
        }
        WhichClub w = new WhichClub();
        for (int v = 1; v <= 4; v++) {
            due(4, "mend(7, 0, " + v + ")", w.mend(7, 0, v), v - 1);
            due(5, "of(7, 0)", w.of(7, 0), v);
        }
        due(4, "mend(7, 0, 0)", w.mend(7, 0, 0), 4);
    }

    /** "THE PIN: a CELL (1 .. 29)". */
    private static void pinIsOneToTwentyNine() {
        for (int v : new int[] {LEAST_INT, -1, 0, 30, 31, MOST_INT}) {
            refused(4, "mend(0, 4, " + v + ")", w -> w.mend(0, 4, v), -2000000000);
        }
        WhichClub w = new WhichClub();
        due(4, "the first", w.mend(0, 4, 1), 20);
        due(5, "the first", w.of(0, 4), 1);
        due(4, "the last", w.mend(0, 4, 29), 1);
        due(5, "the last", w.of(0, 4), 29);
    }

    /** "What is told behind CELL 30 counts as CELL 30." */
    private static void behindThirtyCountsAsThirty() {
        WhichClub w = with(303, 263, 273, 300, 290);
        lie(w, 0, 27, 1, 7);
        lie(w, 0, 29, 1, 7);
        lie(w, 0, 30, 4, 7);
        lie(w, 10, 29, 1, 7);
        lie(w, 10, 30, 5, 7);
        lie(w, 30, 30, 1, 1);
        lie(w, 30, 29, 0, 1);
        lie(w, 1, 29, 1, 7);
        lie(w, 1, 30, 0, 1);
        lie(w, 2, 30, 1, 7);
        lie(w, 3, 30, 1, 1);
        lie(w, 13, 30, 1, 1);
        lie(w, 193, 30, 1, 1);
        lie(w, 14, 30, 1, 1);
        lie(w, 24, 30, 1, 1);
        w.mend(30, 0, 3);
        chance(w, 0, 0, 4, 7);
        chance(w, 2, 0, 1, 7);
        chance(w, 1, 0, 0, 1);
        lie(w, 13, 1, 1, 1);
        w.mend(30, 0, 4);
        w.mend(29, 0, 0);
        chance(w, 30, 1, 1, 1);
        chance(w, 0, 1, 6, 7);
        for (int seed = 1; seed <= 20; seed++) {
            due(22, "hit beyond the hole", with(300).hit(0, seed), 30);
            WhichClub far = with(300);
            far.mend(5, 0, 4);
            far.mend(0, 4, 5);
            far.hit(0, seed);
            far.mend(30, 0, 0);
            due(22, "hit back, beyond the tee", far.hit(0, seed), 0);
        }
    }

    /** "CLUBS 0 .. 5, as they come". */
    private static void clubsAreSix() {
        WhichClub w = new WhichClub();
        for (int i = 0; i <= 5; i++) {
            due(4, "no such club yet", w.mend(i, 1, 3), -2000000000);
            due(5, "no such club yet", w.of(i, 1), -2000000000);
            due(2, "club", w.club(10 * i + 10), i);
            due(5, "its carry", w.of(i, 1), i + 1);
        }
        due(2, "a seventh", w.club(10), -3);
        due(5, "the first as it came", w.of(0, 1), 1);
        due(5, "the last as it came", w.of(5, 1), 6);
        for (int what = 1; what <= 3; what++) {
            due(4, "the last", w.mend(5, what, 2), new int[] {6, 0, 1}[what - 1]);
            due(5, "the last", w.of(5, what), 2);
            for (int number : new int[] {LEAST_INT, -1, 6, 7, MOST_INT}) {
                due(4, "no such club", w.mend(number, what, 2), -2000000000);
                due(5, "no such club", w.of(number, what), -2000000000);
            }
            int which = what;
            refused(4, "mend(5, " + what + ", 2) of five clubs", m -> m.mend(5, which, 2), -2000000000);
            refused(5, "of(5, " + what + ") of five clubs", m -> m.of(5, which), -2000000000);
        }
    }

    /** "CARRY (0 .. 30 CELLS), SPREAD (0 .. 3 CELLS either way, all alike)". */
    private static void carryAndSpread() {
        for (int what = 1; what <= 2; what++) {
            int most = what == 1 ? 30 : 3;
            int which = what;
            for (int v : new int[] {LEAST_INT, -1, most + 1, MOST_INT}) {
                refused(4, "mend(0, " + what + ", " + v + ")", w -> w.mend(0, which, v), -2000000000);
            }
            WhichClub w = with(151);
            w.mend(0, what, 0);
            due(5, "the least", w.of(0, what), 0);
            due(4, "the most", w.mend(0, what, most), 0);
            due(5, "the most", w.of(0, what), most);
        }
    }

    /** "BELIEVED (0 .. 9 CELLS more than it carries; 1 at first)". */
    private static void believedIsZeroToNine() {
        for (int v : new int[] {LEAST_INT, -1, 10, MOST_INT}) {
            refused(4, "mend(0, 3, " + v + ")", w -> w.mend(0, 3, v), -2000000000);
        }
        WhichClub w = with(111, 200);
        due(10, "12 of 20, 21 of 20", w.believed(0), 1);
        due(4, "the most", w.mend(0, 3, 9), 1);
        due(10, "20 of 20, 21 of 20", w.believed(0), 0);
        due(4, "the least", w.mend(1, 3, 0), 1);
        due(10, "both 20 of 20", w.believed(0), 0);
        due(4, "less than the most", w.mend(0, 3, 8), 9);
        due(10, "19 of 20, 20 of 20", w.believed(0), 1);
        lie(w, 0, 11, 1, 3);
    }

    /** "WIND (-3 .. 3 CELLS; 0 at first ..)". */
    private static void windIsThreeEitherWay() {
        for (int v : new int[] {LEAST_INT, -4, 4, MOST_INT}) {
            refused(4, "mend(0, 5, " + v + ")", w -> w.mend(0, 5, v), -2000000000);
        }
        WhichClub w = with(100);
        lie(w, 0, 10, 1, 1);
        due(4, "the least", w.mend(0, 5, -3), 0);
        lie(w, 0, 7, 1, 1);
        due(4, "the most", w.mend(0, 5, 3), -3);
        lie(w, 0, 13, 1, 1);
    }

    /** "(.. shots of a CARRY of 5 or more alone)", forward and backward. */
    private static void windFromACarryOfFiveOn() {
        WhichClub w = with(40, 50);
        w.mend(0, 4, 15);
        w.mend(25, 0, 0);
        w.mend(0, 5, 3);
        lie(w, 0, 4, 1, 1);
        lie(w, 1, 8, 1, 1);
        lie(w, 250, 21, 1, 1);
        lie(w, 251, 23, 1, 1);
        w.mend(0, 5, -3);
        lie(w, 0, 4, 1, 1);
        lie(w, 1, 2, 1, 1);
        lie(w, 250, 21, 1, 1);
        lie(w, 251, 17, 1, 1);
        due(22, "hit by 4", w.hit(0, 1), 4);
        due(22, "hit by 5", w.hit(1, 1), 6);
        // it is what the club carries that counts, not what it is believed to
        w.mend(0, 3, 9);
        lie(w, 0, 4, 1, 1);
        w.mend(0, 1, 5);
        lie(w, 0, 2, 1, 1);
    }

    /** "TOUCH (0 .. 12: ..; 6 at first)". */
    private static void touchIsZeroToTwelve() {
        for (int v : new int[] {LEAST_INT, -1, 13, MOST_INT}) {
            refused(4, "mend(0, 6, " + v + ")", w -> w.mend(0, 6, v), -2000000000);
        }
        WhichClub w = new WhichClub();
        due(12, "half of them: 3/2", w.strokes(21, 0, 0), 3);
        due(4, "the least", w.mend(0, 6, 0), 6);
        due(12, "never: two", w.strokes(21, 0, 0), 2);
        due(12, "never: two", w.strokes(21, 0, 1), 1);
        due(4, "the most", w.mend(0, 6, 12), 0);
        due(12, "always: one", w.strokes(21, 0, 0), 1);
        due(12, "always: one", w.strokes(21, 0, 1), 1);
        w.mend(0, 6, 1);
        due(12, "one of twelve: 23/12", w.strokes(21, 0, 0), 23);
        due(12, "one of twelve: 23/12", w.strokes(21, 0, 1), 12);
        w.mend(0, 6, 11);
        due(12, "eleven of twelve: 13/12", w.strokes(21, 0, 0), 13);
    }

    /** "in so many of twelve a putt .. goes in at once": a draw of TOUCH less 1 is in, one of TOUCH is not. */
    private static void touchOfTwelveDraws() {
        for (int seed = 1; seed <= 60; seed++) {
            int draw = ((seed * 1103515245 + 12345) >>> 8) % 12;
            WhichClub w = with(210);
            w.mend(0, 6, draw);
            w.hit(0, 1);
            due(23, "a draw of TOUCH", w.putt(seed), 2);
            w.mend(0, 6, draw + 1);
            w.hit(0, 1);
            due(23, "a draw of TOUCH less 1", w.putt(seed), 1);
        }
    }

    /** "toward THE PIN (from behind it backward)": from the cells next to it on either side. */
    private static void backwardFromBehindThePin() {
        WhichClub w = with(10, 51);
        w.mend(0, 4, 15);
        lie(w, 140, 15, 1, 1);
        w.mend(16, 0, 1);
        w.mend(16, 0, 0);
        lie(w, 160, 15, 1, 1);
        lie(w, 161, 10, 1, 3);
        lie(w, 161, 12, 1, 3);
        lie(w, 141, 18, 1, 3);
        lie(w, 141, 20, 1, 3);
        due(8, "not from the pin's cell itself", w.lies(150, 15, 0), NONE);
        w.mend(0, 5, 2);
        lie(w, 141, 20, 1, 3);
        lie(w, 141, 22, 1, 3);
        lie(w, 161, 12, 1, 3);
        lie(w, 161, 14, 1, 3);
        w.mend(0, 4, 1);
        lie(w, 20, 1, 1, 1);
        lie(w, 0, 1, 1, 1);
        w.mend(0, 4, 29);
        w.mend(30, 0, 0);
        w.mend(28, 0, 0);
        lie(w, 280, 29, 1, 1);
        lie(w, 300, 29, 1, 1);
    }

    /** "less 1 from rough", "0 at least". */
    private static void lessOneFromRough() {
        WhichClub w = with(0, 10, 20, 50, 300);
        w.mend(0, 4, 15);
        for (int cell : new int[] {5, 25}) {
            int way = cell < 15 ? 1 : -1;
            w.mend(cell, 0, 1);
            w.mend(0, 5, 0);
            lie(w, 10 * cell, cell, 1, 1);
            lie(w, 10 * cell + 1, cell, 1, 1);
            lie(w, 10 * cell + 2, cell + way, 1, 1);
            lie(w, 10 * cell + 3, cell + 4 * way, 1, 1);
            w.mend(0, 5, -3 * way);
            lie(w, 10 * cell + 3, cell + way, 1, 1);
            lie(w, 10 * cell, cell, 1, 1);
        }
        // 30 less 1
        w = with(300);
        w.mend(0, 0, 1);
        lie(w, 0, 29, 1, 1);
        w.mend(0, 5, 1);
        lie(w, 0, 30, 1, 1);
        // a spread about where it lies at least
        w = with(1);
        w.mend(5, 0, 1);
        lie(w, 50, 4, 1, 3);
        lie(w, 50, 5, 1, 3);
        lie(w, 50, 6, 1, 3);
    }

    /** "by 2 (cut) from sand", the wind ahead of it. */
    private static void byTwoFromSand() {
        WhichClub w = with(0, 10, 20, 30, 50, 300);
        w.mend(0, 4, 20);
        w.mend(5, 0, 2);
        int[] goes = {0, 0, 1, 1, 2, 15};
        for (int c = 0; c < goes.length; c++) {
            lie(w, 50 + c, 5 + goes[c], 1, 1);
        }
        w.mend(0, 5, 1);
        lie(w, 54, 8, 1, 1);
        w.mend(0, 5, 3);
        lie(w, 54, 9, 1, 1);
        lie(w, 53, 6, 1, 1);
        w.mend(0, 5, -2);
        lie(w, 54, 6, 1, 1);
        w.mend(0, 5, -3);
        lie(w, 54, 6, 1, 1);
        w.mend(0, 4, 2);
        // backward against less wind than none: 8 by 2
        lie(w, 54, 1, 1, 1);
    }

    /** "SPREAD either way, all alike": each of 1, 3, 5, 7 ways, none beyond them. */
    private static void spreadEitherWay() {
        for (int spread = 0; spread <= 3; spread++) {
            WhichClub w = with(100 + spread);
            for (int cell = 0; cell <= 30; cell++) {
                boolean isThere = Math.abs(cell - 15) <= spread;
                lie(w, 50, cell, isThere ? 1 : 0, isThere ? 2 * spread + 1 : 1);
            }
        }
    }

    /** "held within 0 .. 30": from behind the pin at the tee's end. */
    private static void heldAtTheLowEnd() {
        WhichClub w = with(53, 83, 23, 60);
        w.mend(0, 4, 1);
        lie(w, 50, 0, 4, 7);
        lie(w, 50, 1, 1, 7);
        lie(w, 50, 3, 1, 7);
        lie(w, 51, 0, 1, 1);
        lie(w, 52, 0, 1, 7);
        lie(w, 52, 6, 1, 7);
        lie(w, 53, 0, 1, 1);
        lie(w, 63, 0, 1, 1);
        w.mend(0, 0, 3);
        chance(w, 50, 0, 4, 7);
        lie(w, 50, 5, 4, 7);
        lie(w, 53, 5, 1, 1);
        // a slip below the tee from ahead of the pin
        w = with(3);
        lie(w, 0, 0, 4, 7);
        lie(w, 0, 3, 1, 7);
        lie(w, 20, 0, 2, 7);
        lie(w, 30, 0, 1, 7);
        lie(w, 40, 0, 0, 1);
    }

    /** "In water: it counts one stroke more and lies where it was hit from." */
    private static void water() {
        WhichClub w = with(101);
        w.mend(10, 0, 3);
        lie(w, 0, 0, 1, 3);
        lie(w, 0, 10, 0, 1);
        lie(w, 0, 9, 1, 3);
        chance(w, 0, 0, 1, 3);
        // 9 and 11 are 4 and 3 strokes off, the tee is 6 and 1: 1 + (4 + 7 + 3) / 3
        due(12, "strokes(0, 1, 0)", w.strokes(0, 1, 0), 17);
        due(12, "strokes(0, 1, 1)", w.strokes(0, 1, 1), 3);
        w.mend(9, 0, 3);
        w.mend(11, 0, 3);
        lie(w, 0, 0, 1, 1);
        chance(w, 0, 0, 1, 1);
        due(22, "it lies where it was hit from", w.hit(0, 1), 0);
        due(24, "two strokes", w.led(0), 2);
        due(24, "once in water", w.led(3), 1);
        // one may stand in what is water now: the same shot from there
        w.mend(0, 0, 3);
        lie(w, 0, 0, 1, 1);
        w = with(1);
        w.mend(5, 0, 3);
        lie(w, 50, 5, 1, 3);
        chance(w, 50, 0, 1, 3);
        w.mend(4, 0, 3);
        lie(w, 50, 5, 2, 3);
        chance(w, 50, 0, 2, 3);
    }

    /** "(THE PIN's CELL, if it is not green, counts as green.)" "In THE PIN's CELL (if it is green): one putt." */
    private static void thePinsCellCountsAsGreen() {
        for (int ground = 0; ground <= 4; ground++) {
            WhichClub w = with(101);
            w.mend(10, 0, ground);
            w.mend(0, 4, 10);
            due(12, "one putt", w.strokes(10, 2, 0), 1);
            due(12, "one putt", w.strokes(10, 2, 1), 1);
            due(10, "on the green", w.believed(10), -2);
            due(11, "on the green", w.layUp(10), -1);
            due(38, "green cells", w.count(1), 12);
            due(38, "water cells", w.count(2), 0);
            due(5, "the ground as it was told", w.of(10, 0), ground);
            lie(w, 0, 10, 1, 3);
            chance(w, 0, 0, 0, 1);
            chance(w, 0, 1, 1, 3);
            w.mend(0, 1, 10);
            w.mend(0, 2, 0);
            due(22, "into it", w.hit(0, 1), 10);
            due(22, "on the green", w.hit(0, 1), -5);
            w.mend(0, 6, 0);
            due(23, "one putt", w.putt(1), 1);
            w.mend(0, 4, 11);
            due(12, "no longer the pin's", w.strokes(10, 0, 0), 2);
            due(38, "no longer the pin's", w.count(1), ground == 4 ? 13 : 12);
            due(38, "no longer the pin's", w.count(2), ground == 3 ? 1 : 0);
        }
    }

    // ---- the law

    private static String times(String s, int n) {
        StringBuilder all = new StringBuilder();
        for (int i = 0; i < n; i++) {
            all.append(s);
        }
        return all.toString();
    }

    private static void faultAt(String s, int place) {
        due(7, "\"" + s + "\"", text(new WhichClub(), s), -100 - place);
    }

    private static void good(String s) {
        due(7, "\"" + s + "\"", text(new WhichClub(), s), 1);
    }

    /** "THE TAPE (at most 120 bytes)": the 120th comes, the 121st does not. */
    private static void tapeOfAHundredAndTwenty() {
        WhichClub w = new WhichClub();
        for (int i = 1; i <= 120; i++) {
            due(6, "byte " + i, w.feed('d'), i);
            due(38, "bytes", w.count(3), i);
        }
        due(6, "byte 121", w.feed('d'), -3);
        due(6, "byte 122", w.feed(';'), -3);
        due(38, "bytes", w.count(3), 120);
        due(7, "the second byte", w.law(), -101);
        due(38, "the tape is empty then", w.count(3), 0);
        due(6, "the first byte again", w.feed('d'), 1);
        due(7, "by the law", w.law(), 1);
        due(38, "the tape is empty then", w.count(3), 0);
        refused(6, "feed on a full tape", BoundariesOfTheHole::fullTape, m -> m.feed('k'), -3);
        refused(6, "BAD ahead of FULL", BoundariesOfTheHole::fullTape, m -> m.feed(256), -1);
        refused(6, "BAD ahead of FULL", BoundariesOfTheHole::fullTape, m -> m.feed(-1), -1);
    }

    /** A tape that is full, and a law: rank 0 for 0, 1 for 1. */
    private static WhichClub fullTape() {
        WhichClub w = with(100, 150, 200);
        tape(w, "k" + times("+k", 59) + ";");
        return w;
    }

    /** Texts of 119 and 120 bytes, and the faults that such may have. */
    private static void textOfAHundredAndTwenty() {
        good("d" + times("+d", 59));
        good("d" + times("+d", 58) + "+12");
        good(times("d;", 59) + "12");
        good(times("d;", 58) + "d?12");
        faultAt(times("d;", 60), 120);
        faultAt("dd", 1);
        faultAt(times("+", 120), 0);
        faultAt("d" + times("+d", 59) + "+", 120);
        faultAt("d" + times("+d", 58) + "+)", 118);
        faultAt("d" + times("+d", 59) + ")", 119);
        WhichClub w = with(100, 150, 200);
        due(7, "120 bytes", text(w, "0-k" + times("*1", 58) + "+"), -220);
        due(7, "119 bytes", text(w, "0-k" + times("*1", 58)), 1);
        due(10, "all of it is worked out", w.believed(0), 0);
        due(7, "120 bytes", text(w, times("0?d;", 29) + "1?k*"), -220);
        due(7, "120 bytes", text(w, times("0?d;", 29) + "k=99"), 1);
        due(10, "the last line counts", w.believed(0), 0);
        due(7, "120 bytes", text(w, times("0?d;", 29) + "k=02"), 1);
        due(10, "the last line counts", w.believed(0), 2);
    }

    /** "FAULT: the place of the first byte with which no TEXT goes on": all 256 bytes behind this beginning. */
    private static void goOn(String ahead, String signs) {
        WhichClub w = new WhichClub();
        int place = ahead.length();
        for (int b = 0; b <= 255; b++) {
            if (b * (place + 2) % 400 < place + 2) {
                w = new WhichClub();
            }
            tape(w, ahead);
            w.feed(b);
            int got = w.law();
            if (signs.indexOf(b) >= 0) {
                due(7, ahead + " and byte " + b + " goes on", got == 1 || got == -101 - place ? 1 : got, 1);
            } else {
                due(7, ahead + " and byte " + b, got, -100 - place);
            }
        }
    }

    /** Where an operand begins. */
    private static void signsThatGoOn() {
        goOn("", OPERANDS);
        for (char c : ("!-(" + JOINS + "?;").toCharArray()) {
            goOn(("!-(".indexOf(c) >= 0 ? "" : "d") + c, OPERANDS);
        }
        goOn("d?c;", OPERANDS);
        goOn("(d<", OPERANDS);
        goOn("d<c&", OPERANDS);
        goOn("d--", OPERANDS);
        goOn("d|!", OPERANDS);
    }

    /** Behind an operand; one comparison alone stands in a S, one ? in a LINE, neither ? nor ; between ( and ). */
    private static void signsBehindEachOperand() {
        String all = JOINS + "?;";
        String noMore = "|&+-*/%";
        goOn("d", all);
        goOn("-d", all);
        goOn("!k", all);
        goOn("d+c", all);
        goOn("d|c&s", all);
        for (String sign : new String[] {"<", "=", ">"}) {
            goOn("d" + sign + "c", noMore + "?;");
            goOn("d" + sign + "c+s", noMore + "?;");
            goOn("(d" + sign + "c", noMore + ")");
            goOn("(d" + sign + "c)", all);
        }
        goOn("d<c&s", all);
        goOn("d<c|s", all);
        goOn("d<(c", JOINS + ")");
        goOn("d<(c<s)", noMore + "?;");
        goOn("d+(c<s)", all);
        goOn("d?c", JOINS + ";");
        goOn("d<s?c", JOINS + ";");
        goOn("d?c<s", noMore + ";");
        goOn("d?c;s", all);
        goOn("d;c", all);
        goOn("(d", JOINS + ")");
        goOn("((d)", JOINS + ")");
        goOn("d?(c", JOINS + ")");
        goOn("(d)", all);
        goOn("d?(c)", JOINS + ";");
    }

    /** "a number (1 to 4 digits)". */
    private static void numbersOfOneToFourDigits() {
        String digits = "0123456789";
        goOn("7", digits + JOINS + "?;");
        goOn("99", digits + JOINS + "?;");
        goOn("000", digits + JOINS + "?;");
        goOn("9999", JOINS + "?;");
        goOn("0000", JOINS + "?;");
        goOn("(1234", JOINS + ")");
        good("9");
        good("9999");
        faultAt("99999", 4);
        faultAt("00000", 4);
        faultAt("d+10000", 6);
        isAbove("9999>9998", true);
        isAbove("9999=10*1000-1", true);
        isAbove("0010=10", true);
        isAbove("0000", false);
    }

    /** "At most 6 of ( ! - ahead of an O are open at once." */
    private static void sixAreOpenAtOnce() {
        String plain = "0123456789dgcswk";
        for (String open : new String[] {"((((((", "!!!!!!", "------", "(!-(!-", "-(-(-(", "!-!-!(", "((((-!"}) {
            goOn(open, plain);
            goOn(open.substring(0, 5), OPERANDS);
            goOn("d?" + open, plain);
            goOn("d;" + open.substring(1), OPERANDS);
            goOn("9*" + open, plain);
        }
        good("((((((d))))))");
        faultAt("(((((((d)))))))", 6);
        faultAt("!!!!!!!d", 6);
        faultAt("-------d", 6);
        // what is closed is no longer open
        good("(((((d)))))+(((((c)))))");
        good("((((((d)))))-(c))");
        good("!!!!!!d+!!!!!!c");
        good("((((((d))))))&------c");
        goOn("!!!!!!d+", OPERANDS);
        goOn("((((((d)+", OPERANDS);
        goOn("((((((d+", plain);
        goOn("(((((!d+", OPERANDS);
        goOn("((((((d", JOINS + ")");
        goOn("((((((d)", JOINS + ")");
        // a - between two is none of them
        good("((((((d-c-s-w))))))");
        goOn("((((((d-", plain);
        goOn("(((((d-", OPERANDS);
        // each line begins anew
        good("((((((d))))))?((((((c))))));((((((s))))))");
        good("------d;!!!!!!c");
    }

    /** "the length, if it ends too early", "LINES, one or more". */
    private static void endsTooEarly() {
        faultAt("", 0);
        for (String s : new String[] {"!", "-", "(", "d+", "d|", "d&", "d<", "d=", "d>", "d-", "d*", "d/", "d%", "d?", "d;", "(d", "((d)",
            "d?c;", "d?!", "d;c?", "(((((("}) {
            faultAt(s, s.length());
        }
        WhichClub w = new WhichClub();
        for (int i = 0; i < 3; i++) {
            due(7, "an empty tape", w.law(), -100);
        }
    }

    /** Whether E is above 0: club 0 has rank 0, club 1 has rank E. */
    private static void isAbove(String e, boolean above) {
        WhichClub w = with(101, 132);
        due(7, e, text(w, "k?" + e + ";0"), 1);
        due(10, e + " above 0", w.believed(0), above ? 1 : 0);
    }

    /** "Ints that wrap". 8192 * 8192 * 32 is the least int. */
    private static void intsThatWrap() {
        isAbove("8192*8192*32<0", true);
        isAbove("8192*8192*32-1", true);
        isAbove("8192*8192*32-1+1<0", true);
        isAbove("8192*8192*32", false);
        isAbove("8192*8192*32*2=0", true);
        isAbove("-(8192*8192*32)=8192*8192*32", true);
        isAbove("0-8192*8192*32=8192*8192*32", true);
        isAbove("8192*8192*32/-1=8192*8192*32", true);
        isAbove("8192*8192*32%-1=0", true);
        isAbove("(8192*8192*32-1)*(8192*8192*32-1)=1", true);
        isAbove("9999*9999*22", false);
        isAbove("9999*9999*21", true);
        isAbove("9999*9999*43=417*9999+3164", true);
    }

    /** "/ and % toward 0, by 0 they give 0". */
    private static void byZero() {
        isAbove("7/0=0", true);
        isAbove("-7/0=0", true);
        isAbove("0/0=0", true);
        isAbove("7%0=0", true);
        isAbove("-7%0=0", true);
        isAbove("0%0=0", true);
        isAbove("8192*8192*32/0=0", true);
        isAbove("8192*8192*32%0=0", true);
        isAbove("7/(d-20)+1", true);
        isAbove("7%(d-20)+1=1", true);
        isAbove("7/2=3", true);
        isAbove("-7/2=-3", true);
        isAbove("7/-2=-3", true);
        isAbove("-7/-2=3", true);
        isAbove("7%2=1", true);
        isAbove("-7%2=-1", true);
        isAbove("7%-2=1", true);
        isAbove("-7%-2=-1", true);
        isAbove("1/2=0", true);
        isAbove("-1/2=0", true);
    }

    /** "| & < = > ! give 1, 0". */
    private static void truths() {
        String[] one = {"0|1", "1|0", "5|-5", "5&7", "-1&-1", "1<2", "-1<0", "0=0", "5=5", "2>1", "0>-1", "!0", "!(1-1)", "!!5", "!!-5"};
        String[] none = {"0|0", "0&5", "5&0", "0&0", "1<1", "2<1", "0<-1", "1=2", "1>1", "1>2", "-1>0", "!1", "!5", "!-1", "!!0"};
        for (String e : one) {
            isAbove("(" + e + ")=1", true);
        }
        for (String e : none) {
            isAbove("(" + e + ")=0", true);
        }
    }

    /** "The first LINE without a first E, or whose first E is not 0, counts; none: 0." */
    private static void whichLineCounts() {
        String[] texts = {"0?5*k;0", "0?0;5*k", "1?5*k;0", "-1?5*k;0", "0?1;0?1;0?1;5*k", "0?1;2?0-k;5*k", "0?1;5*k;0-k", "0-k;5*k", "k", "k-1?0-1;5"};
        int[] takes = {0, 1, 1, 1, 1, 0, 1, 0, 1, 1};
        for (int i = 0; i < texts.length; i++) {
            WhichClub two = with(101, 132);
            due(7, texts[i], text(two, texts[i]), 1);
            due(10, texts[i], two.believed(0), takes[i]);
        }
        // none counts: 0 is above what is below it
        WhichClub w = with(101, 132, 151);
        due(7, "k=0?0-1", text(w, "k=0?0-1"), 1);
        due(10, "none counts: 0", w.believed(0), 1);
        due(7, "k=0?0-1;k=1?0-1;0?7", text(w, "k=0?0-1;k=1?0-1;0?7"), 1);
        due(10, "none counts: 0", w.believed(0), 2);
        due(7, "k=1?1;k=2?2", text(w, "k=1?1;k=2?2"), 1);
        due(10, "none counts for the first", w.believed(0), 2);
    }

    /** NAMES at the edges of what they may be. */
    private static void namesAtTheirEdges() {
        WhichClub w = with(100, 300, 303);
        w.mend(0, 4, 1);
        w.mend(30, 0, 0);
        w.mend(2, 0, 0);
        due(7, "d", text(w, "d=29?k=1;d=1?k=2;0"), 1);
        due(10, "d 29, behind the pin: without its sign", w.believed(30), 1);
        due(10, "d 1, ahead of it", w.believed(0), 2);
        due(10, "d 1, behind it", w.believed(2), 2);
        due(10, "d 18", w.believed(19), 0);
        due(7, "c", text(w, "c=39?2;c=10?1;0"), 1);
        w.mend(0, 3, 0);
        w.mend(1, 3, 9);
        due(10, "c 30 and 9", w.believed(0), 1);
        w.mend(1, 3, 8);
        due(10, "c 10 and 0", w.believed(0), 0);
        due(7, "s", text(w, "s=3"), 1);
        due(10, "s 3", w.believed(0), 2);
        due(7, "s", text(w, "!s&k"), 1);
        due(10, "s 0", w.believed(0), 1);
        due(7, "w", text(w, "w=3?k=1;w=-3?k=2;0"), 1);
        due(10, "w 0", w.believed(0), 0);
        w.mend(0, 5, 3);
        due(10, "w 3", w.believed(0), 1);
        due(10, "w 3, backward, too", w.believed(19), 1);
        w.mend(0, 5, -3);
        due(10, "w -3", w.believed(0), 2);
        due(7, "g", text(w, "g=3?k=1;g=0?k=2;0"), 1);
        due(10, "g 0", w.believed(0), 2);
        w.mend(0, 0, 3);
        due(10, "g 3", w.believed(0), 1);
        w.mend(0, 0, 1);
        due(10, "g 1", w.believed(0), 0);
        w = with(10, 20, 30, 40, 50, 60);
        due(7, "k", text(w, "k"), 1);
        due(10, "k 5", w.believed(0), 5);
        due(7, "k", text(w, "k=0"), 1);
        due(10, "k 0", w.believed(0), 0);
    }

    /** "the greatest (of like ones the least number)", from the least int to the greatest. */
    private static void greatestOfLikeOnesTheLeast() {
        WhichClub w = with(10, 20, 30, 40, 50, 60);
        String[] texts = {"7", "0-7", "k>0", "k>4", "k=2|k=4", "8192*8192*32", "8192*8192*32-1", "k=3?8192*8192*32-1;8192*8192*32",
            "k=0?8192*8192*32;8192*8192*32-1", "k<3?8192*8192*32;8192*8192*32+1", "-(k=1)", "-(k<2)"};
        int[] takes = {0, 0, 1, 5, 2, 0, 0, 3, 1, 3, 0, 2};
        for (int i = 0; i < texts.length; i++) {
            due(7, texts[i], text(w, texts[i]), 1);
            due(10, texts[i], w.believed(0), takes[i]);
        }
    }

    /** "Without a text: 0 less how far d and c with w are apart." */
    private static void withoutAText() {
        WhichClub w = with(180, 190, 200);
        due(10, "19, 20, 21 of 20", w.believed(0), 1);
        due(10, "of 19", w.believed(1), 0);
        w.mend(1, 1, 20);
        due(10, "19, 21, 21 of 20: like ones", w.believed(0), 0);
        w.mend(0, 5, 1);
        due(10, "20, 22, 22 of 20", w.believed(0), 0);
        due(10, "of 19", w.believed(1), 0);
        w.mend(0, 5, -1);
        due(10, "18, 20, 20 of 20", w.believed(0), 1);
        due(10, "of 18", w.believed(2), 0);
        due(10, "of 19: like ones", w.believed(1), 0);
        WhichClub none = with(180, 190, 200);
        due(7, "a fault", text(none, "k+"), -102);
        due(10, "still without a text", none.believed(0), 1);
    }

    // ---- the promises

    private static WhichClub sixClubs() {
        WhichClub w = midway();
        w.club(70);
        return w;
    }

    /** "(cs: 10 CARRY and SPREAD; 0 .. 30, 0 .. 3)", "BAD, FULL: 6." */
    private static void refusedClub() {
        for (int cs : new int[] {LEAST_INT, -300, -10, -9, -1, 4, 9, 14, 304, 309, 310, 313, 1000, MOST_INT}) {
            refused(2, "club(" + cs + ")", w -> w.club(cs), -1);
            refused(2, "club(" + cs + "): BAD ahead of FULL", BoundariesOfTheHole::sixClubs, w -> w.club(cs), -1);
        }
        refused(2, "a seventh", BoundariesOfTheHole::sixClubs, w -> w.club(100), -3);
        for (int cs : new int[] {0, 3, 10, 13, 290, 293, 300, 303}) {
            WhichClub w = new WhichClub();
            due(2, "club(" + cs + ")", w.club(cs), 0);
            due(5, "carry", w.of(0, 1), cs / 10);
            due(5, "spread", w.of(0, 2), cs % 10);
            due(5, "believed", w.of(0, 3), 1);
            due(38, "clubs", w.count(0), 1);
        }
    }

    /** "n (1 .. 6) of them: how many came. BAD, -12 (no ROW of bytes; a SHELF that holds nothing is missing)." */
    private static void refusedClubs() {
        for (int shelf : new int[] {LEAST_INT, -1, 6, MOST_INT}) {
            refused(3, "clubs(" + shelf + ", 0, 1)", w -> w.clubs(shelf, 0, 1), -1);
        }
        for (int n : new int[] {LEAST_INT, -1, 0, 7, MOST_INT}) {
            refused(3, "clubs(2, 0, " + n + ")", w -> w.clubs(2, 0, n), -1);
            refused(3, "clubs(0, 0, " + n + "): BAD, though the row is missing", w -> w.clubs(0, 0, n), -1);
            refused(3, "clubs(3, 0, " + n + "): BAD ahead of -12", w -> w.clubs(3, 0, n), -1);
        }
        for (int i : new int[] {LEAST_INT, -1, 0, 1, 60, MOST_INT}) {
            refused(3, "a missing row from " + i, w -> w.clubs(0, i, 1), 0);
            refused(3, "a word from " + i, w -> w.clubs(1, i, 1), -12);
            refused(3, "shorts from " + i, w -> w.clubs(3, i, 6), -12);
            refused(3, "ints from " + i, w -> w.clubs(4, i, 6), -12);
            refused(3, "booleans from " + i, w -> w.clubs(5, i, 6), -12);
        }
        WhichClub longs = new WhichClub();
        longs.row(0, 3, 6);
        due(3, "longs", longs.clubs(0, 0, 1), -12);
        WhichClub w = new WhichClub();
        for (int shelf = 0; shelf <= 5; shelf++) {
            bytes(w, shelf, shelf, 0, 0);
            due(3, "from shelf " + shelf, w.clubs(shelf, 0, 1), 1);
            due(5, "its carry", w.of(shelf, 1), shelf);
        }
        w = new WhichClub();
        w.row(0, 0, 60);
        due(3, "n 1", w.clubs(0, 0, 1), 1);
        due(38, "clubs", w.count(0), 1);
        w = new WhichClub();
        w.row(0, 0, 60);
        due(3, "n 6", w.clubs(0, 0, 6), 6);
        due(38, "clubs", w.count(0), 6);
    }

    /** "it ends where the row is missing, ends (within a three, too), one is not so, or CLUBS are FULL: those ahead came". */
    private static void clubsEnd() {
        for (int length = 0; length <= 7; length++) {
            WhichClub w = new WhichClub();
            w.row(0, 0, length);
            due(3, "a row of " + length, w.clubs(0, 0, 6), length / 3);
            due(38, "clubs", w.count(0), length / 3);
        }
        int[] from = {LEAST_INT, LEAST_INT + 2, -6, -4, -3, -2, -1, 0, 1, 2, 3, 4, 5, 6, 7, 8, 9, 60, MOST_INT - 2, MOST_INT};
        for (int i : from) {
            WhichClub w = new WhichClub();
            w.row(0, 0, 6);
            int due = i < 0 || i > 6 ? 0 : (6 - i) / 3;
            due(3, "a row of six from " + i, w.clubs(0, i, 6), due);
            due(38, "clubs", w.count(0), due);
        }
        int[][] edges = {{0, 0, 0}, {30, 3, 9}};
        int[][] beyond = {{-1, 31, -128, 127}, {-1, 4, -128, 127}, {-1, 10, -128, 127}};
        for (int[] so : edges) {
            for (int j = 0; j < 3; j++) {
                for (int v : beyond[j]) {
                    WhichClub w = new WhichClub();
                    bytes(w, 0, so[0], so[1], so[2], so[0], so[1], so[2], 1, 1, 1);
                    w.put(0, 3 + j, v);
                    due(3, "one that is not so: " + v + " at " + j, w.clubs(0, 0, 3), 1);
                    due(3, "begins with it", w.clubs(0, 3, 2), 0);
                    due(38, "clubs", w.count(0), 1);
                    for (int what = 1; what <= 3; what++) {
                        due(5, "of(0, " + what + ")", w.of(0, what), so[what - 1]);
                    }
                }
            }
        }
        for (int there = 0; there <= 6; there++) {
            WhichClub w = with(new int[there]);
            w.row(0, 0, 60);
            due(3, "until they are FULL", w.clubs(0, 0, 6), 6 - there);
            due(3, "FULL", w.clubs(0, 0, 1), 0);
            due(38, "clubs", w.count(0), 6);
        }
        refused(3, "FULL", BoundariesOfTheHole::sixClubs, w -> w.clubs(2, 0, 6), 0);
        refused(3, "-12, though they are FULL", BoundariesOfTheHole::sixClubs, w -> w.clubs(3, 0, 6), -12);
        WhichClub w = with(100);
        w.mend(0, 1, 11);
        w.undo();
        bytes(w, 0, 5, 0, 0);
        due(3, "one", w.clubs(0, 0, 1), 1);
        due(38, "no change", w.count(4), 0);
        due(28, "nor one behind those undone", w.redo(), 0);
    }

    /** "number 0 for 4 to 8", and no what below 0 or above 8. */
    private static void refusedMend() {
        int[] as = {1, 3, 1, 2, 5, 1, 5, 2, 2};
        for (int what = 4; what <= 8; what++) {
            for (int number : new int[] {LEAST_INT, -1, 1, 2, MOST_INT}) {
                int which = what;
                refused(4, "mend(" + number + ", " + what + ", ..)", w -> w.mend(number, which, as[which]), -2000000000);
                refused(5, "of(" + number + ", " + what + ")", w -> w.of(number, which), -2000000000);
            }
        }
        for (int what : new int[] {LEAST_INT, -1, 9, 10, MOST_INT}) {
            refused(4, "mend(0, " + what + ", 1)", w -> w.mend(0, what, 1), -2000000000);
        }
        refused(4, "a number that it is, beyond a club that is not", w -> w.mend(5, 2, 0), -2000000000);
        WhichClub w = with(100);
        for (int what = 0; what <= 8; what++) {
            int was = w.of(0, what);
            due(4, "mend(0, " + what + ", " + as[what] + ")", w.mend(0, what, as[what]), was);
            due(5, "of(0, " + what + ")", w.of(0, what), as[what]);
            due(38, "changes", w.count(4), what + 1);
        }
    }

    /** "BOLD (7; no more than 12 less RISK), RISK (8; likewise ..)", "(0 .. 12)", "(0 .. 12 less BOLD)". */
    private static void boldAndRisk() {
        for (int what = 7; what <= 8; what++) {
            int other = 15 - what;
            int which = what;
            for (int v : new int[] {LEAST_INT, -1, 10, 12, 13, MOST_INT}) {
                WhichClub w = new WhichClub();
                due(4, "mend(0, " + what + ", " + v + ")", w.mend(0, what, v), -2000000000);
                due(5, "as it was", w.of(0, what), 3);
                due(38, "no change", w.count(4), 0);
            }
            for (int left = 0; left <= 12; left++) {
                WhichClub w = new WhichClub();
                w.mend(0, what, 0);
                w.mend(0, other, left);
                due(5, "the other is " + left, w.of(0, other), left);
                due(4, "one more than is left", w.mend(0, what, 13 - left), -2000000000);
                due(5, "as it was", w.of(0, what), 0);
                due(4, "all that is left", w.mend(0, what, 12 - left), 0);
                due(5, "all that is left", w.of(0, what), 12 - left);
                due(4, "the other has no more, either", w.mend(0, other, left + 1), -2000000000);
                due(5, "as it was", w.of(0, other), left);
            }
            // midway BOLD is 5, RISK 4
            int most = what == 7 ? 8 : 7;
            refused(4, "one more than 12 in all", w -> w.mend(0, which, most + 1), -2000000000);
            refused(4, "below 0", w -> w.mend(0, which, -1), -2000000000);
            due(4, "12 in all", midway().mend(0, what, most), what == 7 ? 5 : 4);
        }
    }

    /** "telling the same number is none": it answers what it is, and those undone can still be done again. */
    private static void theSameNumberIsNoChange() {
        int[][] same = {{12, 0}, {7, 0}, {0, 1}, {4, 2}, {2, 3}, {0, 4}, {0, 5}, {0, 6}, {0, 7}, {0, 8}};
        for (int[] s : same) {
            int is = midway().of(s[0], s[1]);
            refused(4, "mend(" + s[0] + ", " + s[1] + ", " + is + "), as it is", w -> w.mend(s[0], s[1], is), is);
        }
    }

    /** "number 0: 9 the CELL one is in." */
    private static void refusedOf() {
        for (int number : new int[] {LEAST_INT, -1, 1, 20, 30, 31, MOST_INT}) {
            refused(5, "of(" + number + ", 9)", w -> w.of(number, 9), -2000000000);
        }
        for (int what : new int[] {LEAST_INT, -1, 10, 11, MOST_INT}) {
            refused(5, "of(0, " + what + ")", w -> w.of(0, what), -2000000000);
        }
        WhichClub w = with(300);
        due(5, "the tee", w.of(0, 9), 0);
        w.hit(0, 1);
        due(5, "the last cell", w.of(0, 9), 30);
        due(5, "no mend of it", w.mend(0, 9, 5), -2000000000);
        due(5, "the last cell", w.of(0, 9), 30);
    }

    /** "A byte (0 .. 255) comes to THE TAPE". */
    private static void refusedFeed() {
        for (int letter : new int[] {LEAST_INT, -256, -1, 256, 256 + 'd', MOST_INT}) {
            refused(6, "feed(" + letter + ")", w -> w.feed(letter), -1);
        }
        for (int letter : new int[] {0, 1, 127, 128, 254, 255}) {
            WhichClub w = new WhichClub();
            due(6, "feed(" + letter + ")", w.feed(letter), 1);
            due(38, "bytes", w.count(3), 1);
            due(7, "it is there, and no text", w.law(), -100);
        }
    }

    /** "1; -100 less its FAULT; THE TAPE is empty then." A text with a fault leaves the law as it was. */
    private static void lawThatIsRefused() {
        for (String s : new String[] {"", "+", "k+", "k;", "0-k)", "k" + times("+k", 59) + "+", times("k;", 60)}) {
            WhichClub w = with(100, 150, 200);
            due(7, "0-k", text(w, "0-k"), 1);
            due(7, "a fault", text(w, s) <= -100 ? 1 : 0, 1);
            due(38, "the tape is empty then", w.count(3), 0);
            due(10, "as by the text before", w.believed(0), 0);
            due(7, "an empty tape", w.law(), -100);
            due(10, "as by the text before", w.believed(0), 0);
            due(7, "k", text(w, "k"), 1);
            due(38, "the tape is empty then", w.count(3), 0);
            due(10, "by the new text", w.believed(0), 2);
            due(38, "a law is no change", w.count(4), 0);
        }
    }

    // ---- a shot

    private static final int[] NO_SHOT = {LEAST_INT, -10, -9, -1, 5, 6, 9, 125, 129, 200, 201, 220, 310, 311, 320, 1000, MOST_INT};

    /** Midway, but all cells of the green are green again: 20 to 30. */
    private static WhichClub onHoleAtFirst() {
        WhichClub w = with(202, 151, 101, 60, 20);
        w.mend(0, 4, 22);
        return w;
    }

    /** "(cc: 10 times the CELL, and the CLUB; not from a green CELL: BAD)". */
    private static void refusedLies() {
        for (int cc : NO_SHOT) {
            refused(8, "lies(" + cc + ", 0, 0)", BoundariesOfTheHole::onHoleAtFirst, w -> w.lies(cc, 0, 0), NONE);
        }
        for (int cell : new int[] {LEAST_INT, -1, 31, 32, MOST_INT}) {
            refused(8, "lies(0, " + cell + ", 0)", w -> w.lies(0, cell, 0), NONE);
        }
        for (int part : new int[] {LEAST_INT, -1, 2, MOST_INT}) {
            refused(8, "lies(0, 0, " + part + ")", w -> w.lies(0, 0, part), NONE);
        }
        WhichClub w = with(0, 10, 20, 30, 40, 50);
        due(8, "the last cell ahead of the green, the last club", w.lies(195, 24, 0), 1);
        due(8, "the first cell, the last club", w.lies(5, 5, 0), 1);
        due(8, "the green", w.lies(205, 25, 0), NONE);
        w.mend(30, 0, 0);
        due(8, "the last cell, the last club", w.lies(305, 25, 0), 1);
        due(8, "no cell", w.lies(315, 25, 0), NONE);
        due(8, "no clubs", new WhichClub().lies(0, 0, 0), NONE);
    }

    /** "WET (what 0), GREEN (1)." */
    private static void refusedChance() {
        for (int cc : NO_SHOT) {
            refused(9, "chance(" + cc + ", 0, 0)", BoundariesOfTheHole::onHoleAtFirst, w -> w.chance(cc, 0, 0), NONE);
            refused(9, "chance(" + cc + ", 1, 1)", BoundariesOfTheHole::onHoleAtFirst, w -> w.chance(cc, 1, 1), NONE);
        }
        for (int n : new int[] {LEAST_INT, -1, 2, MOST_INT}) {
            refused(9, "chance(0, " + n + ", 0)", w -> w.chance(0, n, 0), NONE);
            refused(9, "chance(0, 0, " + n + ")", w -> w.chance(0, 0, n), NONE);
        }
        WhichClub w = with(0, 10, 20, 30, 40, 50);
        chance(w, 195, 1, 1, 1);
        chance(w, 145, 1, 0, 1);
        chance(w, 155, 1, 1, 1);
        w.mend(30, 0, 3);
        chance(w, 195, 0, 0, 1);
        w.mend(0, 5, 3);
        w.mend(5, 1, 8);
        chance(w, 195, 0, 1, 1);
        due(9, "the green", w.chance(205, 0, 0), NONE);
        due(9, "the last cell, the last club", w.chance(305, 0, 1), 1);
        due(9, "no cell", w.chance(315, 0, 1), NONE);
        due(9, "no clubs", new WhichClub().chance(0, 0, 0), NONE);
    }

    /** "BAD; NOT: no CLUBS, or on the green." */
    private static void refusedBelieved() {
        for (int cell : new int[] {LEAST_INT, -1, 31, 32, MOST_INT}) {
            refused(10, "believed(" + cell + ")", w -> w.believed(cell), -1);
            due(10, "no clubs, no cell: BAD ahead of NOT", new WhichClub().believed(cell), -1);
        }
        refused(10, "no clubs", WhichClub::new, w -> w.believed(0), -2);
        refused(10, "no clubs, on the green", WhichClub::new, w -> w.believed(30), -2);
        refused(10, "the first of the green", BoundariesOfTheHole::onHoleAtFirst, w -> w.believed(20), -2);
        refused(10, "the last of the green", BoundariesOfTheHole::onHoleAtFirst, w -> w.believed(30), -2);
        WhichClub w = with(190);
        due(10, "the tee", w.believed(0), 0);
        due(10, "the last ahead of the green", w.believed(19), 0);
        w.mend(30, 0, 3);
        due(10, "the last cell", w.believed(30), 0);
    }

    /** "LAY UP from a CELL. BAD (green, too); NOT." */
    private static void refusedLayUp() {
        for (int cell : new int[] {LEAST_INT, -1, 20, 22, 30, 31, 32, MOST_INT}) {
            refused(11, "layUp(" + cell + ")", BoundariesOfTheHole::onHoleAtFirst, w -> w.layUp(cell), -1);
            due(11, "no clubs: BAD ahead of NOT", new WhichClub().layUp(cell), -1);
        }
        refused(11, "no clubs", WhichClub::new, w -> w.layUp(0), -2);
        refused(11, "the last ahead of the green, no clubs", WhichClub::new, w -> w.layUp(19), -2);
        WhichClub w = with(100);
        due(11, "the tee", w.layUp(0), 0);
        due(11, "the last ahead of the green", w.layUp(19), 0);
        w.mend(30, 0, 0);
        due(11, "the last cell", w.layUp(30), 0);
        w.mend(20, 0, 3);
        w.mend(0, 4, 21);
        due(11, "water there", w.layUp(30), -2);
    }

    /** "that which goes farthest (SPREAD left out) without any chance of water (of like ones the least)". */
    private static void layUpWithoutAnyChance() {
        WhichClub w = with(103, 92, 80, 80);
        due(11, "the farthest", w.layUp(0), 0);
        w.mend(14, 0, 3);
        due(11, "water behind the last slip", w.layUp(0), 0);
        w.mend(13, 0, 3);
        due(11, "water at the last slip", w.layUp(0), 1);
        w.mend(13, 0, 0);
        w.mend(7, 0, 3);
        due(11, "water at the first slip of both", w.layUp(0), 2);
        w.mend(7, 0, 0);
        w.mend(6, 0, 3);
        due(11, "water ahead of the first slip", w.layUp(0), 0);
        w.mend(8, 0, 3);
        due(11, "none", w.layUp(0), -2);
        w.mend(3, 1, 0);
        due(11, "one that goes nowhere", w.layUp(0), 3);
        w.mend(0, 0, 3);
        due(11, "from what is water now: it comes down in it", w.layUp(0), -2);
    }
}
