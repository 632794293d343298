import java.util.List;
import java.util.function.ToLongFunction;

/**
 * Each sentence of the document's parts 4 and 5, and of promises 22 to 38, that names a boundary has a test of its own
 * here: the last that is allowed, the first beyond it on either side, and that what is refused changes nothing.
 */
public final class BoundariesOfDeeds extends Checks {
    private static final int[] NO_SHELF = {LEAST_INT, -1, 6, 7, MOST_INT};

    public static void main(String[] args) {
        // in deed
        refusedHit();
        refusedPutt();
        oneIsAtTheTeeAgain();
        refusedLed();
        bestHoleNoneAtFirst();
        waterOfAllHoles();
        noImage();
        imageKeepsCellAndLed();
        // changes
        nothingToUndo();
        fortyAreKept();
        fortyWithSomeUndone();
        latestFirst();
        noOtherBehind();
        whatIsNoChange();
        // words
        refusedBody();
        fiftyBodies();
        refusedAct();
        actsThatWrap();
        noTraceThen();
        traceEnds();
        kindsAbove();
        // shelves
        refusedKeep();
        refusedRow();
        sixtyElements();
        zeroAtFirst();
        refusedPut();
        refusedElement();
        lowestBits();
        refusedShift();
        shiftAtTheEdges();
        shiftAsTheyAllWere();
        refusedTaken();
        refusedCount();
        // the object
        fiveHundredAndTwelveCalls();
        objectsOfTheirOwn();
        finish();
    }

    // ---- in deed

    private static WhichClub onTheGreen() {
        WhichClub w = with(210, 100);
        w.image();
        w.hit(0, 1);
        return w;
    }

    private static WhichClub inThePinsSand() {
        WhichClub w = with(200, 100);
        w.mend(20, 0, 2);
        w.hit(0, 1);
        return w;
    }

    /** "HIT: the CELL. BAD; STATE: on the green." */
    private static void refusedHit() {
        for (int club : new int[] {LEAST_INT, -1, 5, 6, MOST_INT}) {
            refused(22, "hit(" + club + ", 1)", w -> w.hit(club, 1), -1);
        }
        for (int club : new int[] {LEAST_INT, -1, 2, 6, MOST_INT}) {
            refused(22, "BAD ahead of STATE", BoundariesOfDeeds::onTheGreen, w -> w.hit(club, 1), -1);
        }
        for (int seed : new int[] {LEAST_INT, 0, MOST_INT}) {
            refused(22, "on the green", BoundariesOfDeeds::onTheGreen, w -> w.hit(0, seed), -5);
            refused(22, "on the green", BoundariesOfDeeds::onTheGreen, w -> w.hit(1, seed), -5);
            refused(22, "the pin's cell counts as green", BoundariesOfDeeds::inThePinsSand, w -> w.hit(1, seed), -5);
        }
        refused(22, "no clubs", WhichClub::new, w -> w.hit(0, 0), -1);
        WhichClub w = with(10, 20, 30, 40, 50, 60);
        due(22, "the first", w.hit(0, 1), 1);
        due(22, "the last", w.hit(5, 1), 7);
        due(22, "a seventh", w.hit(6, 1), -1);
        due(24, "two strokes", w.led(0), 2);
        WhichClub ahead = with(190, 10);
        due(22, "the last ahead of the green", ahead.hit(0, 1), 19);
        due(22, "the pin", ahead.hit(1, 1), 20);
        due(22, "the pin", ahead.hit(1, 1), -5);
        ahead.mend(0, 4, 21);
        due(22, "still green", ahead.hit(1, 1), -5);
        ahead.mend(20, 0, 0);
        due(22, "no longer green", ahead.hit(1, 1), 21);
    }

    /** "PUTT: 1, 2. STATE: not on the green." */
    private static void refusedPutt() {
        for (int seed : new int[] {LEAST_INT, -1, 0, 1, MOST_INT}) {
            refused(23, "midway", w -> w.putt(seed), -5);
            refused(23, "at the tee", WhichClub::new, w -> w.putt(seed), -5);
        }
        WhichClub w = with(190);
        w.hit(0, 1);
        due(23, "the last ahead of the green", w.putt(1), -5);
        w.mend(19, 0, 4);
        due(23, "green now", w.putt(1) > 0 ? 1 : 0, 1);
        w.mend(0, 0, 4);
        due(23, "the tee is green", w.putt(1) > 0 ? 1 : 0, 1);
        due(24, "two holes", w.led(1), 2);
        w.mend(0, 0, 3);
        due(23, "the tee is water", w.putt(1), -5);
        w.mend(0, 4, 5);
        w.mend(0, 0, 4);
        w.mend(0, 6, 0);
        due(23, "two", w.putt(1), 2);
        w.mend(0, 6, 12);
        due(23, "one", w.putt(1), 1);
    }

    /** "the hole is over, one is at the tee again". */
    private static void oneIsAtTheTeeAgain() {
        WhichClub w = onTheGreen();
        due(5, "on the green", w.of(0, 9), 21);
        due(23, "over", w.putt(1) > 0 ? 1 : 0, 1);
        due(5, "at the tee", w.of(0, 9), 0);
        due(24, "no strokes of this hole", w.led(0), 0);
        due(23, "not on the green", w.putt(1), -5);
        due(22, "hit from the tee", w.hit(1, 1), 10);
        due(24, "one stroke of this hole", w.led(0), 1);
    }

    private static void ledIs(WhichClub w, int... want) {
        for (int what = 0; what < want.length; what++) {
            due(24, "led(" + what + ")", w.led(what), want[what]);
        }
    }

    /** "LED: strokes (what 0), holes (1), all strokes (2), water (3), the best hole (4). BAD." */
    private static void refusedLed() {
        for (int what : new int[] {LEAST_INT, -1, 5, 6, MOST_INT}) {
            refused(24, "led(" + what + ")", w -> w.led(what), -1);
        }
    }

    /** "the best hole (0: none)". */
    private static void bestHoleNoneAtFirst() {
        WhichClub w = with(200, 100);
        ledIs(w, 0, 0, 0, 0, 0);
        w.hit(1, 1);
        ledIs(w, 1, 0, 0, 0, 0);
        w.hit(1, 1);
        ledIs(w, 2, 0, 0, 0, 0);
        w.putt(1);
        ledIs(w, 0, 1, 3, 0, 3);
        w.hit(1, 1);
        w.hit(1, 1);
        w.putt(1);
        ledIs(w, 0, 2, 6, 0, 3);
        w.hit(0, 1);
        w.putt(1);
        ledIs(w, 0, 3, 8, 0, 2);
        w.hit(1, 1);
        w.hit(1, 1);
        w.putt(1);
        ledIs(w, 0, 4, 11, 0, 2);
        w.mend(0, 0, 4);
        w.mend(0, 6, 12);
        w.putt(1);
        ledIs(w, 0, 5, 12, 0, 1);
    }

    /** "LED: .. water": each time, of holes that are over, too; it is a stroke more. */
    private static void waterOfAllHoles() {
        WhichClub w = with(200, 100);
        w.mend(10, 0, 3);
        w.hit(1, 1);
        w.hit(1, 1);
        ledIs(w, 4, 0, 0, 2, 0);
        w.hit(0, 1);
        w.putt(1);
        ledIs(w, 0, 1, 6, 2, 6);
        w.hit(1, 1);
        ledIs(w, 2, 1, 6, 3, 6);
    }

    /** "It is laid back: the CELL. STATE: there is none." */
    private static void noImage() {
        refused(26, "there is none", WhichClub::new, WhichClub::back, -5);
        refused(26, "there is none", BoundariesOfDeeds::inThePinsSand, WhichClub::back, -5);
        WhichClub w = with(100);
        w.hit(0, 1);
        due(26, "there is none", w.back(), -5);
        due(5, "where one was", w.of(0, 9), 10);
        due(25, "an image", w.image(), 10);
        due(26, "it is laid back", w.back(), 10);
        due(26, "once more", w.back(), 10);
    }

    /** "AN IMAGE keeps the CELL one is in, what LED tells", and nothing else. */
    private static void imageKeepsCellAndLed() {
        WhichClub w = with(210, 70, 50);
        w.mend(0, 6, 0);
        w.mend(7, 0, 3);
        w.hit(0, 1);
        w.putt(1);
        w.hit(1, 1);
        w.hit(2, 1);
        due(25, "an image", w.image(), 5);
        ledIs(w, 3, 1, 3, 1, 3);
        w.mend(5, 0, 4);
        w.mend(0, 6, 12);
        w.putt(1);
        w.mend(5, 0, 0);
        w.hit(1, 1);
        w.mend(0, 0, 4);
        w.putt(1);
        w.putt(1);
        w.mend(0, 0, 0);
        w.hit(1, 1);
        ledIs(w, 2, 4, 11, 3, 1);
        int changes = w.count(4);
        w.club(300);
        due(26, "laid back", w.back(), 5);
        due(5, "the cell", w.of(0, 9), 5);
        ledIs(w, 3, 1, 3, 1, 3);
        due(38, "changes stay", w.count(4), changes);
        due(5, "TOUCH stays", w.of(0, 6), 12);
        due(38, "clubs stay", w.count(0), 4);
        // an image of the tee at first
        w = with(210);
        due(25, "the tee", w.image(), 0);
        w.hit(0, 1);
        due(25, "one is on the green, another image", w.image(), 21);
        w.putt(1);
        due(26, "on the green again", w.back(), 21);
        ledIs(w, 1, 0, 0, 0, 0);
        due(22, "on the green", w.hit(0, 1), -5);
        due(23, "putt", w.putt(1) > 0 ? 1 : 0, 1);
    }

    // ---- changes

    /** "UNDONE: how many may still be. STATE: none." "DONE AGAIN: how many may still be. STATE: none." */
    private static void nothingToUndo() {
        refused(27, "none", WhichClub::new, WhichClub::undo, -5);
        refused(28, "none", WhichClub::new, WhichClub::redo, -5);
        refused(28, "none undone", BoundariesOfDeeds::inThePinsSand, WhichClub::redo, -5);
        WhichClub w = new WhichClub();
        w.mend(0, 5, 1);
        due(28, "none undone", w.redo(), -5);
        due(27, "the one", w.undo(), 0);
        due(27, "none", w.undo(), -5);
        due(5, "as at first", w.of(0, 5), 0);
        due(28, "the one", w.redo(), 0);
        due(28, "none", w.redo(), -5);
        due(5, "as told", w.of(0, 5), 1);
        due(27, "the one", w.undo(), 0);
        refused(27, "all are undone", BoundariesOfDeeds::allUndone, WhichClub::undo, -5);
    }

    private static WhichClub allUndone() {
        WhichClub w = new WhichClub();
        w.mend(0, 5, 1);
        w.mend(7, 0, 3);
        w.undo();
        w.undo();
        return w;
    }

    /** The n-th change of a run of them: cells 0 to 18 become 1, then 2, 3, 4 */
    private static void change(WhichClub w, int n) {
        due(4, "change " + n, w.mend(n % 19, 0, 1 + n / 19), n / 19);
    }

    /** "40 at most are kept": those that came first are no longer undone. */
    private static void fortyAreKept() {
        for (int n : new int[] {1, 2, 38, 39, 40, 41, 42, 60}) {
            WhichClub w = new WhichClub();
            for (int i = 0; i < n; i++) {
                change(w, i);
                due(38, "may be undone", w.count(4), Math.min(40, i + 1));
            }
            int kept = Math.min(40, n);
            for (int i = 1; i <= kept; i++) {
                due(27, "undo " + i + " of " + n, w.undo(), kept - i);
                due(5, "as it was", w.of((n - i) % 19, 0), (n - i) / 19);
            }
            due(27, "no more", w.undo(), -5);
            due(38, "may be undone", w.count(4), 0);
            for (int i = 0; i < n - kept; i++) {
                due(5, "the first stay", w.of(i % 19, 0) > i / 19 ? 1 : 0, 1);
            }
            for (int i = n - kept; i < n; i++) {
                due(28, "redo " + i + " of " + n, w.redo(), n - 1 - i);
                due(5, "as it became", w.of(i % 19, 0), 1 + i / 19);
            }
            due(28, "no more", w.redo(), -5);
            due(38, "may be undone", w.count(4), kept);
        }
    }

    /** Of 40 some are undone, then others come. */
    private static void fortyWithSomeUndone() {
        for (int back : new int[] {1, 2, 39, 40}) {
            WhichClub w = new WhichClub();
            for (int i = 0; i < 40; i++) {
                change(w, i);
            }
            for (int i = 1; i <= back; i++) {
                due(27, "undo", w.undo(), 40 - i);
            }
            for (int i = 40 - back; i < 40; i++) {
                change(w, i);
                due(38, "may be undone", w.count(4), i + 1);
                due(28, "none behind it", w.redo(), -5);
            }
            change(w, 40);
            due(38, "one more", w.count(4), 40);
            for (int i = 40; i >= 1; i--) {
                due(27, "undo " + i, w.undo(), i - 1);
                due(5, "as it was", w.of(i % 19, 0), i / 19);
            }
            due(27, "no more", w.undo(), -5);
            due(5, "the first stays", w.of(0, 0), 1);
        }
    }

    /** "can be UNDONE, the latest first": one number, many times. */
    private static void latestFirst() {
        WhichClub w = with(100);
        int[] carries = {0, 30, 7, 8, 7};
        for (int carry : carries) {
            w.mend(0, 1, carry);
        }
        int[] were = {8, 7, 30, 0, 10};
        for (int i = 0; i < 5; i++) {
            due(27, "undo", w.undo(), 4 - i);
            due(5, "carry", w.of(0, 1), were[i]);
        }
        for (int i = 0; i < 5; i++) {
            due(28, "redo", w.redo(), 4 - i);
            due(5, "carry", w.of(0, 1), carries[i]);
        }
        // BOLD and RISK, each at its edge by what the other was
        w = new WhichClub();
        int[][] edges = {{7, 0}, {8, 12}, {8, 0}, {7, 12}};
        for (int[] e : edges) {
            w.mend(0, e[0], e[1]);
        }
        int[][] was = {{0, 0}, {0, 12}, {0, 3}, {3, 3}};
        for (int i = 0; i < 4; i++) {
            due(27, "undo", w.undo(), 3 - i);
            due(5, "BOLD", w.of(0, 7), was[i][0]);
            due(5, "RISK", w.of(0, 8), was[i][1]);
        }
    }

    /** "DONE AGAIN (as long as no other came behind)". */
    private static void noOtherBehind() {
        int[][] others = {{9, 0, 2}, {0, 1, 5}, {0, 2, 0}, {0, 3, 4}, {0, 4, 9}, {0, 5, -3}, {0, 6, 0}, {0, 7, 1}, {0, 8, 1}};
        for (int[] o : others) {
            WhichClub w = with(101);
            w.mend(3, 0, 3);
            w.mend(4, 0, 3);
            w.undo();
            w.undo();
            due(28, "redo", w.redo(), 1);
            w.mend(o[0], o[1], o[2]);
            due(28, "another came", w.redo(), -5);
            due(38, "two may be undone", w.count(4), 2);
            due(27, "undo", w.undo(), 1);
            due(28, "the other one", w.redo(), 0);
            due(5, "as told", w.of(o[0], o[1]), o[2]);
            due(5, "not the one that was undone", w.of(4, 0), 0);
        }
    }

    /** "CHANGES (GROUND; PIN; all numbers of CLUBS; WIND, TOUCH, BOLD, RISK; telling the same number is none)". */
    private static void whatIsNoChange() {
        WhichClub w = midway();
        due(38, "may be undone", w.count(4), 9);
        List<ToLongFunction<WhichClub>> calls = List.of(x -> x.club(300), x -> x.clubs(2, 0, 1), x -> x.mend(12, 0, 3),
            x -> x.mend(12, 0, 5), x -> x.mend(0, 5, -1), x -> x.mend(0, 4, 20), x -> x.feed('k'), x -> x.law(), x -> x.practise(0),
            x -> x.dream(0), x -> x.hit(0, 1), x -> x.putt(1), x -> x.image(), x -> x.back(), x -> x.body(3), x -> x.act(0, 3, 1),
            x -> x.keep(0, 0), x -> x.row(0, 0, 3), x -> x.put(0, 0, 1), x -> x.shift(0, 0, 2, 0, 1));
        for (int i = 0; i < calls.size(); i++) {
            calls.get(i).applyAsLong(w);
            due(38, "no change by call " + i, w.count(4), 9);
        }
        due(28, "those undone may be done again", w.redo(), 1);
        due(5, "THE PIN", w.of(0, 4), 22);
        due(28, "those undone may be done again", w.redo(), 0);
        due(5, "SPREAD", w.of(3, 2), 1);
    }

    // ---- words

    /** Fifty words, the first and the last on shelves, and an act of the last. */
    private static WhichClub allBodies() {
        WhichClub w = with(100);
        for (int i = 0; i < 50; i++) {
            w.body(i % 8 == 1 ? 7 : i % 8);
        }
        w.act(49, 3, 5);
        w.keep(0, 49);
        w.keep(1, 0);
        return w;
    }

    /** "A WORD of a KIND (0 .. 7) is kept: its number. BAD, FULL." */
    private static void refusedBody() {
        for (int kind : new int[] {LEAST_INT, -1, 8, 9, MOST_INT}) {
            refused(29, "body(" + kind + ")", w -> w.body(kind), -1);
            refused(29, "BAD ahead of FULL", BoundariesOfDeeds::allBodies, w -> w.body(kind), -1);
        }
        for (int kind = 0; kind <= 7; kind++) {
            int which = kind;
            refused(29, "FULL", BoundariesOfDeeds::allBodies, w -> w.body(which), -3);
            WhichClub w = new WhichClub();
            due(29, "the first", w.body(kind), 0);
            due(32, "kept", w.keep(0, 0), 1);
            due(37, "its kind", w.taken(0, 0), kind);
        }
    }

    /** "BODIES 0 .. 49". */
    private static void fiftyBodies() {
        WhichClub w = new WhichClub();
        for (int i = 0; i < 50; i++) {
            due(32, "not yet", w.keep(0, i), -1);
            due(30, "not yet", w.act(i, 0, 1), 0);
            due(29, "body " + i, w.body(0), i);
            due(38, "bodies", w.count(5), i + 1);
            due(30, "says", w.act(i, 0, 1), 1 + i);
            due(32, "keep", w.keep(0, i), 1);
        }
        due(29, "the fifty-first", w.body(0), -3);
        due(38, "bodies", w.count(5), 50);
        due(30, "no such word", w.act(50, 0, 1), 0);
        due(32, "no such word", w.keep(0, 50), -1);
        due(30, "the last", w.act(49, 2, 0), 49);
    }

    /** "An ACT (0 .. 3) of a WORD with x. 0, and no TRACE then: no such WORD, ACT." */
    private static void refusedAct() {
        WhichClub w = new WhichClub();
        w.body(0);
        w.body(0);
        int[] each = {8, 16, 6, 16};
        for (int act = 0; act <= 3; act++) {
            due(30, "act " + act, w.act(1, act, 7), each[act]);
            due(31, "it began", w.trace(0), new int[] {1, 10, 11, 2}[act]);
        }
        int[][] not = {{-1, 0}, {LEAST_INT, 0}, {2, 0}, {50, 0}, {MOST_INT, 0}, {0, -1}, {0, LEAST_INT}, {0, 4}, {1, 5}, {1, MOST_INT}, {2, 4}, {-1, -1}};
        for (int[] n : not) {
            due(30, "an act", w.act(1, 3, 7), 16);
            due(38, "bodies that ran", w.count(6), 4);
            due(30, "act(" + n[0] + ", " + n[1] + ")", w.act(n[0], n[1], 7), 0);
            due(38, "none ran", w.count(6), 0);
            for (int i = 0; i < 4; i++) {
                due(31, "no trace", w.trace(i), -1);
            }
        }
        due(38, "bodies kept", w.count(5), 2);
        WhichClub none = new WhichClub();
        due(30, "no words", none.act(0, 0, 7), 0);
        due(38, "none ran", none.count(6), 0);
    }

    /** "ACTS with x (an int that wraps)". */
    private static void actsThatWrap() {
        WhichClub w = new WhichClub();
        for (int kind = 0; kind <= 7; kind++) {
            w.body(kind);
        }
        due(30, "WORD says", w.act(0, 0, MOST_INT), MOST_INT);
        due(30, "TOLD says: x + 1 + 3", w.act(1, 0, MOST_INT), LEAST_INT + 3);
        due(30, "TOLD hits: twice that", w.act(1, 1, MOST_INT), 6);
        due(30, "LIE hits: less 2 (x + 2)", w.act(2, 1, MOST_INT), -2);
        due(30, "LIE hits: of the least int, itself", w.act(2, 1, (1 << 30) - 2), LEAST_INT);
        due(30, "KNOWN hits: x + 1 ahead of it", w.act(3, 1, MOST_INT), -6);
        due(30, "KNOWN lies: 3 (x ^ 3)", w.act(3, 2, MOST_INT), 3 * (MOST_INT - 3));
        due(30, "YARD lies: (x ^ 4) less 9", w.act(4, 2, LEAST_INT), MOST_INT - 4);
        due(30, "WET lies: 3 (x ^ 5)", w.act(5, 2, LEAST_INT), LEAST_INT + 15);
        due(30, "DREAM says: 2 (x + 6)", w.act(6, 0, LEAST_INT), 12);
        due(30, "DREAM hits: twice that", w.act(6, 1, MOST_INT), 20);
        due(30, "PIN hits: 2 (x + 7 + 3) and (2 ^ 7) less 12", w.act(7, 1, MOST_INT), 18 - 7);
    }

    /** "THE TRACE: numbers of the bodies that ran in the latest act()": of a new object there is none. */
    private static void noTraceThen() {
        WhichClub w = new WhichClub();
        for (int i : new int[] {LEAST_INT, -1, 0, 1, 23, 24, MOST_INT}) {
            due(31, "trace(" + i + ")", w.trace(i), -1);
        }
        due(38, "none ran", w.count(6), 0);
        w.body(7);
        due(31, "a body is no act", w.trace(0), -1);
    }

    /** "THE TRACE's i-th body. BAD.", "the first 24 are kept": no act runs more than fourteen. */
    private static void traceEnds() {
        WhichClub w = new WhichClub();
        w.body(7);
        w.body(0);
        w.act(0, 3, 1);
        int[] ran = {81, 2, 80, 10, 20, 1, 50, 11, 20, 1, 50, 11, 20, 1};
        due(38, "all of them", w.count(6), ran.length);
        for (int i = 0; i < ran.length; i++) {
            due(31, "trace(" + i + ")", w.trace(i), ran[i]);
        }
        for (int i : new int[] {LEAST_INT, -1, ran.length, 23, 24, 25, MOST_INT}) {
            due(31, "trace(" + i + ")", w.trace(i), -1);
        }
        w.act(1, 0, 1);
        due(38, "one", w.count(6), 1);
        due(31, "the one", w.trace(0), 1);
        due(31, "no more of the act before", w.trace(1), -1);
        for (int i : new int[] {LEAST_INT, -1, 14, 24, MOST_INT}) {
            refused(31, "trace(" + i + ")", BoundariesOfDeeds::allBodies, x -> x.trace(i), -1);
        }
    }

    /** "the body of its own KIND, or of the next KIND above that has one; super: from the KIND above the body's on". */
    private static void kindsAbove() {
        int[][][] ran = {
            {{1}, {10, 1}, {11}, {2, 10, 1, 11}},
            {{20, 1}, {10, 20, 1}, {11}, {2, 10, 20, 1, 11}},
            {{1}, {30, 10, 1}, {11}, {2, 30, 10, 1, 11}},
            {{1}, {41, 30, 10, 1}, {40, 11}, {2, 41, 30, 10, 1, 40, 11}},
            {{20, 1}, {10, 20, 1}, {50, 11, 20, 1}, {2, 10, 20, 1, 50, 11, 20, 1}},
            {{1}, {41, 30, 10, 1}, {40, 11}, {60, 2, 41, 30, 10, 1, 40, 11}},
            {{70, 1}, {10, 70, 1}, {11}, {2, 10, 70, 1, 11}},
            {{20, 1}, {80, 10, 20, 1, 50, 11, 20, 1}, {50, 11, 20, 1}, {81, 2, 80, 10, 20, 1, 50, 11, 20, 1, 50, 11, 20, 1}}};
        WhichClub w = new WhichClub();
        for (int kind = 0; kind <= 7; kind++) {
            w.body(kind);
            for (int act = 0; act <= 3; act++) {
                w.act(kind, act, 100);
                String what = "kind " + kind + " act " + act;
                due(38, what, w.count(6), ran[kind][act].length);
                for (int i = 0; i < ran[kind][act].length; i++) {
                    due(31, what + " trace " + i, w.trace(i), ran[kind][act][i]);
                }
            }
        }
    }

    // ---- shelves

    /** "A SHELF holds nothing (body -1), or a WORD: 1. BAD." */
    private static void refusedKeep() {
        for (int shelf : NO_SHELF) {
            refused(32, "keep(" + shelf + ", 0)", w -> w.keep(shelf, 0), -1);
            refused(32, "keep(" + shelf + ", -1)", w -> w.keep(shelf, -1), -1);
        }
        for (int body : new int[] {LEAST_INT, -3, -2, 3, 4, 50, MOST_INT}) {
            for (int shelf = 0; shelf <= 5; shelf++) {
                int on = shelf;
                refused(32, "keep(" + shelf + ", " + body + ")", w -> w.keep(on, body), -1);
            }
        }
        for (int shelf = 0; shelf <= 5; shelf++) {
            WhichClub w = midway();
            due(32, "the last body", w.keep(shelf, 2), 1);
            due(37, "its kind", w.taken(shelf, 0), 5);
            due(32, "the first body", w.keep(shelf, 0), 1);
            due(37, "its kind", w.taken(shelf, 0), 0);
            due(32, "nothing", w.keep(shelf, -1), 1);
            due(37, "nothing", w.taken(shelf, 0), -11);
            due(32, "nothing in place of nothing", w.keep(shelf, -1), 1);
        }
    }

    /** "A SHELF holds a ROW: 1. BAD (sort, n above 60); -14." */
    private static void refusedRow() {
        for (int shelf : NO_SHELF) {
            refused(33, "row(" + shelf + ", 0, 3)", w -> w.row(shelf, 0, 3), -1);
            refused(33, "BAD ahead of -14", w -> w.row(shelf, 0, -1), -1);
        }
        for (int sort : new int[] {LEAST_INT, -1, 5, 6, MOST_INT}) {
            refused(33, "row(2, " + sort + ", 3)", w -> w.row(2, sort, 3), -1);
            refused(33, "BAD ahead of -14", w -> w.row(2, sort, -1), -1);
            refused(33, "BAD ahead of -14", w -> w.row(0, sort, LEAST_INT), -1);
        }
        for (int n : new int[] {61, 62, 120, MOST_INT}) {
            refused(33, "row(2, 0, " + n + ")", w -> w.row(2, 0, n), -1);
            refused(33, "row(0, 4, " + n + ")", w -> w.row(0, 4, n), -1);
        }
        for (int n : new int[] {LEAST_INT, -60, -2, -1}) {
            refused(33, "row(2, 0, " + n + ")", w -> w.row(2, 0, n), -14);
            refused(33, "row(0, 4, " + n + ")", w -> w.row(0, 4, n), -14);
        }
        for (int shelf = 0; shelf <= 5; shelf++) {
            for (int sort = 0; sort <= 4; sort++) {
                WhichClub w = midway();
                due(33, "the longest", w.row(shelf, sort, 60), 1);
                due(35, "its last", w.element(shelf, 59), 0);
                due(33, "the shortest", w.row(shelf, sort, 0), 1);
                due(35, "it has none", w.element(shelf, 0), NONE);
            }
        }
    }

    /** "of 0 .. 60 elements". */
    private static void sixtyElements() {
        for (int n : new int[] {0, 1, 2, 59, 60}) {
            for (int sort = 0; sort <= 4; sort++) {
                WhichClub w = new WhichClub();
                due(33, "row of " + n, w.row(0, sort, n), 1);
                due(34, "below the first", w.put(0, -1, 1), -13);
                due(34, "behind the last", w.put(0, n, 1), -13);
                due(35, "below the first", w.element(0, -1), NONE);
                due(35, "behind the last", w.element(0, n), NONE);
                for (int i = 0; i < n; i++) {
                    due(34, "put " + i, w.put(0, i, i % 2 + 1), 1);
                }
                for (int i = 0; i < n; i++) {
                    due(35, "element " + i, w.element(0, i), sort == 4 ? 1 : i % 2 + 1);
                }
            }
        }
    }

    /** "0 at first (false)": also where a longer row lay. */
    private static void zeroAtFirst() {
        for (int sort = 0; sort <= 4; sort++) {
            WhichClub w = new WhichClub();
            w.row(0, 3, 60);
            for (int i = 0; i < 60; i++) {
                w.put(0, i, -1);
            }
            due(33, "anew", w.row(0, sort, 60), 1);
            for (int i = 0; i < 60; i++) {
                due(35, "0 at first", w.element(0, i), 0);
            }
            w.put(0, 5, 1);
            w.row(0, sort, 3);
            w.row(0, sort, 6);
            due(35, "0 at first", w.element(0, 5), 0);
            w.put(0, 5, 1);
            w.keep(0, -1);
            w.row(0, sort, 6);
            due(35, "0 at first", w.element(0, 5), 0);
        }
    }

    /** "Element i of a ROW becomes v: 1. BAD, -11, -12, -13." */
    private static void refusedPut() {
        for (int i : new int[] {LEAST_INT, -1, 0, 1, 6, 60, MOST_INT}) {
            for (int shelf : NO_SHELF) {
                refused(34, "no shelf", w -> w.put(shelf, i, 1), -1);
            }
            refused(34, "nothing there", w -> w.put(0, i, 1), -11);
            refused(34, "a word", w -> w.put(1, i, 1), -12);
        }
        int[] sizes = {0, 0, 6, 3, 4, 2};
        for (int shelf = 2; shelf <= 5; shelf++) {
            int on = shelf;
            for (int i : new int[] {LEAST_INT, -1, sizes[shelf], sizes[shelf] + 1, 60, MOST_INT}) {
                refused(34, "no place", w -> w.put(on, i, 1), -13);
            }
            WhichClub w = midway();
            due(34, "the first", w.put(shelf, 0, 1), 1);
            due(34, "the last", w.put(shelf, sizes[shelf] - 1, 1), 1);
            due(35, "the first", w.element(shelf, 0), 1);
            due(35, "the last", w.element(shelf, sizes[shelf] - 1), 1);
        }
    }

    /** "Element i of a ROW; Long.MIN_VALUE: BAD, -11 to -13." */
    private static void refusedElement() {
        for (int i : new int[] {LEAST_INT, -1, 0, 1, 60, MOST_INT}) {
            for (int shelf : NO_SHELF) {
                refused(35, "no shelf", w -> w.element(shelf, i), NONE);
            }
            refused(35, "nothing there", w -> w.element(0, i), NONE);
            refused(35, "a word", w -> w.element(1, i), NONE);
        }
        int[] sizes = {0, 0, 6, 3, 4, 2};
        for (int shelf = 2; shelf <= 5; shelf++) {
            int on = shelf;
            for (int i : new int[] {LEAST_INT, -1, sizes[shelf], sizes[shelf] + 1, 60, MOST_INT}) {
                refused(35, "no place", w -> w.element(on, i), NONE);
            }
        }
        WhichClub w = midway();
        due(35, "the first byte", w.element(2, 0), 0);
        due(35, "the last byte", w.element(2, 5), 11);
        due(35, "the last int", w.element(4, 3), 70000);
        due(35, "the first boolean", w.element(5, 0), 1);
    }

    /** "what is put in keeps its lowest bits (a boolean: whether it is not 0; 1 or 0)". */
    private static void lowestBits() {
        long[] bits = {0, 1, -1, 127, 128, -128, -129, 255, 256, 257, 32767, 32768, -32768, -32769, 65535, 65536, 65664, 0x7fffffffL,
            0x80000000L, -0x80000000L, -0x80000001L, 0xffffffffL, 0x100000000L, 0x100000080L, 0x100008000L, Long.MAX_VALUE, Long.MIN_VALUE,
            Long.MIN_VALUE + 1};
        for (int sort = 0; sort <= 4; sort++) {
            WhichClub w = new WhichClub();
            w.row(0, sort, 3);
            for (long v : bits) {
                due(34, "put", w.put(0, 1, v), 1);
                long want = sort == 0 ? (byte) v : sort == 1 ? (short) v : sort == 2 ? (int) v : sort == 3 ? v : v != 0 ? 1 : 0;
                due(35, "sort " + sort + " of " + v, w.element(0, 1), want);
                due(35, "the one ahead", w.element(0, 0), 0);
                due(35, "the one behind", w.element(0, 2), 0);
            }
        }
    }

    /** Shelves 0 and 1 shorts, 2 bytes, 3 shorts of none, 4 a word, 5 nothing. */
    private static WhichClub rows() {
        WhichClub w = new WhichClub();
        w.body(2);
        for (int shelf = 0; shelf <= 1; shelf++) {
            w.row(shelf, 1, 5 + shelf);
            for (int i = 0; i < 5 + shelf; i++) {
                w.put(shelf, i, 10 * shelf + i + 1);
            }
        }
        bytes(w, 2, 7, 8, 9);
        w.row(3, 1, 0);
        w.keep(4, 0);
        return w;
    }

    private static void refusedShift(String what, int shelf, int i, int other, int j, int n, int want) {
        String call = "shift(" + shelf + ", " + i + ", " + other + ", " + j + ", " + n + "): " + what;
        refused(36, call, BoundariesOfDeeds::rows, w -> w.shift(shelf, i, other, j, n), want);
    }

    /** "n. BAD, -11 (either), -12 (no ROWS, or of unlike sorts), -13.", each ahead of those named behind it. */
    private static void refusedShift() {
        for (int shelf : NO_SHELF) {
            refusedShift("no shelf", shelf, 0, 0, 0, 1, -1);
            refusedShift("no shelf", 0, 0, shelf, 0, 1, -1);
            refusedShift("BAD ahead of -11", shelf, 0, 5, 0, 1, -1);
            refusedShift("BAD ahead of -11", 5, 0, shelf, 0, 1, -1);
            refusedShift("BAD ahead of -12", 4, 0, shelf, -1, 1, -1);
        }
        refusedShift("nothing there", 5, 0, 0, 0, 1, -11);
        refusedShift("nothing there", 0, 0, 5, 0, 1, -11);
        refusedShift("nothing there, none to come", 5, 0, 5, 0, 0, -11);
        refusedShift("-11 ahead of -12", 4, 0, 5, 0, 1, -11);
        refusedShift("-11 ahead of -12", 5, 0, 4, 0, 1, -11);
        refusedShift("-11 ahead of -13", 5, -1, 0, 0, -1, -11);
        refusedShift("a word", 4, 0, 0, 0, 1, -12);
        refusedShift("a word", 0, 0, 4, 0, 1, -12);
        refusedShift("words", 4, 0, 4, 0, 0, -12);
        refusedShift("unlike sorts", 0, 0, 2, 0, 1, -12);
        refusedShift("unlike sorts", 2, 0, 0, 0, 1, -12);
        refusedShift("unlike sorts, none to come", 2, 0, 0, 0, 0, -12);
        refusedShift("-12 ahead of -13", 2, -1, 0, 9, 99, -12);
        refusedShift("-12 ahead of -13", 4, -1, 0, 9, -1, -12);
        for (int place : new int[] {LEAST_INT, -1, MOST_INT}) {
            for (int n : new int[] {0, 1, 5}) {
                refusedShift("no place", 0, place, 1, 0, n, -13);
                refusedShift("no place", 0, 0, 1, place, n, -13);
                refusedShift("no place", 0, place, 0, 0, n, -13);
                refusedShift("no place", 0, place, 0, place, n, -13);
            }
        }
        for (int n : new int[] {LEAST_INT, -5, -1, 6, 7, 61, MOST_INT}) {
            refusedShift("no such places", 0, 0, 1, 0, n, -13);
            refusedShift("no such places", 1, 0, 0, 0, n, -13);
            refusedShift("no such places", 0, 0, 0, 0, n, -13);
        }
        refusedShift("none to come from behind the end", 0, 6, 1, 0, 0, -13);
        refusedShift("none to come to behind the end", 1, 0, 0, 6, 0, -13);
        refusedShift("one behind the end", 0, 5, 1, 0, 1, -13);
        refusedShift("one to behind the end", 1, 0, 0, 5, 1, -13);
        refusedShift("one too many", 0, 2, 1, 0, 4, -13);
        refusedShift("one too many", 1, 0, 0, 2, 4, -13);
        refusedShift("one too many", 1, 5, 0, 0, 2, -13);
        refusedShift("a row of none", 3, 0, 0, 0, 1, -13);
        refusedShift("a row of none", 0, 0, 3, 0, 1, -13);
        refusedShift("their sum wraps", 0, 1, 1, 1, MOST_INT, -13);
        refusedShift("their sum wraps", 0, MOST_INT, 1, MOST_INT, MOST_INT, -13);
        // none, at the very end, is no refusal, but changes nothing, either
        refusedShift("none", 0, 5, 1, 6, 0, 0);
        refusedShift("none", 3, 0, 3, 0, 0, 0);
        refusedShift("none", 0, 0, 3, 0, 0, 0);
        refusedShift("to where they are", 0, 0, 0, 0, 5, 5);
    }

    private static void isRow(WhichClub w, int shelf, long... want) {
        for (int i = 0; i < want.length; i++) {
            due(36, "element(" + shelf + ", " + i + ")", w.element(shelf, i), want[i]);
        }
        due(36, "no more", w.element(shelf, want.length), NONE);
    }

    /** "n elements of a ROW from i on come to another one (or the same) from j on": the first, the last, all. */
    private static void shiftAtTheEdges() {
        WhichClub w = rows();
        due(36, "the last to the last", w.shift(0, 4, 1, 5, 1), 1);
        isRow(w, 1, 11, 12, 13, 14, 15, 5);
        due(36, "the first to the first", w.shift(0, 0, 1, 0, 1), 1);
        isRow(w, 1, 1, 12, 13, 14, 15, 5);
        due(36, "all to the end", w.shift(0, 0, 1, 1, 5), 5);
        isRow(w, 1, 1, 1, 2, 3, 4, 5);
        isRow(w, 0, 1, 2, 3, 4, 5);
        due(36, "as many as fit", w.shift(1, 1, 0, 0, 5), 5);
        isRow(w, 0, 1, 2, 3, 4, 5);
        due(36, "from the end", w.shift(1, 1, 0, 0, 5), 5);
        for (int sort = 0; sort <= 4; sort++) {
            w = new WhichClub();
            w.row(0, sort, 60);
            w.row(5, sort, 60);
            w.put(0, 0, 1);
            w.put(0, 59, 1);
            due(36, "sixty", w.shift(0, 0, 5, 0, 60), 60);
            due(36, "the first", w.element(5, 0), 1);
            due(36, "the second", w.element(5, 1), 0);
            due(36, "the last", w.element(5, 59), 1);
            due(36, "sixty-one", w.shift(0, 0, 5, 0, 61), -13);
        }
    }

    /** "as they all were before": in the same row, up and down, by each distance. */
    private static void shiftAsTheyAllWere() {
        for (int i = 0; i <= 6; i++) {
            for (int j = 0; j <= 6; j++) {
                for (int n = 0; n <= 6 - Math.max(i, j); n++) {
                    WhichClub w = new WhichClub();
                    bytes(w, 0, 1, 2, 3, 4, 5, 6);
                    long[] want = {1, 2, 3, 4, 5, 6};
                    for (int k = 0; k < n; k++) {
                        want[j + k] = i + k + 1;
                    }
                    due(36, "shift(0, " + i + ", 0, " + j + ", " + n + ")", w.shift(0, i, 0, j, n), n);
                    isRow(w, 0, want);
                }
            }
        }
    }

    /** "What a SHELF holds, taken for a WORD of KIND k (0 .. 7), or under it: its KIND. BAD, -11, -12." */
    private static void refusedTaken() {
        for (int shelf : NO_SHELF) {
            refused(37, "taken(" + shelf + ", 0)", w -> w.taken(shelf, 0), -1);
        }
        for (int k : new int[] {LEAST_INT, -1, 8, 9, MOST_INT}) {
            for (int shelf = 0; shelf <= 2; shelf++) {
                int on = shelf;
                refused(37, "taken(" + shelf + ", " + k + "): BAD is first", w -> w.taken(on, k), -1);
            }
        }
        for (int k = 0; k <= 7; k++) {
            int as = k;
            refused(37, "nothing there", w -> w.taken(0, as), -11);
            for (int shelf = 2; shelf <= 5; shelf++) {
                int on = shelf;
                refused(37, "a row", w -> w.taken(on, as), -12);
            }
        }
        // by kind: itself and those above it
        int[][] above = {{0}, {1, 0}, {2, 0}, {3, 2, 0}, {4, 1, 0}, {5, 3, 2, 0}, {6, 0}, {7, 4, 1, 0}};
        WhichClub w = new WhichClub();
        for (int kind = 0; kind <= 7; kind++) {
            w.keep(5, w.body(kind));
            for (int k = 0; k <= 7; k++) {
                int want = -12;
                for (int each : above[kind]) {
                    want = each == k ? kind : want;
                }
                due(37, "kind " + kind + " taken for " + k, w.taken(5, k), want);
            }
        }
    }

    /** "How many: 0 CLUBS .. 6 bodies that ran in the latest act() (all, kept or not). BAD." */
    private static void refusedCount() {
        for (int what : new int[] {LEAST_INT, -1, 7, 8, MOST_INT}) {
            refused(38, "count(" + what + ")", w -> w.count(what), -1);
        }
        WhichClub w = new WhichClub();
        for (int cell = 0; cell <= 30; cell++) {
            w.mend(cell, 0, 4);
        }
        due(38, "all are green", w.count(1), 31);
        due(38, "none is water", w.count(2), 0);
        for (int cell = 0; cell <= 30; cell++) {
            w.mend(cell, 0, 3);
        }
        due(38, "THE PIN's alone", w.count(1), 1);
        due(38, "all but THE PIN's", w.count(2), 30);
        due(38, "changes", w.count(4), 40);
    }

    // ---- the object

    /** "An object is used for at most 512 calls after it has been made": the last of them is answered as the first. */
    private static void fiveHundredAndTwelveCalls() {
        WhichClub w = with(202, 151, 101, 60, 20, 30);
        for (int call = 7; call < 500; call++) {
            switch (call % 4) {
                case 0: due(4, "call " + call, w.mend(0, 5, 3), 0); break;
                case 1: w.strokes(call % 20, 4, 0); break;
                case 2: due(27, "call " + call, w.undo(), 0); break;
                default: w.hit(5, call); break;
            }
        }
        due(5, "call 500", w.of(0, 5), 0);
        due(22, "call 501", w.hit(9, 1), -1);
        due(4, "call 502", w.mend(0, 4, 20), 20);
        due(4, "call 503", w.mend(0, 5, 0), 0);
        due(4, "call 504", w.mend(12, 0, 3), 0);
        due(4, "call 505", w.mend(13, 0, 3), 0);
        due(4, "call 506", w.mend(8, 0, 1), 0);
        due(4, "call 507", w.mend(9, 0, 1), 0);
        due(4, "call 508", w.mend(18, 0, 2), 0);
        due(4, "call 509", w.mend(19, 0, 1), 0);
        due(12, "call 510", w.strokes(0, 3, 0), 27);
        due(12, "call 511", w.strokes(0, 3, 1), 10);
        due(12, "call 512", w.strokes(0, 3, 2), 0);
        WhichClub other = new WhichClub();
        for (int i = 1; i < 512; i++) {
            due(29, "call " + i, other.body(0), i <= 50 ? i - 1 : -3);
        }
        due(29, "call 512", other.body(0), -3);
    }

    /** "All memory is the class's own": of two objects none shows what the other was told. */
    private static void objectsOfTheirOwn() {
        WhichClub one = new WhichClub();
        midway();
        List<String> shown = seen(one);
        List<String> first = seen(new WhichClub());
        due(1, "a new object beside another", shown.equals(first) ? 1 : 0, 1);
        WhichClub left = midway();
        WhichClub right = midway();
        seen(left);
        due(1, "like ones", seen(right).equals(seen(midway())) ? 1 : 0, 1);
    }
}
