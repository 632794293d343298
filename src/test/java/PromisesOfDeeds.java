/** Promises 22 to 38: shots in deed, changes undone, words and their acts, shelves. Worked out by hand. */
public final class PromisesOfDeeds extends Checks {
    public static void main(String[] args) {
        hit();
        hitEdges();
        putt();
        led();
        image();
        undo();
        undoForty();
        redo();
        body();
        actsOfKinds();
        actsThatWrap();
        actsThatAreNot();
        trace();
        keep();
        row();
        put();
        element();
        shift();
        shiftEdges();
        taken();
        count();
        finish();
    }

    private static int slip(int seed, int spread) {
        int z = seed * 1103515245 + 12345;
        return (z >>> 8) % (2 * spread + 1) - spread;
    }

    private static boolean isIn(int seed, int touch) {
        return ((seed * 1103515245 + 12345) >>> 8) % 12 < touch;
    }

    private static void hit() {
        for (int seed = -30; seed <= 30; seed++) {
            WhichClub w = with(103, 51);
            due(22, "hit(0, " + seed + ")", w.hit(0, seed), 10 + slip(seed, 3));
            int at = w.of(0, 9);
            due(22, "where one is", at, 10 + slip(seed, 3));
            due(22, "hit(1, " + seed + ")", w.hit(1, seed), at + 5 + slip(seed, 1));
            due(22, "two strokes", w.led(0), 2);
            w = with(300, 103);
            w.mend(0, 4, 12);
            w.mend(30, 0, 1);
            w.mend(0, 5, 2);
            w.hit(0, 1);
            due(22, "backward, against the wind, from rough, the slip as drawn", w.hit(1, seed), 30 - 7 + slip(seed, 3));
        }
        WhichClub w = with(100);
        w.mend(10, 0, 3);
        due(22, "water", w.hit(0, 5), 0);
        due(22, "two strokes", w.led(0), 2);
        due(22, "once", w.led(3), 1);
        due(22, "again", w.hit(0, 5), 0);
        due(22, "four strokes", w.led(0), 4);
        due(22, "twice", w.led(3), 2);
    }

    private static void hitEdges() {
        WhichClub w = with(200);
        due(22, "no club", w.hit(-1, 0), -1);
        due(22, "no club", w.hit(1, 0), -1);
        due(22, "no club", w.hit(6, 0), -1);
        w.hit(0, 0);
        due(22, "on the green", w.hit(0, 0), -5);
        due(22, "BAD ahead of STATE", w.hit(1, 0), -1);
        due(22, "one stroke", w.led(0), 1);
        w.mend(0, 4, 10);
        w.mend(20, 0, 0);
        due(22, "no longer green: backward 20", w.hit(0, 0), 0);
    }

    private static void putt() {
        due(23, "at the tee", new WhichClub().putt(1), -5);
        for (int seed = -30; seed <= 30; seed++) {
            WhichClub w = with(220);
            w.mend(0, 6, 4);
            w.hit(0, 0);
            due(23, "putt(" + seed + ")", w.putt(seed), isIn(seed, 4) ? 1 : 2);
            due(23, "at the tee again", w.of(0, 9), 0);
            due(23, "not on the green", w.putt(seed), -5);
        }
        WhichClub w = with(200);
        w.mend(0, 6, 0);
        w.hit(0, 0);
        due(23, "in the pin's cell", w.putt(3), 1);
        w.mend(0, 1, 21);
        w.hit(0, 0);
        due(23, "no touch", w.putt(3), 2);
        w.mend(0, 6, 12);
        w.hit(0, 0);
        due(23, "all touch", w.putt(3), 1);
        w.mend(20, 0, 2);
        w.mend(0, 1, 20);
        w.mend(0, 6, 0);
        w.hit(0, 0);
        due(23, "the pin's cell counts as green", w.putt(3), 1);
    }

    private static void ledIs(WhichClub w, int... want) {
        for (int what = 0; what < want.length; what++) {
            due(24, "led(" + what + ")", w.led(what), want[what]);
        }
    }

    private static void led() {
        WhichClub w = with(210, 50, 70);
        w.mend(0, 6, 0);
        w.mend(7, 0, 3);
        w.mend(8, 0, 2);
        ledIs(w, 0, 0, 0, 0, 0);
        w.hit(2, 1);
        ledIs(w, 2, 0, 0, 1, 0);
        w.hit(0, 1);
        ledIs(w, 3, 0, 0, 1, 0);
        w.putt(1);
        ledIs(w, 0, 1, 5, 1, 5);
        w.hit(0, 1);
        w.putt(1);
        ledIs(w, 0, 2, 8, 1, 3);
        w.hit(1, 1);
        w.hit(0, 1);
        w.putt(1);
        ledIs(w, 0, 3, 12, 1, 3);
        w.hit(2, 1);
        ledIs(w, 2, 3, 12, 2, 3);
        due(24, "led(-1)", w.led(-1), -1);
        due(24, "led(5)", w.led(5), -1);
    }

    private static void image() {
        WhichClub w = with(220, 50, 70);
        w.mend(0, 6, 0);
        w.mend(7, 0, 3);
        due(26, "there is none", w.back(), -5);
        w.hit(0, 1);
        w.putt(1);
        w.hit(2, 1);
        w.hit(1, 1);
        due(25, "image", w.image(), 5);
        w.hit(0, 1);
        w.putt(1);
        w.hit(2, 1);
        w.mend(0, 5, 1);
        due(26, "back", w.back(), 5);
        due(26, "the cell", w.of(0, 9), 5);
        int[] want = {3, 1, 3, 1, 3};
        for (int what = 0; what < 5; what++) {
            due(26, "led(" + what + ")", w.led(what), want[what]);
        }
        due(26, "the wind stays", w.of(0, 5), 1);
        w.hit(1, 1);
        due(26, "once more", w.back(), 5);
        due(26, "three strokes", w.led(0), 3);
        w.hit(1, 1);
        due(25, "another", w.image(), 11);
        w.hit(1, 1);
        due(26, "the other", w.back(), 11);
        due(25, "at the tee", new WhichClub().image(), 0);
    }

    private static void undo() {
        WhichClub w = with(101);
        int[][] changes = {{5, 0, 3}, {0, 1, 12}, {0, 2, 2}, {0, 3, 4}, {0, 4, 25}, {0, 5, -1}, {0, 6, 7}, {0, 7, 9}, {0, 8, 0}, {0, 7, 12}, {5, 0, 1}};
        int[] were = new int[changes.length];
        for (int i = 0; i < changes.length; i++) {
            were[i] = w.mend(changes[i][0], changes[i][1], changes[i][2]);
        }
        w.mend(5, 0, 1);
        w.mend(5, 0, 9);
        for (int i = changes.length - 1; i >= 0; i--) {
            due(27, "undo " + i, w.undo(), i);
            due(27, "as it was " + i, w.of(changes[i][0], changes[i][1]), were[i]);
            due(27, "count(4)", w.count(4), i);
        }
        due(27, "none", w.undo(), -5);
        for (int i = 0; i < changes.length; i++) {
            due(28, "redo " + i, w.redo(), changes.length - 1 - i);
            due(28, "as it became " + i, w.of(changes[i][0], changes[i][1]), changes[i][2]);
            due(28, "count(4)", w.count(4), i + 1);
        }
        due(28, "none", w.redo(), -5);
    }

    private static void undoForty() {
        WhichClub w = with(0, 10);
        int[] number = new int[45];
        int[] what = new int[45];
        int[] was = new int[45];
        int[] became = new int[45];
        for (int i = 0; i < 45; i++) {
            what[i] = i % 3 == 0 ? 0 : i % 3 == 1 ? 1 : 4;
            number[i] = what[i] == 0 ? i % 20 : what[i] == 1 ? i % 2 : 0;
            became[i] = what[i] == 0 ? 1 + i % 2 + (i >= 20 ? 2 : 0) : what[i] == 1 ? 3 + i % 27 : 1 + i % 19;
            was[i] = w.mend(number[i], what[i], became[i]);
            due(27, "each is a change", was[i] != became[i] ? 1 : 0, 1);
            due(27, "kept", w.count(4), Math.min(40, i + 1));
        }
        for (int i = 44; i >= 5; i--) {
            due(27, "undo", w.undo(), i - 5);
            due(27, "as it was", w.of(number[i], what[i]), was[i]);
        }
        due(27, "no more than forty", w.undo(), -5);
        due(27, "as the first told it", w.of(number[0], what[0]), became[0]);
        due(27, "as the fifth told it", w.of(number[4], what[4]), became[4]);
        for (int i = 5; i < 45; i++) {
            due(28, "redo", w.redo(), 44 - i);
            due(28, "as it became", w.of(number[i], what[i]), became[i]);
        }
        due(28, "none", w.redo(), -5);
    }

    private static void redo() {
        WhichClub w = with(101);
        due(28, "none", w.redo(), -5);
        w.mend(1, 0, 1);
        w.mend(2, 0, 1);
        w.mend(3, 0, 1);
        w.undo();
        w.undo();
        w.mend(1, 0, 1);
        w.club(52);
        w.hit(0, 1);
        due(28, "the same number, a club, a shot are no changes", w.redo(), 1);
        due(28, "cell 2", w.of(2, 0), 1);
        due(28, "cell 3", w.of(3, 0), 0);
        w.mend(4, 0, 2);
        due(28, "another came behind", w.redo(), -5);
        due(27, "undo", w.undo(), 2);
        due(27, "cell 4", w.of(4, 0), 0);
        due(28, "redo", w.redo(), 0);
        due(28, "cell 4", w.of(4, 0), 2);
        due(28, "cell 3", w.of(3, 0), 0);
    }

    private static void body() {
        WhichClub w = new WhichClub();
        due(29, "no kind", w.body(-1), -1);
        due(29, "no kind", w.body(8), -1);
        for (int i = 0; i < 50; i++) {
            due(29, "body " + i, w.body(i % 8), i);
        }
        due(29, "FULL", w.body(0), -3);
        due(29, "BAD ahead of FULL", w.body(8), -1);
        due(29, "fifty", w.count(5), 50);
        due(29, "the last", w.act(49, 0, 1), 53);
    }

    /** A word of this kind with number n, does this act with x: its answer and its bodies. */
    private static void acts(int kind, int n, int act, int x, int want, int... bodies) {
        WhichClub w = new WhichClub();
        for (int i = 0; i < n; i++) {
            w.body(0);
        }
        w.body(kind);
        String call = "kind " + kind + " act " + act;
        due(30, call, w.act(n, act, x), want);
        due(38, call + ": bodies", w.count(6), bodies.length);
        for (int i = 0; i < bodies.length; i++) {
            due(31, call + ": trace " + i, w.trace(i), bodies[i]);
        }
        due(31, call + ": no more", w.trace(bodies.length), -1);
    }

    private static void actsOfKinds() {
        // WORD, n 3
        acts(0, 3, 0, 7, 10, 1);
        acts(0, 3, 1, 7, 20, 10, 1);
        acts(0, 3, 2, 7, 4, 11);
        acts(0, 3, 3, 7, 18, 2, 10, 1, 11);
        // TOLD
        acts(1, 3, 0, 7, 13, 20, 1);
        acts(1, 3, 1, 7, 26, 10, 20, 1);
        acts(1, 3, 2, 7, 4, 11);
        acts(1, 3, 3, 7, 24, 2, 10, 20, 1, 11);
        // LIE
        acts(2, 3, 0, 7, 10, 1);
        acts(2, 3, 1, 7, -20, 30, 10, 1);
        acts(2, 3, 2, 7, 4, 11);
        acts(2, 3, 3, 7, -22, 2, 30, 10, 1, 11);
        // KNOWN
        acts(3, 3, 0, 7, 10, 1);
        acts(3, 3, 1, 7, -22, 41, 30, 10, 1);
        acts(3, 3, 2, 7, 12, 40, 11);
        acts(3, 3, 3, 7, -28, 2, 41, 30, 10, 1, 40, 11);
        // YARD: lies 4 less says(2), 8
        acts(4, 3, 0, 7, 13, 20, 1);
        acts(4, 3, 1, 7, 26, 10, 20, 1);
        acts(4, 3, 2, 7, -4, 50, 11, 20, 1);
        acts(4, 3, 3, 7, 32, 2, 10, 20, 1, 50, 11, 20, 1);
        // WET
        acts(5, 3, 0, 7, 10, 1);
        acts(5, 3, 1, 7, -22, 41, 30, 10, 1);
        acts(5, 3, 2, 7, 12, 40, 11);
        acts(5, 3, 3, 7, -28 ^ 5, 60, 2, 41, 30, 10, 1, 40, 11);
        // DREAM
        acts(6, 3, 0, 7, 20, 70, 1);
        acts(6, 3, 1, 7, 40, 10, 70, 1);
        acts(6, 3, 2, 7, 4, 11);
        acts(6, 3, 3, 7, 38, 2, 10, 70, 1, 11);
        // PIN: hits 26 and lies(2), 1 less 8; tells 19 less lies(1), 2 less 8, less 1
        acts(7, 3, 0, 7, 13, 20, 1);
        acts(7, 3, 1, 7, 19, 80, 10, 20, 1, 50, 11, 20, 1);
        acts(7, 3, 2, 7, -4, 50, 11, 20, 1);
        acts(7, 3, 3, 7, 24, 81, 2, 80, 10, 20, 1, 50, 11, 20, 1, 50, 11, 20, 1);
    }

    private static void actsThatWrap() {
        acts(0, 1, 0, Integer.MAX_VALUE, Integer.MIN_VALUE, 1);
        acts(0, 0, 1, Integer.MAX_VALUE, -2, 10, 1);
        acts(2, 0, 1, 1 << 30, Integer.MIN_VALUE, 30, 10, 1);
        acts(3, 0, 2, Integer.MAX_VALUE, Integer.MAX_VALUE - 2, 40, 11);
        acts(3, 0, 1, Integer.MAX_VALUE, 0, 41, 30, 10, 1);
        acts(0, 5, 2, -1, -6, 11);
    }

    private static void actsThatAreNot() {
        WhichClub w = new WhichClub();
        due(30, "no words", w.act(0, 0, 5), 0);
        w.body(0);
        w.body(1);
        int[][] bad = {{-1, 0}, {2, 0}, {50, 0}, {0, -1}, {1, -1}, {0, 4}, {1, 4}, {Integer.MIN_VALUE, Integer.MIN_VALUE}};
        for (int[] b : bad) {
            due(30, "a word", w.act(0, 1, 5), 10);
            due(31, "a trace", w.trace(0), 10);
            due(30, "act(" + b[0] + ", " + b[1] + ")", w.act(b[0], b[1], 5), 0);
            due(31, "no trace then", w.trace(0), -1);
            due(38, "no bodies then", w.count(6), 0);
        }
    }

    private static void trace() {
        WhichClub w = new WhichClub();
        w.body(0);
        w.act(0, 3, 1);
        due(31, "trace(-1)", w.trace(-1), -1);
        due(31, "trace(3)", w.trace(3), 11);
        due(31, "trace(4)", w.trace(4), -1);
        due(31, "trace(24)", w.trace(24), -1);
        w.act(0, 0, 1);
        due(31, "of the latest alone", w.trace(0), 1);
        due(31, "of the latest alone", w.trace(1), -1);
    }

    private static void keep() {
        WhichClub w = new WhichClub();
        w.body(4);
        due(32, "a word", w.keep(0, 0), 1);
        due(32, "it is there", w.taken(0, 0), 4);
        due(32, "on another shelf, too", w.keep(5, 0), 1);
        due(32, "nothing", w.keep(0, -1), 1);
        due(32, "nothing is there", w.taken(0, 0), -11);
        due(32, "the other one", w.taken(5, 0), 4);
        due(32, "no shelf", w.keep(6, 0), -1);
        due(32, "no shelf", w.keep(-1, -1), -1);
        due(32, "no word", w.keep(5, 1), -1);
        due(32, "no word", w.keep(5, -2), -1);
        due(32, "as before", w.taken(5, 0), 4);
        w.row(5, 0, 2);
        due(32, "in place of a row", w.keep(5, 0), 1);
        due(32, "no row", w.put(5, 0, 1), -12);
        w.row(5, 0, 2);
        due(32, "nothing in place of a row", w.keep(5, -1), 1);
        due(32, "nothing", w.put(5, 0, 1), -11);
    }

    private static void row() {
        WhichClub w = new WhichClub();
        due(33, "no shelf", w.row(6, 0, 1), -1);
        due(33, "no shelf", w.row(-1, 0, 1), -1);
        due(33, "no sort", w.row(0, -1, 1), -1);
        due(33, "no sort", w.row(0, 5, 1), -1);
        due(33, "too long", w.row(0, 0, 61), -1);
        due(33, "below 0", w.row(0, 0, -1), -14);
        due(33, "below 0", w.row(0, 0, Integer.MIN_VALUE), -14);
        due(33, "BAD ahead of -14", w.row(0, 5, -1), -1);
        due(33, "nothing came", w.element(0, 0), NONE);
        due(33, "nothing came", w.taken(0, 0), -11);
        for (int sort = 0; sort <= 4; sort++) {
            due(33, "sixty", w.row(0, sort, 60), 1);
            due(33, "0 at first", w.element(0, 59), 0);
            w.put(0, 59, 1);
            due(33, "none", w.row(0, sort, 0), 1);
            due(33, "no place", w.put(0, 0, 1), -13);
            due(33, "anew", w.row(0, sort, 60), 1);
            due(33, "0 again", w.element(0, 59), 0);
        }
        w.body(0);
        w.keep(0, 0);
        due(33, "in place of a word", w.row(0, 1, 1), 1);
        due(33, "no word", w.taken(0, 0), -12);
    }

    private static void put() {
        WhichClub w = new WhichClub();
        due(34, "no shelf", w.put(-1, 0, 1), -1);
        due(34, "no shelf", w.put(6, 0, 1), -1);
        due(34, "nothing", w.put(0, 0, 1), -11);
        w.body(0);
        w.keep(0, 0);
        due(34, "a word", w.put(0, 0, 1), -12);
        long v = 0x1234567890abcdefL;
        long[] want = {(byte) v, (short) v, (int) v, v, 1};
        long[] high = {0, 0, 0, 1L << 40, 1};
        for (int sort = 0; sort <= 4; sort++) {
            w.row(1, sort, 3);
            due(34, "below", w.put(1, -1, v), -13);
            due(34, "behind", w.put(1, 3, v), -13);
            due(34, "behind", w.put(1, Integer.MAX_VALUE, v), -13);
            due(34, "put", w.put(1, 2, v), 1);
            due(34, "its lowest bits", w.element(1, 2), want[sort]);
            due(34, "the others", w.element(1, 1), 0);
            due(34, "put", w.put(1, 0, 1L << 40), 1);
            due(34, "its lowest bits", w.element(1, 0), high[sort]);
            due(34, "put", w.put(1, 0, 0), 1);
            due(34, "0", w.element(1, 0), 0);
        }
    }

    private static void element() {
        WhichClub w = new WhichClub();
        due(35, "no shelf", w.element(-1, 0), NONE);
        due(35, "no shelf", w.element(6, 0), NONE);
        due(35, "nothing", w.element(0, 0), NONE);
        w.body(0);
        w.keep(0, 0);
        due(35, "a word", w.element(0, 0), NONE);
        w.row(0, 3, 2);
        due(35, "below", w.element(0, -1), NONE);
        due(35, "behind", w.element(0, 2), NONE);
        w.put(0, 1, Long.MAX_VALUE);
        due(35, "a long", w.element(0, 1), Long.MAX_VALUE);
        w.row(1, 0, 1);
        w.put(1, 0, 200);
        due(35, "a byte", w.element(1, 0), -56);
    }

    private static WhichClub rows() {
        WhichClub w = new WhichClub();
        for (int shelf = 0; shelf <= 1; shelf++) {
            w.row(shelf, 2, 6);
            for (int i = 0; i < 6; i++) {
                w.put(shelf, i, 10 * shelf + i);
            }
        }
        return w;
    }

    private static void isRow(WhichClub w, int shelf, long... want) {
        for (int i = 0; i < want.length; i++) {
            due(36, "element(" + shelf + ", " + i + ")", w.element(shelf, i), want[i]);
        }
    }

    private static void shift() {
        WhichClub w = rows();
        due(36, "to another", w.shift(0, 1, 1, 3, 3), 3);
        isRow(w, 1, 10, 11, 12, 1, 2, 3);
        isRow(w, 0, 0, 1, 2, 3, 4, 5);
        due(36, "up in the same", w.shift(0, 0, 0, 2, 4), 4);
        isRow(w, 0, 0, 1, 0, 1, 2, 3);
        w = rows();
        due(36, "down in the same", w.shift(0, 2, 0, 0, 4), 4);
        isRow(w, 0, 2, 3, 4, 5, 4, 5);
        due(36, "all", w.shift(1, 0, 0, 0, 6), 6);
        isRow(w, 0, 10, 11, 12, 13, 14, 15);
        due(36, "none", w.shift(1, 6, 0, 6, 0), 0);
    }

    private static void shiftEdges() {
        WhichClub w = rows();
        due(36, "no shelf", w.shift(-1, 0, 1, 0, 1), -1);
        due(36, "no shelf", w.shift(0, 0, 6, 0, 1), -1);
        due(36, "nothing", w.shift(2, 0, 1, 0, 1), -11);
        due(36, "nothing", w.shift(0, 0, 2, 0, 1), -11);
        w.body(0);
        w.keep(3, 0);
        due(36, "-11 ahead of -12", w.shift(3, 0, 2, 0, 1), -11);
        due(36, "a word", w.shift(3, 0, 0, 0, 1), -12);
        due(36, "a word", w.shift(0, 0, 3, 0, 1), -12);
        w.row(4, 3, 6);
        due(36, "unlike sorts", w.shift(0, 0, 4, 0, 1), -12);
        due(36, "-12 ahead of -13", w.shift(0, -1, 4, 0, 1), -12);
        int[][] bad = {{-1, 0, 1}, {0, -1, 1}, {6, 0, 1}, {0, 6, 1}, {3, 0, 4}, {0, 3, 4}, {0, 0, 7}, {0, 0, -1}, {7, 0, 0}, {0, 7, 0},
            {Integer.MAX_VALUE, 0, 1}, {0, Integer.MAX_VALUE, Integer.MAX_VALUE}, {1, 1, Integer.MAX_VALUE}, {0, 0, Integer.MIN_VALUE}};
        for (int[] b : bad) {
            due(36, "no place " + b[0] + ", " + b[1] + ", " + b[2], w.shift(0, b[0], 1, b[1], b[2]), -13);
        }
        isRow(w, 1, 10, 11, 12, 13, 14, 15);
    }

    private static void taken() {
        WhichClub w = new WhichClub();
        due(37, "no shelf", w.taken(6, 0), -1);
        due(37, "no shelf", w.taken(-1, 0), -1);
        due(37, "no kind", w.taken(0, 8), -1);
        due(37, "no kind", w.taken(0, -1), -1);
        due(37, "nothing", w.taken(0, 0), -11);
        w.row(0, 0, 1);
        due(37, "a row", w.taken(0, 0), -12);
        String[] under = {"0", "01", "02", "023", "014", "0235", "06", "0147"};
        for (int kind = 0; kind <= 7; kind++) {
            w.keep(0, w.body(kind));
            for (int k = 0; k <= 7; k++) {
                boolean is = under[kind].indexOf('0' + k) >= 0;
                due(37, "kind " + kind + " for " + k, w.taken(0, k), is ? kind : -12);
            }
        }
    }

    private static void count() {
        WhichClub w = with(101, 52);
        due(38, "clubs", w.count(0), 2);
        w.mend(3, 0, 4);
        w.mend(4, 0, 3);
        w.mend(5, 0, 3);
        w.mend(6, 0, 2);
        due(38, "green", w.count(1), 12);
        due(38, "water", w.count(2), 2);
        w.mend(0, 4, 5);
        due(38, "the pin's cell counts as green", w.count(1), 13);
        due(38, "and not as water", w.count(2), 1);
        w.mend(0, 4, 21);
        due(38, "green", w.count(1), 12);
        w.mend(0, 0, 3);
        due(38, "water at the tee", w.count(2), 3);
        w.mend(0, 0, 4);
        due(38, "green at the tee", w.count(1), 13);
        w.mend(30, 0, 3);
        due(38, "water in the last cell", w.count(2), 3);
        w.mend(30, 0, 4);
        w.mend(0, 0, 0);
        w.feed('d');
        w.feed(0);
        due(38, "bytes", w.count(3), 2);
        due(38, "changes", w.count(4), 11);
        w.undo();
        due(38, "changes", w.count(4), 10);
        w.body(0);
        w.body(7);
        due(38, "bodies", w.count(5), 2);
        w.act(1, 3, 1);
        due(38, "bodies that ran", w.count(6), 14);
        due(38, "count(-1)", w.count(-1), -1);
        due(38, "count(7)", w.count(7), -1);
    }
}
