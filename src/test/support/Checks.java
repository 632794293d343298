import java.util.ArrayList;
import java.util.List;
import java.util.function.Supplier;
import java.util.function.ToLongFunction;

/** What the tests by hand share: answers that are due, objects set up, and all that an object shows. */
abstract class Checks {
    static final long NONE = Long.MIN_VALUE;
    static final int LEAST_INT = Integer.MIN_VALUE;
    static final int MOST_INT = Integer.MAX_VALUE;
    private static int wrong = 0;
    private static int asked = 0;

    static void due(int promise, String what, long got, long want) {
        asked++;
        if (got != want) {
            fault(promise, what + " answered " + got + ", due is " + want);
        }
    }

    private static void fault(int promise, String what) {
        wrong++;
        System.out.println("promise " + promise + ": " + what);
    }

    /** To be called last: ends with exit code 1 if an answer was wrong. */
    static void finish() {
        System.out.println(wrong == 0 ? asked + " answers are as due" : wrong + " answers are not as due");
        if (wrong != 0) {
            System.exit(1);
        }
    }

    // ---- objects set up

    static WhichClub with(int... clubs) {
        WhichClub w = new WhichClub();
        for (int cs : clubs) {
            w.club(cs);
        }
        return w;
    }

    static void bytes(WhichClub w, int shelf, int... vs) {
        w.row(shelf, 0, vs.length);
        for (int i = 0; i < vs.length; i++) {
            w.put(shelf, i, vs[i]);
        }
    }

    static void tape(WhichClub w, String s) {
        for (int i = 0; i < s.length(); i++) {
            w.feed(s.charAt(i));
        }
    }

    static int text(WhichClub w, String s) {
        tape(w, s);
        return w.law();
    }

    /** An object in the middle of everything: nothing of it is as it was at first, and each shelf holds something else. */
    static WhichClub midway() {
        WhichClub w = with(202, 151, 101, 60, 20);
        int[][] mended = {{30, 0, 0}, {8, 0, 1}, {12, 0, 3}, {18, 0, 2}, {0, 5, -1}, {0, 6, 7}, {2, 3, 4}, {0, 7, 5}, {0, 8, 4},
            {0, 4, 22}, {3, 2, 1}};
        for (int[] m : mended) {
            w.mend(m[0], m[1], m[2]);
        }
        text(w, "0-(d-c)*(d-c)+s");
        tape(w, "k+d");
        w.undo();
        w.undo();
        w.hit(4, 5);
        w.image();
        w.hit(2, 9);
        w.body(0);
        w.body(7);
        w.body(5);
        w.act(1, 3, 9);
        w.keep(1, 1);
        bytes(w, 2, 0, 1, 14, 5, 3, 11);
        w.row(3, 1, 3);
        w.put(3, 1, -300);
        w.row(4, 2, 4);
        w.put(4, 3, 70000);
        w.row(5, 4, 2);
        w.put(5, 0, 1);
        return w;
    }

    // ---- what is refused changes nothing

    /** The call is answered so; behind it the object shows all that one shows on which nothing was called. */
    static void refused(int promise, String what, Supplier<WhichClub> maker, ToLongFunction<WhichClub> call, long want) {
        WhichClub w = maker.get();
        due(promise, what, call.applyAsLong(w), want);
        List<String> got = seen(w);
        List<String> was = seen(maker.get());
        for (int i = 0; i < Math.max(got.size(), was.size()); i++) {
            String now = i < got.size() ? got.get(i) : "none";
            String then = i < was.size() ? was.get(i) : "none";
            if (!now.equals(then)) {
                fault(promise, what + " was refused, but behind it " + now + ", ahead of it " + then);
                return;
            }
        }
    }

    static void refused(int promise, String what, ToLongFunction<WhichClub> call, long want) {
        refused(promise, what, Checks::midway, call, want);
    }

    /** Every number that the object tells, at last also what its law, image and changes do: it is used up by that. */
    static List<String> seen(WhichClub w) {
        List<String> all = new ArrayList<>();
        numbers(all, w);
        for (int i = 0; i <= 6; i++) {
            all.add("count(" + i + ") = " + w.count(i));
        }
        for (int i = 0; i <= 14; i++) {
            all.add("trace(" + i + ") = " + w.trace(i));
        }
        for (int shelf = 0; shelf <= 5; shelf++) {
            all.add("taken(" + shelf + ", 0) = " + w.taken(shelf, 0));
            for (int i = 0; i <= 6; i++) {
                all.add("element(" + shelf + ", " + i + ") = " + w.element(shelf, i));
            }
        }
        led(all, w);
        reckoned(all, w);
        all.add("law() = " + w.law());
        believed(all, w);
        all.add("back() = " + w.back());
        led(all, w);
        for (int i = 0, left = 1; i < 50 && left > 0; i++) {
            left = w.redo();
            all.add("redo() = " + left);
        }
        numbers(all, w);
        for (int i = 0, left = 1; i < 50 && left > 0; i++) {
            left = w.undo();
            all.add("undo() = " + left);
        }
        numbers(all, w);
        all.add("body(0) = " + w.body(0));
        return all;
    }

    private static void numbers(List<String> all, WhichClub w) {
        for (int cell = 0; cell <= 30; cell++) {
            all.add("of(" + cell + ", 0) = " + w.of(cell, 0));
        }
        for (int c = 0; c <= 5; c++) {
            for (int what = 1; what <= 3; what++) {
                all.add("of(" + c + ", " + what + ") = " + w.of(c, what));
            }
        }
        for (int what = 4; what <= 9; what++) {
            all.add("of(0, " + what + ") = " + w.of(0, what));
        }
    }

    private static void led(List<String> all, WhichClub w) {
        all.add("of(0, 9) = " + w.of(0, 9));
        for (int what = 0; what <= 4; what++) {
            all.add("led(" + what + ") = " + w.led(what));
        }
    }

    private static void believed(List<String> all, WhichClub w) {
        for (int cell = 0; cell < 20; cell += 4) {
            all.add("believed(" + cell + ") = " + w.believed(cell));
        }
    }

    private static void reckoned(List<String> all, WhichClub w) {
        believed(all, w);
        for (int part = 0; part <= 2; part++) {
            all.add("strokes(0, 3, " + part + ") = " + w.strokes(0, 3, part));
            all.add("lie(4, 2, " + part + ") = " + w.lie(4, 2, part));
            all.add("practise(" + part + ") = " + w.practise(part));
            all.add("atPin(112, " + part + ") = " + w.atPin(112, part));
        }
        all.add("byLaw(0, 3, 0) = " + w.byLaw(0, 3, 0));
        all.add("dream(0) = " + w.dream(0));
        all.add("layUp(0) = " + w.layUp(0));
        all.add("drawn(3, 10, 0) = " + w.drawn(3, 10, 0));
        all.add("judge(2) = " + w.judge(2));
        all.add("truly(2, 1) = " + w.truly(2, 1));
        all.add("guessed(2) = " + w.guessed(2));
    }
}
