import java.math.BigInteger;
import java.util.ArrayDeque;
import java.util.ArrayList;
import java.util.Arrays;
import java.util.Deque;
import java.util.HashMap;
import java.util.List;
import java.util.Map;
import java.util.Random;

/**
 * Runs of drawn calls, each answer held against a second, slow telling of the document that shares no code
 * with the class: fractions of big numbers, plain recursion, texts split at their operators.
 */
public final class ModelRuns {
    private static final int RUNS = 1500;
    // an object is used for at most 512 calls, and a step makes at most some 70 of them
    private static final int CALLS = 512;
    private static final int CALLS_OF_A_STEP = 75;
    private static final long NONE = Long.MIN_VALUE;

    public static void main(String[] args) {
        int runs = args.length > 0 ? Integer.parseInt(args[0]) : RUNS;
        int wrong = 0;
        long[] answered = new long[Caller.NAMES.length];
        for (int run = 1; run <= runs && wrong < 10; run++) {
            Caller caller = new Caller(run);
            List<String> told = new ArrayList<>();
            for (int i = 0; told.size() + CALLS_OF_A_STEP <= CALLS; i++) {
                String fault = caller.next(told, answered);
                if (fault != null) {
                    wrong++;
                    System.out.println("run " + run + ", step " + i + ": " + fault);
                    if (args.length > 1) {
                        told.forEach(System.out::println);
                    }
                    break;
                }
            }
        }
        for (int i = 0; i < answered.length; i++) {
            if (answered[i] == 0 && runs == RUNS) {
                wrong++;
                System.out.println(Caller.NAMES[i] + " was never answered but by a refusal");
            }
        }
        System.out.println(wrong == 0 ? runs + " runs are as the model says" : wrong + " runs are not as the model says");
        if (wrong != 0) {
            System.exit(1);
        }
    }

    private static final class Caller {
        static final String[] NAMES = {"club", "clubs", "mend", "of", "feed", "law", "lies", "chance", "believed", "layUp", "strokes",
            "byLaw", "lie", "atPin", "practise", "dream", "judge", "truly", "guessed", "drawn", "hit", "putt", "led", "image", "back",
            "undo", "redo", "body", "act", "trace", "keep", "row", "put", "element", "shift", "taken", "count", "round"};
        private static final String[] TEXTS = {"0-d+c*(g=0)+k", "c", "0-c", "k", "s*3-w+k%2", "d<c?0-s;c-d", "g=1?c/2;g=2?c/3;0-(d-c)*(d-c)",
            "!(d>10)*k|w", "d-c-w>0?0-(d-c-w);d-c-w", "(d=c)+(d=c+w)*2-s", "-c%7*(k+1)", "9999*9999*d*c+k", "d>9&c>9|d<9&c<9", "c/(d-12)+k%(s-1)",
            "--c--!w", "w<0?s;w>0?c;k;7", "d=3?k", "((((((c))))))"};
        private static final String SIGNS = "dgcswk0123456789()!-+*/%<=>&|?;";

        private final Random random;
        private final WhichClub real = new WhichClub();
        private final Model model = new Model();

        Caller(int seed) {
            random = new Random(seed);
        }

        private int pick(int n) {
            return random.nextInt(n);
        }

        /** Mostly within 0 .. n - 1, sometimes just outside, sometimes far off. */
        private int near(int n) {
            int r = pick(60);
            if (r == 0) {
                return random.nextInt();
            }
            return r == 1 ? -1 : r == 2 ? n : n <= 0 ? 0 : pick(n);
        }

        private String check(List<String> told, long[] answered, int which, long got, long want, Object... args) {
            String call = NAMES[which] + Arrays.toString(args);
            told.add(call + " = " + want);
            if (want >= 0 || want < -14 && want > -2000) {
                answered[which]++;
            }
            return got == want ? null : call + " answered " + got + ", due is " + want;
        }

        String next(List<String> told, long[] n) {
            int which = pick(NAMES.length);
            if (model.clubs.isEmpty() && pick(3) == 0) {
                which = 0;
            }
            int a, b, c, d, e;
            switch (which) {
                case 0: a = pick(4) == 0 ? near(330) : 10 * pick(31) + pick(4); return check(told, n, 0, real.club(a), model.club(a), a);
                case 1: a = near(6); b = near(10); c = near(7); return check(told, n, 1, real.clubs(a, b, c), model.clubs(a, b, c), a, b, c);
                case 2: return mend(told, n);
                case 3: b = near(10); a = b == 0 ? near(31) : b < 4 ? near(6) : near(2); return check(told, n, 3, real.of(a, b), model.of(a, b), a, b);
                case 4: a = near(256); return check(told, n, 4, real.feed(a), model.feed(a), a);
                case 5: return law(told, n);
                case 6: a = shot(); b = landing(a); c = near(2); return check(told, n, 6, real.lies(a, b, c), model.lies(a, b, c), a, b, c);
                case 7: a = shot(); b = near(2); c = near(2); return check(told, n, 7, real.chance(a, b, c), model.chance(a, b, c), a, b, c);
                case 8: a = near(31); return check(told, n, 8, real.believed(a), model.believed(a), a);
                case 9: a = near(31); return check(told, n, 9, real.layUp(a), model.layUp(a), a);
                case 10: a = near(31); b = near(5); c = near(3); return check(told, n, 10, real.strokes(a, b, c), model.strokes(a, b, c), a, b, c);
                case 11: a = near(31); b = near(5); c = near(2); return check(told, n, 11, real.byLaw(a, b, c), model.byLaw(a, b, c), a, b, c);
                case 12: a = near(31); b = near(5); c = near(7); return check(told, n, 12, real.lie(a, b, c), model.lie(a, b, c), a, b, c);
                case 13: a = near(195); b = near(3); return check(told, n, 13, real.atPin(a, b), model.atPin(a, b), a, b);
                case 14: a = near(3); return check(told, n, 14, real.practise(a), model.practise(a), a);
                case 15: a = near(2); return check(told, n, 15, real.dream(a), model.dream(a), a);
                case 16: a = near(6); return check(told, n, 16, real.judge(a), model.judge(a), a);
                case 17: a = near(6); b = near(6); return check(told, n, 17, real.truly(a, b), model.truly(a, b), a, b);
                case 18: a = near(6); return check(told, n, 18, real.guessed(a), model.guessed(a), a);
                case 19: a = random.nextInt(); b = pick(3) == 0 ? near(220) : 10 * (1 + pick(20)) + pick(2); c = near(2);
                    return check(told, n, 19, real.drawn(a, b, c), model.drawn(a, b, c), a, b, c);
                case 20: a = near(6); b = random.nextInt(); return check(told, n, 20, real.hit(a, b), model.hit(a, b), a, b);
                case 21: a = random.nextInt(); return check(told, n, 21, real.putt(a), model.putt(a), a);
                case 22: a = near(5); return check(told, n, 22, real.led(a), model.led(a), a);
                case 23: return pick(3) == 0 ? check(told, n, 23, real.image(), model.image()) : null;
                case 24: return pick(3) == 0 ? check(told, n, 24, real.back(), model.back()) : null;
                case 25: return check(told, n, 25, real.undo(), model.undo());
                case 26: return check(told, n, 26, real.redo(), model.redo());
                case 27: a = near(8); return check(told, n, 27, real.body(a), model.body(a), a);
                case 28: a = near(12); b = near(4); c = random.nextInt(); return check(told, n, 28, real.act(a, b, c), model.act(a, b, c), a, b, c);
                case 29: a = near(16); return check(told, n, 29, real.trace(a), model.trace(a), a);
                case 30: a = near(6); b = near(8); return check(told, n, 30, real.keep(a, b), model.keep(a, b), a, b);
                case 31: a = near(6); b = pick(2) == 0 ? 0 : near(5); c = near(61); return check(told, n, 31, real.row(a, b, c), model.row(a, b, c), a, b, c);
                case 32: a = near(6); b = near(60); long v = random.nextLong(); return check(told, n, 32, real.put(a, b, v), model.put(a, b, v), a, b, v);
                case 33: a = near(6); b = near(60); return check(told, n, 33, real.element(a, b), model.element(a, b), a, b);
                case 34: a = near(6); b = near(30); c = near(6); d = near(30); e = near(20);
                    return check(told, n, 34, real.shift(a, b, c, d, e), model.shift(a, b, c, d, e), a, b, c, d, e);
                case 35: a = near(6); b = near(8); return check(told, n, 35, real.taken(a, b), model.taken(a, b), a, b);
                case 36: a = near(7); return check(told, n, 36, real.count(a), model.count(a), a);
                default: return round(told, n);
            }
        }

        private int shot() {
            return pick(20) == 0 ? near(320) : 10 * pick(31) + pick(Math.max(1, model.clubs.size()));
        }

        /** Often a cell where the shot does lie. */
        private int landing(int cc) {
            if (cc < 0 || cc / 10 > 30 || cc % 10 >= model.clubs.size() || pick(3) == 0) {
                return near(31);
            }
            return model.landings(cc / 10, model.clubs.get(cc % 10)).get(0)[0];
        }

        private String mend(List<String> told, long[] n) {
            int what = pick(3) == 0 ? near(9) : pick(4);
            int a = what == 0 ? near(31) : what < 4 ? near(Math.max(1, model.clubs.size())) : pick(12) == 0 ? 1 : 0;
            int[] most = {5, 31, 4, 10, 30, 7, 13, 13, 13};
            int v = what < 0 || what > 8 ? near(5) : near(most[what]);
            v = what == 5 ? v - 3 : what == 0 && pick(3) == 0 ? 3 : v;
            return check(told, n, 2, real.mend(a, what, v), model.mend(a, what, v), a, what, v);
        }

        private String law(List<String> told, long[] n) {
            int r = pick(4);
            StringBuilder s = new StringBuilder(TEXTS[pick(TEXTS.length)]);
            if (r == 1) {
                s.setCharAt(pick(s.length()), SIGNS.charAt(pick(SIGNS.length())));
            } else if (r == 2) {
                s.insert(pick(s.length() + 1), SIGNS.charAt(pick(SIGNS.length())));
            } else if (r == 3 && pick(3) == 0) {
                s.setLength(pick(s.length()));
            }
            for (int i = 0; i < s.length(); i++) {
                String fault = check(told, n, 4, real.feed(s.charAt(i)), model.feed(s.charAt(i)), (int) s.charAt(i));
                if (fault != null) {
                    return fault;
                }
            }
            return check(told, n, 5, real.law(), model.law());
        }

        /** Puts a round on a shelf whose threes mostly can be, then asks all there is to ask of it. */
        private String round(List<String> told, long[] n) {
            if (model.clubs.isEmpty()) {
                return null;
            }
            int shelf = pick(6);
            int size = pick(20) == 0 ? pick(61) : 3 * pick(6);
            String fault = check(told, n, 31, real.row(shelf, 0, size), model.row(shelf, 0, size), shelf, 0, size);
            for (int i = 0; i + 2 < size && fault == null; i += 3) {
                int from = pick(40) == 0 ? pick(128) : pick(31);
                int club = pick(40) == 0 ? pick(9) - 2 : pick(model.clubs.size());
                int to = pick(31);
                if (from <= 30 && club >= 0 && club < model.clubs.size() && pick(30) != 0) {
                    List<int[]> all = model.landings(from, model.clubs.get(club));
                    to = all.get(pick(all.size()))[0];
                }
                long[] three = {from, club, to};
                for (int j = 0; j < 3 && fault == null; j++) {
                    fault = check(told, n, 32, real.put(shelf, i + j, three[j]), model.put(shelf, i + j, three[j]), shelf, i + j, three[j]);
                }
            }
            fault = fault != null ? fault : check(told, n, 16, real.judge(shelf), model.judge(shelf), shelf);
            fault = fault != null ? fault : check(told, n, 18, real.guessed(shelf), model.guessed(shelf), shelf);
            for (int c = 0; c < model.clubs.size() && fault == null; c++) {
                fault = check(told, n, 17, real.truly(shelf, c), model.truly(shelf, c), shelf, c);
            }
            fault = fault != null || pick(4) > 0 ? fault : check(told, n, 1, real.clubs(shelf, 0, 6), model.clubs(shelf, 0, 6), shelf, 0, 6);
            return fault != null ? fault : check(told, n, NAMES.length - 1, 0, 0);
        }
    }

    private record Frac(BigInteger above, BigInteger below) implements Comparable<Frac> {
        static Frac of(long a, long b) {
            BigInteger x = BigInteger.valueOf(a);
            BigInteger y = BigInteger.valueOf(b);
            BigInteger g = x.gcd(y);
            return new Frac(x.divide(g), y.divide(g));
        }

        private static Frac lowest(BigInteger x, BigInteger y) {
            BigInteger g = x.gcd(y);
            return new Frac(x.divide(g), y.divide(g));
        }

        Frac plus(Frac o) {
            return lowest(above.multiply(o.below).add(o.above.multiply(below)), below.multiply(o.below));
        }

        Frac minus(Frac o) {
            return plus(new Frac(o.above.negate(), o.below));
        }

        Frac times(Frac o) {
            return lowest(above.multiply(o.above), below.multiply(o.below));
        }

        @Override
        public int compareTo(Frac o) {
            return minus(o).above.signum();
        }

        long part(int p) {
            return (p == 0 ? above : below).longValueExact();
        }
    }

    private static final class Model {
        final List<int[]> clubs = new ArrayList<>();
        private final int[] ground = new int[31];
        private final int[] lone = {20, 0, 6, 3, 3};
        private StringBuilder tape = new StringBuilder();
        private String text = null;
        private boolean dreams = true;
        private final List<int[]> done = new ArrayList<>();
        private final Deque<int[]> undone = new ArrayDeque<>();
        private int[] deed = new int[6];
        private int[] image = null;
        private final List<Integer> bodies = new ArrayList<>();
        private final List<Integer> ran = new ArrayList<>();
        private final Object[] shelves = new Object[6];
        private Map<String, Frac> memo = new HashMap<>();

        Model() {
            Arrays.fill(ground, 20, 31, 4);
        }

        private boolean green(int cell) {
            return cell == lone[0] || ground[cell] == 4;
        }

        private boolean water(int cell) {
            return ground[cell] == 3 && !green(cell);
        }

        private static boolean cell(int c) {
            return 0 <= c && c <= 30;
        }

        // every way a shot can come down, all alike: where it lies, whether it was in water
        List<int[]> landings(int from, int[] club) {
            boolean isBack = from > lone[0];
            int go = club[0];
            if (club[0] >= 5) {
                go = isBack ? go - lone[1] : go + lone[1];
            }
            go = ground[from] == 1 ? go - 1 : ground[from] == 2 ? go / 2 : go;
            go = Math.max(go, 0);
            List<int[]> all = new ArrayList<>();
            for (int slip = -club[1]; slip <= club[1]; slip++) {
                int to = Math.min(30, Math.max(0, from + (isBack ? -go : go) + slip));
                all.add(water(to) ? new int[] {from, 1} : new int[] {to, 0});
            }
            return all;
        }

        int club(int cs) {
            if (cs < 0 || cs > 303 || cs % 10 > 3) {
                return -1;
            }
            if (clubs.size() == 6) {
                return -3;
            }
            clubs.add(new int[] {cs / 10, cs % 10, 1});
            return clubs.size() - 1;
        }

        int clubs(int shelf, int i, int n) {
            if (shelf < 0 || shelf > 5 || n < 1 || n > 6) {
                return -1;
            }
            if (shelves[shelf] == null) {
                return 0;
            }
            if (!(shelves[shelf] instanceof byte[] row)) {
                return -12;
            }
            int came = 0;
            for (long at = i; came < n && at >= 0 && at + 2 < row.length && clubs.size() < 6; at += 3, came++) {
                int[] c = {row[(int) at], row[(int) at + 1], row[(int) at + 2]};
                if (c[0] < 0 || c[0] > 30 || c[1] < 0 || c[1] > 3 || c[2] < 0 || c[2] > 9) {
                    break;
                }
                clubs.add(c);
            }
            return came;
        }

        private boolean there(int number, int what) {
            return what == 0 ? cell(number) : what >= 1 && what <= 3 ? number >= 0 && number < clubs.size() : what >= 4 && what <= 8 && number == 0;
        }

        private int get(int number, int what) {
            return what == 0 ? ground[number] : what < 4 ? clubs.get(number)[what - 1] : lone[what - 4];
        }

        private void set(int number, int what, int v) {
            if (what == 0) {
                ground[number] = v;
            } else if (what < 4) {
                clubs.get(number)[what - 1] = v;
            } else {
                lone[what - 4] = v;
            }
        }

        int mend(int number, int what, int v) {
            int[][] range = {{0, 4}, {0, 30}, {0, 3}, {0, 9}, {1, 29}, {-3, 3}, {0, 12}, {0, 12 - lone[4]}, {0, 12 - lone[3]}};
            if (!there(number, what) || v < range[what][0] || v > range[what][1]) {
                return -2000000000;
            }
            int was = get(number, what);
            if (was != v) {
                done.add(new int[] {number, what, was, v});
                if (done.size() > 40) {
                    done.remove(0);
                }
                undone.clear();
                set(number, what, v);
            }
            return was;
        }

        int of(int number, int what) {
            return what == 9 && number == 0 ? deed[5] : there(number, what) ? get(number, what) : -2000000000;
        }

        int feed(int letter) {
            if (letter < 0 || letter > 255) {
                return -1;
            }
            if (tape.length() == 120) {
                return -3;
            }
            tape.append((char) letter);
            return tape.length();
        }

        int law() {
            String s = tape.toString();
            tape = new StringBuilder();
            int fault = Text.fault(s);
            if (fault >= 0) {
                return -100 - fault;
            }
            text = s;
            return 1;
        }

        private int rank(int d, int cell, int k) {
            int[] club = clubs.get(k);
            int c = club[0] + (dreams ? club[2] : 0);
            return text == null ? -Math.abs(d - c - lone[1]) : Text.value(text, new int[] {d, ground[cell], c, club[1], lone[1], k});
        }

        private int takes(int cell, int x) {
            int best = 0;
            for (int k = 1; k < clubs.size(); k++) {
                if (rank(Math.abs(cell - lone[0]) + x, cell, k) > rank(Math.abs(cell - lone[0]) + x, cell, best)) {
                    best = k;
                }
            }
            return best;
        }

        private boolean shot(int cc) {
            return cc >= 0 && cell(cc / 10) && !green(cc / 10) && cc % 10 < clubs.size();
        }

        long lies(int cc, int to, int part) {
            if (!shot(cc) || !cell(to) || part < 0 || part > 1) {
                return NONE;
            }
            List<int[]> all = landings(cc / 10, clubs.get(cc % 10));
            return Frac.of(all.stream().filter(l -> l[0] == to).count(), all.size()).part(part);
        }

        long chance(int cc, int what, int part) {
            if (!shot(cc) || what < 0 || what > 1 || part < 0 || part > 1) {
                return NONE;
            }
            List<int[]> all = landings(cc / 10, clubs.get(cc % 10));
            return Frac.of(all.stream().filter(l -> what == 0 ? l[1] == 1 : green(l[0])).count(), all.size()).part(part);
        }

        int believed(int cell) {
            return !cell(cell) ? -1 : green(cell) || clubs.isEmpty() ? -2 : takes(cell, 0);
        }

        int layUp(int cell) {
            if (!cell(cell) || green(cell)) {
                return -1;
            }
            int best = -2;
            int far = -1;
            for (int k = 0; k < clubs.size(); k++) {
                int c = clubs.get(k)[0];
                int go = c + (c < 5 ? 0 : cell > lone[0] ? -lone[1] : lone[1]);
                go = Math.max(0, ground[cell] == 1 ? go - 1 : ground[cell] == 2 ? go / 2 : go);
                if (go > far && landings(cell, clubs.get(k)).stream().allMatch(l -> l[1] == 0)) {
                    far = go;
                    best = k;
                }
            }
            return best;
        }

        // way 0 best, 1 by the law
        private Frac mean(int cell, int n, int way) {
            if (green(cell)) {
                return cell == lone[0] ? Frac.of(1, 1) : Frac.of(24 - lone[2], 12);
            }
            if (n == 0 || clubs.isEmpty()) {
                return Frac.of(2 + Math.abs(cell - lone[0]) / 5, 1);
            }
            String key = cell + "," + n + "," + way;
            Frac known = memo.get(key);
            if (known == null) {
                known = by(cell, way == 1 ? takes(cell, 0) : bestClub(cell, n), n, way);
                memo.put(key, known);
            }
            return known;
        }

        private int bestClub(int cell, int n) {
            int best = 0;
            Frac least = by(cell, 0, n, 0);
            for (int k = 1; k < clubs.size(); k++) {
                Frac f = by(cell, k, n, 0);
                if (f.compareTo(least) < 0) {
                    best = k;
                    least = f;
                }
            }
            return best;
        }

        private Frac by(int cell, int k, int n, int way) {
            List<int[]> all = landings(cell, clubs.get(k));
            Frac sum = Frac.of(0, 1);
            for (int[] l : all) {
                sum = sum.plus(mean(l[0], n - 1, way)).plus(Frac.of(l[1], 1));
            }
            return Frac.of(1, 1).plus(sum.times(Frac.of(1, all.size())));
        }

        long strokes(int cell, int n, int part) {
            if (!cell(cell) || n < 0 || n > 4 || part < 0 || part > 2) {
                return NONE;
            }
            memo.clear();
            if (part < 2) {
                return mean(cell, n, 0).part(part);
            }
            return green(cell) || n == 0 || clubs.isEmpty() ? -2 : bestClub(cell, n);
        }

        long byLaw(int cell, int n, int part) {
            if (!cell(cell) || n < 0 || n > 4 || part < 0 || part > 1) {
                return NONE;
            }
            memo.clear();
            return mean(cell, n, 1).part(part);
        }

        long lie(int cell, int n, int part) {
            if (!cell(cell) || green(cell) || clubs.isEmpty() || n < 1 || n > 4 || part < 0 || part > 6) {
                return NONE;
            }
            memo.clear();
            Frac none = by(cell, takes(cell, 0), n, 1);
            int best = 0;
            Frac least = none;
            Frac known = none;
            for (int x : new int[] {-1, 1, -2, 2, -3, 3, -4, 4, -5, 5}) {
                Frac f = by(cell, takes(cell, x), n, 1);
                if (f.compareTo(least) < 0) {
                    best = x;
                    least = f;
                }
                Frac h = by(cell, takes(cell, x < 0 ? -(-x / 2) : x / 2), n, 1);
                known = h.compareTo(known) < 0 ? h : known;
            }
            return part < 2 ? least.part(part) : part == 2 ? best : part < 5 ? none.minus(least).part(part - 3) : none.minus(known).part(part - 5);
        }

        private Frac even(int d, int h, boolean isBold) {
            if (h == 0) {
                return Frac.of(d <= 0 ? 1 : 0, 1);
            }
            if (!isBold) {
                return best(d, h - 1);
            }
            return best(d - 1, h - 1).times(Frac.of(lone[3], 12)).plus(best(d + 2, h - 1).times(Frac.of(lone[4], 12)))
                .plus(best(d, h - 1).times(Frac.of(12 - lone[3] - lone[4], 12)));
        }

        private Frac best(int d, int h) {
            Frac safe = even(d, h, false);
            Frac bold = even(d, h, true);
            return bold.compareTo(safe) > 0 ? bold : safe;
        }

        long atPin(int dh, int part) {
            if (dh < 0 || dh > 189 || dh % 10 < 1 || dh % 10 > 2 || part < 0 || part > 2) {
                return NONE;
            }
            int d = dh / 10 - 9;
            int h = dh % 10;
            return part < 2 ? best(d, h).part(part) : even(d, h, true).compareTo(even(d, h, false)) > 0 ? 1 : 0;
        }

        private Frac fromTee(int way) {
            memo.clear();
            return mean(0, 3, way);
        }

        long practise(int part) {
            if (part < 0 || part > 2) {
                return NONE;
            }
            Frac now = fromTee(0);
            Frac gain = Frac.of(-1, 1);
            int which = -1;
            for (int i = 0; i <= clubs.size(); i++) {
                int[] row = i == 0 ? lone : clubs.get(i - 1);
                int at = i == 0 ? 2 : 1;
                int was = row[at];
                row[at] = i == 0 ? Math.min(12, was + 1) : Math.max(0, was - 1);
                Frac g = now.minus(fromTee(0));
                row[at] = was;
                if (g.compareTo(gain) > 0) {
                    gain = g;
                    which = i;
                }
            }
            return part == 2 ? which : gain.part(part);
        }

        long dream(int part) {
            if (part < 0 || part > 1) {
                return NONE;
            }
            Frac now = fromTee(1);
            dreams = false;
            Frac then = fromTee(1);
            dreams = true;
            return now.minus(then).part(part);
        }

        private int refuse(int shelf) {
            return shelf < 0 || shelf > 5 ? -1 : shelves[shelf] == null ? -11 : shelves[shelf] instanceof byte[] ? 0 : -12;
        }

        int judge(int shelf) {
            if (refuse(shelf) != 0) {
                return refuse(shelf);
            }
            byte[] r = (byte[]) shelves[shelf];
            for (int i = 0; i < r.length; i += 3) {
                if (i + 2 >= r.length || !canBe(r[i], r[i + 1], r[i + 2])) {
                    return i / 3;
                }
            }
            return -2;
        }

        private boolean canBe(int from, int k, int to) {
            return cell(from) && !green(from) && k >= 0 && k < clubs.size() && landings(from, clubs.get(k)).stream().anyMatch(l -> l[0] == to);
        }

        int truly(int shelf, int k) {
            if (k < 0 || k >= clubs.size() || refuse(shelf) == -1) {
                return -1;
            }
            if (refuse(shelf) != 0) {
                return refuse(shelf);
            }
            byte[] r = (byte[]) shelves[shelf];
            int best = -2;
            Frac likeliest = Frac.of(0, 1);
            for (int carry = 0; carry <= 30; carry++) {
                int[] club = {carry, clubs.get(k)[1], 0};
                Frac odds = Frac.of(1, 1);
                boolean any = false;
                for (int i = 0; i + 2 < r.length; i += 3) {
                    if (r[i + 1] == k) {
                        any = true;
                        int to = r[i + 2];
                        boolean can = cell(r[i]) && !green(r[i]);
                        long ways = can ? landings(r[i], club).stream().filter(l -> l[0] == to).count() : 0;
                        odds = odds.times(Frac.of(ways, 2 * club[1] + 1));
                    }
                }
                if (any && odds.compareTo(likeliest) > 0) {
                    likeliest = odds;
                    best = carry;
                }
            }
            return best;
        }

        int guessed(int shelf) {
            if (refuse(shelf) != 0) {
                return refuse(shelf);
            }
            byte[] r = (byte[]) shelves[shelf];
            int took = 0;
            for (int i = 0; i + 2 < r.length && !clubs.isEmpty(); i += 3) {
                took += cell(r[i]) && !green(r[i]) && takes(r[i], 0) == r[i + 1] ? 1 : 0;
            }
            return took;
        }

        private int z;

        private int draw(int n) {
            z = (int) (z * 1103515245L + 12345L);
            return (z >>> 8) % n;
        }

        private int[] drawShot(int from, int k) {
            List<int[]> all = landings(from, clubs.get(k));
            return all.get(draw(all.size()));
        }

        private int drawPutts(int cell) {
            return cell == lone[0] || draw(12) < lone[2] ? 1 : 2;
        }

        int drawn(int seed, int nw, int what) {
            if (nw < 10 || nw > 201 || nw % 10 > 1 || what < 0 || what > 1) {
                return -1;
            }
            if (clubs.isEmpty()) {
                return -5;
            }
            memo.clear();
            z = seed;
            int strokes = 0;
            int wet = 0;
            for (int i = 0; i < nw / 10; i++) {
                int cell = 0;
                for (int shot = 0; shot < 12 && !green(cell); shot++) {
                    int[] l = drawShot(cell, nw % 10 == 0 ? bestClub(cell, 3) : takes(cell, 0));
                    cell = l[0];
                    strokes += 1 + l[1];
                    wet += l[1];
                }
                strokes += green(cell) ? drawPutts(cell) : 5;
            }
            return what == 0 ? strokes : wet;
        }

        int hit(int k, int seed) {
            if (k < 0 || k >= clubs.size()) {
                return -1;
            }
            if (green(deed[5])) {
                return -5;
            }
            z = seed;
            int[] l = drawShot(deed[5], k);
            deed[5] = l[0];
            deed[0] += 1 + l[1];
            deed[3] += l[1];
            return deed[5];
        }

        int putt(int seed) {
            if (!green(deed[5])) {
                return -5;
            }
            z = seed;
            int putts = drawPutts(deed[5]);
            int all = deed[0] + putts;
            deed = new int[] {0, deed[1] + 1, deed[2] + all, deed[3], deed[4] == 0 ? all : Math.min(deed[4], all), 0};
            return putts;
        }

        int led(int what) {
            return what < 0 || what > 4 ? -1 : deed[what];
        }

        int image() {
            image = deed.clone();
            return image[5];
        }

        int back() {
            if (image == null) {
                return -5;
            }
            deed = image.clone();
            return deed[5];
        }

        int undo() {
            if (done.isEmpty()) {
                return -5;
            }
            int[] c = done.remove(done.size() - 1);
            undone.push(c);
            set(c[0], c[1], c[2]);
            return done.size();
        }

        int redo() {
            if (undone.isEmpty()) {
                return -5;
            }
            int[] c = undone.pop();
            done.add(c);
            set(c[0], c[1], c[3]);
            return undone.size();
        }

        int body(int kind) {
            if (kind < 0 || kind > 7) {
                return -1;
            }
            if (bodies.size() == 50) {
                return -3;
            }
            bodies.add(kind);
            return bodies.size() - 1;
        }

        int act(int body, int act, int x) {
            ran.clear();
            if (body < 0 || body >= bodies.size() || act < 0 || act > 3) {
                return 0;
            }
            Word[] kinds = {new Word(), new Told(), new Lie(), new Known(), new Yard(), new Wet(), new Dream(), new Pin()};
            Word w = kinds[bodies.get(body)];
            w.n = body;
            w.ran = ran;
            return act == 0 ? w.says(x) : act == 1 ? w.hits(x) : act == 2 ? w.lies(x) : w.tells(x);
        }

        int trace(int i) {
            return i < 0 || i >= Math.min(24, ran.size()) ? -1 : ran.get(i);
        }

        int keep(int shelf, int body) {
            if (shelf < 0 || shelf > 5 || body < -1 || body >= bodies.size()) {
                return -1;
            }
            shelves[shelf] = body == -1 ? null : (Object) body;
            return 1;
        }

        int row(int shelf, int sort, int n) {
            if (shelf < 0 || shelf > 5 || sort < 0 || sort > 4 || n > 60) {
                return -1;
            }
            if (n < 0) {
                return -14;
            }
            shelves[shelf] = sort == 0 ? new byte[n] : sort == 1 ? new short[n] : sort == 2 ? new int[n] : sort == 3 ? new long[n] : new boolean[n];
            return 1;
        }

        int put(int shelf, int i, long v) {
            if (shelf < 0 || shelf > 5) {
                return -1;
            }
            Object o = shelves[shelf];
            if (o == null || o instanceof Integer) {
                return o == null ? -11 : -12;
            }
            if (i < 0 || i >= java.lang.reflect.Array.getLength(o)) {
                return -13;
            }
            if (o instanceof byte[] r) {
                r[i] = (byte) v;
            } else if (o instanceof short[] r) {
                r[i] = (short) v;
            } else if (o instanceof int[] r) {
                r[i] = (int) v;
            } else if (o instanceof long[] r) {
                r[i] = v;
            } else {
                ((boolean[]) o)[i] = v != 0;
            }
            return 1;
        }

        long element(int shelf, int i) {
            if (shelf < 0 || shelf > 5 || shelves[shelf] == null || shelves[shelf] instanceof Integer) {
                return NONE;
            }
            Object o = shelves[shelf];
            if (i < 0 || i >= java.lang.reflect.Array.getLength(o)) {
                return NONE;
            }
            return o instanceof boolean[] b ? (b[i] ? 1 : 0) : java.lang.reflect.Array.getLong(o, i);
        }

        int shift(int shelf, int i, int other, int j, int n) {
            if (shelf < 0 || shelf > 5 || other < 0 || other > 5) {
                return -1;
            }
            try {
                System.arraycopy(shelves[shelf], i, shelves[other], j, n);
                return n;
            } catch (NullPointerException e) {
                return -11;
            } catch (ArrayStoreException e) {
                return -12;
            } catch (IndexOutOfBoundsException e) {
                return -13;
            }
        }

        int taken(int shelf, int k) {
            if (shelf < 0 || shelf > 5 || k < 0 || k > 7) {
                return -1;
            }
            if (!(shelves[shelf] instanceof Integer body)) {
                return shelves[shelf] == null ? -11 : -12;
            }
            Class<?>[] kinds = {Word.class, Told.class, Lie.class, Known.class, Yard.class, Wet.class, Dream.class, Pin.class};
            int kind = bodies.get(body);
            return kinds[k].isAssignableFrom(kinds[kind]) ? kind : -12;
        }

        int count(int what) {
            int[] all = {clubs.size(), 0, 0, tape.length(), done.size(), bodies.size(), ran.size()};
            for (int c = 0; c <= 30; c++) {
                all[1] += green(c) ? 1 : 0;
                all[2] += water(c) ? 1 : 0;
            }
            return what < 0 || what > 6 ? -1 : all[what];
        }
    }

    private static final class Text {
        /** A walk along the bytes with what is open; -1: no fault. */
        static int fault(String s) {
            Deque<Character> open = new ArrayDeque<>();
            Deque<Boolean> compared = new ArrayDeque<>();
            compared.push(false);
            boolean wantsOperand = true;
            boolean asked = false;
            int i = 0;
            while (i < s.length()) {
                char c = s.charAt(i);
                if (wantsOperand) {
                    if ("!-(".indexOf(c) >= 0) {
                        if (open.size() == 6) {
                            return i;
                        }
                        open.push(c);
                        if (c == '(') {
                            compared.push(false);
                        }
                        i++;
                        continue;
                    }
                    int end = i;
                    while (end < s.length() && end < i + 4 && "0123456789".indexOf(s.charAt(end)) >= 0) {
                        end++;
                    }
                    end = "dgcswk".indexOf(c) >= 0 ? i + 1 : end;
                    if (end == i) {
                        return i;
                    }
                    i = end;
                    closePrefixes(open);
                    wantsOperand = false;
                    continue;
                }
                if ("+-*/%".indexOf(c) >= 0) {
                    wantsOperand = true;
                } else if ("<=>".indexOf(c) >= 0 && !compared.peek()) {
                    compared.pop();
                    compared.push(true);
                    wantsOperand = true;
                } else if ("&|".indexOf(c) >= 0 || c == '?' && open.isEmpty() && !asked || c == ';' && open.isEmpty()) {
                    compared.pop();
                    compared.push(false);
                    asked = c == '?' || c != ';' && asked;
                    wantsOperand = true;
                } else if (c == ')' && !open.isEmpty()) {
                    open.pop();
                    compared.pop();
                    closePrefixes(open);
                } else {
                    return i;
                }
                i++;
            }
            return wantsOperand || !open.isEmpty() ? s.length() : -1;
        }

        private static void closePrefixes(Deque<Character> open) {
            while (!open.isEmpty() && open.peek() != '(') {
                open.pop();
            }
        }

        static int value(String text, int[] names) {
            for (String line : text.split(";")) {
                String[] halves = line.split("\\?");
                if (halves.length == 1) {
                    return worth(line, names);
                }
                if (worth(halves[0], names) != 0) {
                    return worth(halves[1], names);
                }
            }
            return 0;
        }

        private static int worth(String e, int[] names) {
            for (String level : new String[] {"|", "&", "<=>", "+-", "*/%"}) {
                int at = lastJoin(e, level);
                if (at > 0) {
                    return join(e.charAt(at), worth(e.substring(0, at), names), worth(e.substring(at + 1), names));
                }
            }
            char c = e.charAt(0);
            if (c == '!') {
                return worth(e.substring(1), names) == 0 ? 1 : 0;
            }
            if (c == '-') {
                return -worth(e.substring(1), names);
            }
            if (c == '(') {
                return worth(e.substring(1, e.length() - 1), names);
            }
            int name = "dgcswk".indexOf(c);
            return name >= 0 ? names[name] : Integer.parseInt(e);
        }

        private static int lastJoin(String e, String signs) {
            int depth = 0;
            for (int i = e.length() - 1; i > 0; i--) {
                char c = e.charAt(i);
                depth += c == ')' ? 1 : c == '(' ? -1 : 0;
                boolean isBehindOperand = "!-(+*/%<=>&|".indexOf(e.charAt(i - 1)) < 0;
                if (depth == 0 && signs.indexOf(c) >= 0 && isBehindOperand) {
                    return i;
                }
            }
            return -1;
        }

        private static int join(char c, int a, int b) {
            return switch (c) {
                case '|' -> (a != 0) | (b != 0) ? 1 : 0;
                case '&' -> (a != 0) & (b != 0) ? 1 : 0;
                case '<' -> a < b ? 1 : 0;
                case '=' -> a == b ? 1 : 0;
                case '>' -> a > b ? 1 : 0;
                case '+' -> a + b;
                case '-' -> a - b;
                case '*' -> a * b;
                case '/' -> b == 0 ? 0 : a / b;
                default -> b == 0 ? 0 : a % b;
            };
        }
    }

    private interface Says {
        int number();

        List<Integer> trace();

        default int says(int x) {
            trace().add(1);
            return x + number();
        }
    }

    private interface Tells {
        List<Integer> trace();

        int hits(int x);

        int lies(int x);

        default int tells(int x) {
            trace().add(2);
            return hits(x) - lies(1);
        }
    }

    private static class Word implements Says, Tells {
        int n;
        List<Integer> ran;

        public int number() {
            return n;
        }

        public List<Integer> trace() {
            return ran;
        }

        public int hits(int x) {
            ran.add(10);
            return says(x) * 2;
        }

        public int lies(int x) {
            ran.add(11);
            return x ^ n;
        }
    }

    private static class Told extends Word {
        @Override
        public int says(int x) {
            ran.add(20);
            return super.says(x) + 3;
        }
    }

    private static class Lie extends Word {
        @Override
        public int hits(int x) {
            ran.add(30);
            return -super.hits(x);
        }
    }

    private static class Known extends Lie {
        @Override
        public int lies(int x) {
            ran.add(40);
            return super.lies(x) * 3;
        }

        @Override
        public int hits(int x) {
            ran.add(41);
            return super.hits(x + 1);
        }
    }

    private static class Yard extends Told {
        @Override
        public int lies(int x) {
            ran.add(50);
            return super.lies(x) - says(2);
        }
    }

    private static final class Wet extends Known {
        @Override
        public int tells(int x) {
            ran.add(60);
            return super.tells(x) ^ 5;
        }
    }

    private static final class Dream extends Word {
        @Override
        public int says(int x) {
            ran.add(70);
            return super.says(x) * 2;
        }
    }

    private static final class Pin extends Yard {
        @Override
        public int hits(int x) {
            ran.add(80);
            return super.hits(x) + lies(2);
        }

        @Override
        public int tells(int x) {
            ran.add(81);
            return super.tells(x) - 1;
        }
    }
}
