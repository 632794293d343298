import java.util.Arrays;

/**
 * A golf hole in cells of ten yards, the clubs of a player who thinks he hits farther than he does,
 * and one who carries for him; see README.md, and the document for each promise.
 */
public final class WhichClub {
    public static final int BAD = -1, NOT = -2, FULL = -3, STATE = -5, VOID = -2000000000;

    private static final int NOTHING_THERE = -11;
    private static final int OTHER_KIND = -12;
    private static final int NO_PLACE = -13;
    private static final int SIZE_BELOW_ZERO = -14;
    private static final long NO_ANSWER = Long.MIN_VALUE;
    private static final int SHELVES = 6;
    private static final int MOST_SHOTS = 4;
    private static final int TOLD_SHOTS = 3;

    private final Hole hole;
    private final Law text;
    private final Reckoning reckoning;
    private final Rounds rounds;
    private final Draws draws;
    private final Deed deed;
    private final Changes changes;
    private final Words words;
    private final Shelf[] shelves;

    public WhichClub() {
        hole = new Hole();
        text = new Law();
        reckoning = new Reckoning(hole, text);
        rounds = new Rounds(hole, reckoning);
        draws = new Draws(hole, reckoning);
        deed = new Deed(hole, draws);
        changes = new Changes();
        words = new Words();
        shelves = new Shelf[SHELVES];
        for (int i = 0; i < shelves.length; i++) {
            shelves[i] = new Shelf();
        }
    }

    // ---- the hole, clubs

    public int club(int cs) {
        if (cs < 0 || !Hole.isClub(cs / 10, cs % 10, Hole.BELIEVED_AT_FIRST)) {
            return BAD;
        }
        if (hole.isFull()) {
            return FULL;
        }
        reckoning.forget();
        return hole.addClub(cs / 10, cs % 10, Hole.BELIEVED_AT_FIRST);
    }

    public int clubs(int shelf, int i, int n) {
        if (!isShelf(shelf) || n < 1 || n > Hole.MOST_CLUBS) {
            return BAD;
        }
        Shelf from = shelves[shelf];
        if (from.isEmpty()) {
            return 0;
        }
        if (!from.isByteRow()) {
            return OTHER_KIND;
        }
        reckoning.forget();
        return hole.addClubs(from, i, n);
    }

    public int mend(int number, int what, int v) {
        if (!hole.hasNumber(number, what) || !hole.allows(what, v)) {
            return VOID;
        }
        int was = hole.numberAt(number, what);
        if (was != v) {
            changes.remember(number, what, was, v);
            alter(number, what, v);
        }
        return was;
    }

    public int of(int number, int what) {
        if (what == 9 && number == 0) {
            return deed.place();
        }
        return hole.hasNumber(number, what) ? hole.numberAt(number, what) : VOID;
    }

    public int feed(int letter) {
        if (letter < 0 || letter > 255) {
            return BAD;
        }
        return text.isTapeFull() ? FULL : text.addByte(letter);
    }

    public int law() {
        reckoning.forget();
        return text.readTape();
    }

    private void alter(int number, int what, int v) {
        hole.become(number, what, v);
        reckoning.forget();
    }

    // ---- a shot

    public long lies(int cc, int cell, int part) {
        if (!isShot(cc) || !Hole.isCell(cell) || !isFractionPart(part)) {
            return NO_ANSWER;
        }
        int c = cc % 10;
        int ways = hole.waysToLie(cc / 10, hole.carryOf(c), hole.spreadOf(c), cell);
        return partOf(ways, hole.waysOf(c), part);
    }

    public long chance(int cc, int what, int part) {
        if (!isShot(cc) || what < 0 || what > 1 || !isFractionPart(part)) {
            return NO_ANSWER;
        }
        int c = cc % 10;
        return partOf(hole.waysInto(what == 0, cc / 10, c), hole.waysOf(c), part);
    }

    public int believed(int cell) {
        if (!Hole.isCell(cell)) {
            return BAD;
        }
        return hole.isGreen(cell) || hole.hasNoClubs() ? NOT : reckoning.clubTold(cell, 0);
    }

    public int layUp(int cell) {
        return hole.isOffGreen(cell) ? hole.farthestDry(cell) : BAD;
    }

    private boolean isShot(int cc) {
        return cc >= 0 && hole.isOffGreen(cc / 10) && hole.hasClub(cc % 10);
    }

    // ---- strokes

    public long strokes(int cell, int n, int part) {
        if (!Hole.isCell(cell) || n < 0 || n > MOST_SHOTS || part < 0 || part > 2) {
            return NO_ANSWER;
        }
        long mean = reckoning.mean(cell, n, Reckoning.BEST);
        if (part < 2) {
            return partOf(mean, Reckoning.unit(n), part);
        }
        return n == 0 || hole.isGreen(cell) || hole.hasNoClubs() ? NOT : reckoning.bestClub(cell, n);
    }

    public long byLaw(int cell, int n, int part) {
        if (!Hole.isCell(cell) || n < 0 || n > MOST_SHOTS || !isFractionPart(part)) {
            return NO_ANSWER;
        }
        return partOf(reckoning.meanByLaw(cell, n), Reckoning.unit(n), part);
    }

    public long lie(int cell, int n, int part) {
        boolean fits = n >= 1 && n <= MOST_SHOTS && part >= 0 && part <= 6;
        if (!fits || !hole.isOffGreen(cell) || hole.hasNoClubs()) {
            return NO_ANSWER;
        }
        long unit = Reckoning.unit(n);
        long untold = reckoning.meanByLaw(cell, n);
        int x = reckoning.bestLie(cell, n, 1);
        long told = reckoning.meanTold(cell, n, x);
        if (part < 2) {
            return partOf(told, unit, part);
        }
        if (part == 2) {
            return x;
        }
        if (part < 5) {
            return partOf(untold - told, unit, part - 3);
        }
        int counted = reckoning.bestLie(cell, n, 2) / 2;
        return partOf(untold - reckoning.meanTold(cell, n, counted), unit, part - 5);
    }

    public long atPin(int dh, int part) {
        int behind = dh / 10 - 9;
        int holes = dh % 10;
        boolean fits = dh >= 0 && behind <= 9 && holes >= 1 && holes <= 2;
        if (!fits || part < 0 || part > 2) {
            return NO_ANSWER;
        }
        if (part == 2) {
            return hole.isBoldBetter(behind, holes) ? 1 : 0;
        }
        return partOf(hole.waysToBeEven(behind, holes), holes == 1 ? 12 : 144, part);
    }

    public long practise(int part) {
        if (part < 0 || part > 2) {
            return NO_ANSWER;
        }
        reckoning.findPractice();
        if (part == 2) {
            return reckoning.practiceWhich();
        }
        return partOf(reckoning.practiceGain(), Reckoning.unit(TOLD_SHOTS), part);
    }

    public long dream(int part) {
        if (!isFractionPart(part)) {
            return NO_ANSWER;
        }
        return partOf(reckoning.costOfBelief(), Reckoning.unit(TOLD_SHOTS), part);
    }

    // ---- rounds told, draws

    public int judge(int shelf) {
        int refusal = refuseRound(shelf);
        return refusal != 0 ? refusal : rounds.firstWrong(shelves[shelf]);
    }

    public int truly(int shelf, int club) {
        if (!hole.hasClub(club)) {
            return BAD;
        }
        int refusal = refuseRound(shelf);
        return refusal != 0 ? refusal : rounds.likeliestCarry(shelves[shelf], club);
    }

    public int guessed(int shelf) {
        int refusal = refuseRound(shelf);
        if (refusal != 0) {
            return refusal;
        }
        reckoning.findLawfulClubs();
        return rounds.tookByLaw(shelves[shelf]);
    }

    public int drawn(int seed, int nw, int what) {
        int holes = nw / 10;
        int way = nw % 10;
        boolean fits = nw >= 0 && holes >= 1 && holes <= 20 && way <= 1;
        if (!fits || what < 0 || what > 1) {
            return BAD;
        }
        if (hole.hasNoClubs()) {
            return STATE;
        }
        reckoning.findClubs(TOLD_SHOTS, way);
        draws.playHoles(seed, holes, way);
        return what == 0 ? draws.strokesPlayed() : draws.timesInWater();
    }

    private int refuseRound(int shelf) {
        if (!isShelf(shelf)) {
            return BAD;
        }
        if (shelves[shelf].isEmpty()) {
            return NOTHING_THERE;
        }
        return shelves[shelf].isByteRow() ? 0 : OTHER_KIND;
    }

    // ---- in deed

    public int hit(int club, int seed) {
        if (!hole.hasClub(club)) {
            return BAD;
        }
        return hole.isGreen(deed.place()) ? STATE : deed.playShot(club, seed);
    }

    public int putt(int seed) {
        return hole.isGreen(deed.place()) ? deed.playPutts(seed) : STATE;
    }

    public int led(int what) {
        return what < 0 || what > 4 ? BAD : deed.tally(what);
    }

    public int image() {
        return deed.keepImage();
    }

    public int back() {
        return deed.hasImage() ? deed.layImageBack() : STATE;
    }

    public int undo() {
        int i = changes.stepBack();
        if (i < 0) {
            return STATE;
        }
        alter(changes.numberOf(i), changes.whatOf(i), changes.wasOf(i));
        return changes.toUndo();
    }

    public int redo() {
        int i = changes.stepOn();
        if (i < 0) {
            return STATE;
        }
        alter(changes.numberOf(i), changes.whatOf(i), changes.becameOf(i));
        return changes.toRedo();
    }

    // ---- acts, shelves

    public int body(int kind) {
        if (!Words.isKind(kind)) {
            return BAD;
        }
        return words.isFull() ? FULL : words.addWord(kind);
    }

    public int act(int body, int act, int x) {
        return words.perform(body, act, x);
    }

    public int trace(int i) {
        return i < 0 || i >= words.ranKept() ? BAD : words.ranAt(i);
    }

    public int keep(int shelf, int body) {
        if (!isShelf(shelf) || (body != -1 && !words.hasWord(body))) {
            return BAD;
        }
        if (body == -1) {
            shelves[shelf].holdNothing();
        } else {
            shelves[shelf].holdWord(body);
        }
        return 1;
    }

    public int row(int shelf, int sort, int n) {
        if (!isShelf(shelf) || !Shelf.isSort(sort) || n > Shelf.LONGEST) {
            return BAD;
        }
        if (n < 0) {
            return SIZE_BELOW_ZERO;
        }
        shelves[shelf].holdRow(sort, n);
        return 1;
    }

    public int put(int shelf, int i, long v) {
        int refusal = refuseElement(shelf, i);
        if (refusal != 0) {
            return refusal;
        }
        shelves[shelf].write(i, v);
        return 1;
    }

    public long element(int shelf, int i) {
        return refuseElement(shelf, i) != 0 ? NO_ANSWER : shelves[shelf].read(i);
    }

    public int shift(int shelf, int i, int other, int j, int n) {
        if (!isShelf(shelf) || !isShelf(other)) {
            return BAD;
        }
        Shelf from = shelves[shelf];
        Shelf to = shelves[other];
        if (from.isEmpty() || to.isEmpty()) {
            return NOTHING_THERE;
        }
        if (!from.isRow() || !to.isRow() || from.sortHeld() != to.sortHeld()) {
            return OTHER_KIND;
        }
        if (!from.hasPlaces(i, n) || !to.hasPlaces(j, n)) {
            return NO_PLACE;
        }
        to.copyFrom(from, i, j, n);
        return n;
    }

    public int taken(int shelf, int k) {
        if (!isShelf(shelf) || !Words.isKind(k)) {
            return BAD;
        }
        Shelf from = shelves[shelf];
        if (from.isEmpty()) {
            return NOTHING_THERE;
        }
        if (from.isRow()) {
            return OTHER_KIND;
        }
        int kind = words.kindOf(from.wordHeld());
        return Words.isUnder(kind, k) ? kind : OTHER_KIND;
    }

    public int count(int what) {
        switch (what) {
            case 0: return hole.clubsHeld();
            case 1: return hole.greenCells();
            case 2: return hole.waterCells();
            case 3: return text.tapeLength();
            case 4: return changes.toUndo();
            case 5: return words.wordsHeld();
            case 6: return words.ranInAll();
            default: return BAD;
        }
    }

    private int refuseElement(int shelf, int i) {
        if (!isShelf(shelf)) {
            return BAD;
        }
        Shelf from = shelves[shelf];
        if (from.isEmpty()) {
            return NOTHING_THERE;
        }
        if (!from.isRow()) {
            return OTHER_KIND;
        }
        return from.hasPlaces(i, 1) ? 0 : NO_PLACE;
    }

    private static boolean isShelf(int shelf) {
        return shelf >= 0 && shelf < SHELVES;
    }

    private static boolean isFractionPart(int part) {
        return part == 0 || part == 1;
    }

    /** Part 0 is what stands above the line, part 1 what stands below it, in lowest terms. */
    private static long partOf(long above, long below, int part) {
        long shared = sharedDivisor(Math.abs(above), below);
        if (shared <= 0) {
            return NO_ANSWER;
        }
        return part == 0 ? above / shared : below / shared;
    }

    private static long sharedDivisor(long a, long b) {
        // Euclid needs fewer than a hundred steps for any two longs
        for (int step = 0; step < 200 && b != 0; step++) {
            long rest = a % b;
            a = b;
            b = rest;
        }
        return a;
    }

    /** The ground, the pin, the clubs and the other numbers that can be mended. */
    private static final class Hole {
        static final int CELLS = 31;
        static final int MOST_CLUBS = 6;
        static final int BELIEVED_AT_FIRST = 1;
        static final int SPREAD = 2;
        static final int TOUCH = 6;
        private static final int GROUND = 0;
        private static final int CARRY = 1;
        private static final int BELIEVED = 3;
        private static final int PIN = 4;
        private static final int WIND = 5;
        private static final int BOLD = 7;
        private static final int RISK = 8;
        private static final int ROUGH = 1;
        private static final int SAND = 2;
        private static final int WATER = 3;
        private static final int GREEN = 4;
        private static final int GREEN_AT_FIRST = 20;
        private static final int LEAST_CARRY_IN_WIND = 5;
        private static final int[] LEAST = {0, 0, 0, 0, 1, -3, 0, 0, 0};
        private static final int[] MOST = {4, 30, 3, 9, 29, 3, 12, 12, 12};

        private final int[] ground = new int[CELLS];
        private final int[] carries = new int[MOST_CLUBS];
        private final int[] spreads = new int[MOST_CLUBS];
        private final int[] believeds = new int[MOST_CLUBS];
        private int size = 0;
        private int pin = 20;
        private int wind = 0;
        private int touch = 6;
        private int bold = 3;
        private int risk = 3;

        Hole() {
            Arrays.fill(ground, GREEN_AT_FIRST, CELLS, GREEN);
        }

        static boolean isCell(int cell) {
            return cell >= 0 && cell < CELLS;
        }

        static boolean isClub(int carry, int spread, int believed) {
            return isWithin(CARRY, carry) && isWithin(SPREAD, spread) && isWithin(BELIEVED, believed);
        }

        private static boolean isWithin(int what, int v) {
            return what >= 0 && what < MOST.length && what < LEAST.length && v >= LEAST[what] && v <= MOST[what];
        }

        // -- the numbers that can be mended

        boolean hasNumber(int number, int what) {
            if (what == GROUND) {
                return isCell(number);
            }
            if (what >= CARRY && what <= BELIEVED) {
                return hasClub(number);
            }
            return what >= PIN && what <= RISK && number == 0;
        }

        boolean allows(int what, int v) {
            if (what == BOLD && v > 12 - risk || what == RISK && v > 12 - bold) {
                return false;
            }
            return isWithin(what, v);
        }

        int numberAt(int number, int what) {
            switch (what) {
                case GROUND: return isCell(number) ? ground[number] : VOID;
                case CARRY: return hasClub(number) ? carries[number] : VOID;
                case SPREAD: return hasClub(number) ? spreads[number] : VOID;
                case BELIEVED: return hasClub(number) ? believeds[number] : VOID;
                case PIN: return pin;
                case WIND: return wind;
                case TOUCH: return touch;
                case BOLD: return bold;
                case RISK: return risk;
                default: return VOID;
            }
        }

        void become(int number, int what, int v) {
            if (!hasNumber(number, what)) {
                return;
            }
            switch (what) {
                case GROUND: ground[number] = v; break;
                case CARRY: carries[number] = v; break;
                case SPREAD: spreads[number] = v; break;
                case BELIEVED: believeds[number] = v; break;
                case PIN: pin = v; break;
                case WIND: wind = v; break;
                case TOUCH: touch = v; break;
                case BOLD: bold = v; break;
                default: risk = v; break;
            }
        }

        // -- clubs

        int clubsHeld() {
            return size;
        }

        boolean hasNoClubs() {
            return size == 0;
        }

        boolean isFull() {
            return size >= MOST_CLUBS;
        }

        boolean hasClub(int c) {
            return c >= 0 && c < size && c < MOST_CLUBS;
        }

        int addClub(int carry, int spread, int believed) {
            int c = size;
            if (c < 0 || c >= MOST_CLUBS) {
                return FULL;
            }
            carries[c] = carry;
            spreads[c] = spread;
            believeds[c] = believed;
            size = c + 1;
            return c;
        }

        int addClubs(Shelf row, int i, int n) {
            for (int came = 0; came < n && came < MOST_CLUBS; came++) {
                // looked for first: a place that is not there, below 0 too, is where the row ends, and i could wrap
                if (isFull() || !row.hasPlaces(i, 3 * came + 3)) {
                    return came;
                }
                int at = i + 3 * came;
                int carry = (int) row.read(at);
                int spread = (int) row.read(at + 1);
                int believed = (int) row.read(at + 2);
                if (!isClub(carry, spread, believed)) {
                    return came;
                }
                addClub(carry, spread, believed);
            }
            return Math.min(n, MOST_CLUBS);
        }

        int carryOf(int c) {
            return hasClub(c) ? carries[c] : 0;
        }

        int spreadOf(int c) {
            return hasClub(c) ? spreads[c] : 0;
        }

        int believedOf(int c) {
            return hasClub(c) ? believeds[c] : 0;
        }

        /** In how many ways, all alike, a shot of this club can slip. */
        int waysOf(int c) {
            return 2 * spreadOf(c) + 1;
        }

        // -- the ground

        boolean isGreen(int cell) {
            return isCell(cell) && (cell == pin || ground[cell] == GREEN);
        }

        boolean isOffGreen(int cell) {
            return isCell(cell) && !isGreen(cell);
        }

        boolean isWater(int cell) {
            return isCell(cell) && cell != pin && ground[cell] == WATER;
        }

        int greenCells() {
            int found = 0;
            for (int cell = 0; cell < CELLS; cell++) {
                found += isGreen(cell) ? 1 : 0;
            }
            return found;
        }

        int waterCells() {
            int found = 0;
            for (int cell = 0; cell < CELLS; cell++) {
                found += isWater(cell) ? 1 : 0;
            }
            return found;
        }

        int groundOf(int cell) {
            return isCell(cell) ? ground[cell] : 0;
        }

        int windNow() {
            return wind;
        }

        int touchNow() {
            return touch;
        }

        boolean isPin(int cell) {
            return cell == pin;
        }

        int cellsToPin(int cell) {
            return Math.abs(cell - pin);
        }

        /** Twelfths of a stroke from a green cell, on the mean. */
        int puttTwelfths(int cell) {
            return cell == pin ? 12 : 24 - touch;
        }

        /** What counts from a cell where no shots are left. */
        int strokesUnplayed(int cell) {
            return 2 + cellsToPin(cell) / 5;
        }

        // -- where a shot goes

        /** The cell a shot goes to without any slip; it may be off the hole. */
        int aim(int cell, int carry) {
            int under = cell >= 0 && cell < CELLS ? ground[cell] : 0;
            int goes = carry;
            if (carry >= LEAST_CARRY_IN_WIND) {
                goes += cell > pin ? -wind : wind;
            }
            if (under == ROUGH) {
                goes -= 1;
            } else if (under == SAND) {
                goes /= 2;
            }
            if (goes < 0) {
                goes = 0;
            }
            return cell > pin ? cell - goes : cell + goes;
        }

        static int held(int cell) {
            return cell < 0 ? 0 : cell >= CELLS ? CELLS - 1 : cell;
        }

        int waysToLie(int from, int carry, int spread, int to) {
            int aim = aim(from, carry);
            int found = 0;
            for (int slip = -spread; slip <= spread; slip++) {
                int falls = held(aim + slip);
                int rests = isWater(falls) ? from : falls;
                found += rests == to ? 1 : 0;
            }
            return found;
        }

        /** In how many ways a shot comes down in water, or else on the green. */
        int waysInto(boolean water, int from, int c) {
            int aim = aim(from, carryOf(c));
            int spread = spreadOf(c);
            int found = 0;
            for (int slip = -spread; slip <= spread; slip++) {
                int falls = held(aim + slip);
                found += (water ? isWater(falls) : isGreen(falls)) ? 1 : 0;
            }
            return found;
        }

        int farthestDry(int cell) {
            int best = NOT;
            int farthest = -1;
            for (int c = 0; c < size; c++) {
                int goes = Math.abs(aim(cell, carryOf(c)) - cell);
                if (goes > farthest && waysInto(true, cell, c) == 0) {
                    farthest = goes;
                    best = c;
                }
            }
            return best;
        }

        // -- at the pin

        /** Of 12 to the power of the holes, in how many one is at least even at the end. */
        int waysToBeEven(int behind, int holes) {
            return waysAtBest(behind, holes);
        }

        boolean isBoldBetter(int behind, int holes) {
            return waysBold(behind, holes) > waysSafe(behind, holes);
        }

        private int waysAtBest(int behind, int holes) {
            if (holes <= 0 || holes > 2) {
                return behind <= 0 ? 1 : 0;
            }
            return Math.max(waysSafe(behind, holes), waysBold(behind, holes));
        }

        private int waysSafe(int behind, int holes) {
            return 12 * waysAtBest(behind, holes - 1);
        }

        private int waysBold(int behind, int holes) {
            return bold * waysAtBest(behind - 1, holes - 1)
                + risk * waysAtBest(behind + 2, holes - 1)
                + (12 - bold - risk) * waysAtBest(behind, holes - 1);
        }
    }

    /** The tape, and the text by which a player ranks the clubs, kept as steps of a stack machine. */
    private static final class Law {
        private static final int TAPE = 120;
        private static final int LONGEST = 130;
        private static final int MOST_OPEN = 6;
        private static final int MOST_DIGITS = 4;
        private static final int LEVELS = 5;
        private static final int COMPARISON = 2;
        private static final String NAMES = "dgcswk";
        // steps: a number stands for itself, below it names, then operators by their level, then the rest
        private static final int FIRST_NAME = -1;
        private static final int OR = -11;
        private static final int AND = -12;
        private static final int LESS = -13;
        private static final int SAME = -14;
        private static final int MORE = -15;
        private static final int PLUS = -16;
        private static final int MINUS = -17;
        private static final int TIMES = -18;
        private static final int OVER = -19;
        private static final int REST = -20;
        private static final int ISNT = -21;
        private static final int NEGATE = -22;
        private static final int IF_NOT_ZERO = -31;
        private static final int LINE_ENDS = -32;

        private final int[] tape = new int[TAPE];
        private final int[] draft = new int[LONGEST];
        private final int[] steps = new int[LONGEST];
        private final int[] stack = new int[LONGEST];
        private final int[] named = new int[6];
        private int fed = 0;
        private int at = 0;
        private int drafted = 0;
        private int size = 0;

        boolean isTapeFull() {
            return fed >= TAPE;
        }

        int tapeLength() {
            return fed;
        }

        int addByte(int letter) {
            if (fed < 0 || fed >= TAPE) {
                return FULL;
            }
            tape[fed] = letter;
            fed++;
            return fed;
        }

        /** The tape becomes the text if it has no fault, and is empty either way. */
        int readTape() {
            at = 0;
            drafted = 0;
            boolean faultless = readLines();
            fed = 0;
            if (!faultless) {
                return -100 - at;
            }
            System.arraycopy(draft, 0, steps, 0, LONGEST);
            size = drafted;
            return 1;
        }

        // -- reading: each of these stops at the first byte with which no text goes on

        private int next() {
            return at >= 0 && at < fed && at < TAPE ? tape[at] : -1;
        }

        private boolean readLines() {
            for (int line = 0; line <= TAPE; line++) {
                if (!readLine()) {
                    return false;
                }
                if (at >= fed) {
                    return true;
                }
                if (next() != ';') {
                    return false;
                }
                at++;
            }
            return false;
        }

        private boolean readLine() {
            if (!readLevel(0, 0)) {
                return false;
            }
            if (next() == '?') {
                at++;
                write(IF_NOT_ZERO);
                if (!readLevel(0, 0)) {
                    return false;
                }
            }
            write(LINE_ENDS);
            return true;
        }

        /** Levels 0 to 4 are E, A, B, S, P of the grammar; what a level joins is of the next one. */
        private boolean readLevel(int level, int open) {
            if (level >= LEVELS) {
                return readOperand(open);
            }
            if (!readLevel(level + 1, open)) {
                return false;
            }
            for (int i = 0; i < TAPE; i++) {
                int operator = operatorOf(level, next());
                if (operator == 0) {
                    return true;
                }
                at++;
                if (!readLevel(level + 1, open)) {
                    return false;
                }
                write(operator);
                if (level == COMPARISON) {
                    return true;
                }
            }
            return true;
        }

        private static int operatorOf(int level, int sign) {
            switch (sign) {
                case '|': return level == 0 ? OR : 0;
                case '&': return level == 1 ? AND : 0;
                case '<': return level == COMPARISON ? LESS : 0;
                case '=': return level == COMPARISON ? SAME : 0;
                case '>': return level == COMPARISON ? MORE : 0;
                case '+': return level == 3 ? PLUS : 0;
                case '-': return level == 3 ? MINUS : 0;
                case '*': return level == 4 ? TIMES : 0;
                case '/': return level == 4 ? OVER : 0;
                case '%': return level == 4 ? REST : 0;
                default: return 0;
            }
        }

        private boolean readOperand(int open) {
            int sign = next();
            if (isDigit(sign)) {
                return readNumber();
            }
            int name = sign < 0 ? -1 : NAMES.indexOf((char) sign);
            if (name >= 0) {
                at++;
                write(FIRST_NAME - name);
                return true;
            }
            if (open >= MOST_OPEN || sign != '!' && sign != '-' && sign != '(') {
                return false;
            }
            at++;
            return sign == '(' ? readBracket(open + 1) : readPrefixed(sign, open + 1);
        }

        private boolean readPrefixed(int sign, int open) {
            if (!readOperand(open)) {
                return false;
            }
            write(sign == '!' ? ISNT : NEGATE);
            return true;
        }

        private boolean readBracket(int open) {
            if (!readLevel(0, open) || next() != ')') {
                return false;
            }
            at++;
            return true;
        }

        private boolean readNumber() {
            int number = 0;
            for (int digits = 0; digits < MOST_DIGITS && isDigit(next()); digits++) {
                number = number * 10 + (next() - '0');
                at++;
            }
            write(number);
            return true;
        }

        private static boolean isDigit(int sign) {
            return sign >= '0' && sign <= '9';
        }

        private void write(int step) {
            // each step comes from a byte of its own but the last line's end, so there is always room
            if (drafted >= 0 && drafted < LONGEST) {
                draft[drafted] = step;
                drafted++;
            }
        }

        // -- working it out

        boolean hasText() {
            return size > 0;
        }

        void nameNumbers(int d, int g, int c, int s, int w, int k) {
            named[0] = d;
            named[1] = g;
            named[2] = c;
            named[3] = s;
            named[4] = w;
            named[5] = k;
        }

        /** What the text gives with the numbers named last. */
        int workOut() {
            int top = 0;
            boolean passed = false;
            for (int i = 0; i < size && i < LONGEST; i++) {
                int step = steps[i];
                if (step == LINE_ENDS && !passed) {
                    return stack[0];
                }
                if (step == LINE_ENDS) {
                    passed = false;
                    top = 0;
                } else if (step == IF_NOT_ZERO && !passed) {
                    passed = stack[0] == 0;
                    top = 0;
                } else if (!passed && step > OR && top >= 0 && top < LONGEST) {
                    stack[top] = valueOf(step);
                    top++;
                } else if (!passed && step >= REST && top >= 2 && top <= LONGEST) {
                    top--;
                    stack[top - 1] = join(step, stack[top - 1], stack[top]);
                } else if (!passed && top >= 1 && top <= LONGEST) {
                    stack[top - 1] = step == ISNT ? join(SAME, stack[top - 1], 0) : -stack[top - 1];
                }
            }
            return 0;
        }

        private int valueOf(int step) {
            if (step >= 0) {
                return step;
            }
            int name = FIRST_NAME - step;
            return name >= 0 && name < named.length ? named[name] : 0;
        }

        private static int join(int step, int a, int b) {
            switch (step) {
                case OR: return a != 0 || b != 0 ? 1 : 0;
                case AND: return a != 0 && b != 0 ? 1 : 0;
                case LESS: return a < b ? 1 : 0;
                case SAME: return a == b ? 1 : 0;
                case MORE: return a > b ? 1 : 0;
                case PLUS: return a + b;
                case MINUS: return a - b;
                case TIMES: return a * b;
                case OVER: return b == 0 ? 0 : a / b;
                case REST: return b == 0 ? 0 : a % b;
                default: return 0;
            }
        }
    }

    /** Strokes on the mean, exactly: each is a whole number of units that all slips and putts divide. */
    private static final class Reckoning {
        // numbered as the ways of drawn()
        static final int BEST = 0;
        static final int LAWFUL = 1;
        private static final int FARTHEST_LIE = 5;
        // 12 times 105 to the power of n: twelfths of putts, thirds, fifths and sevenths of each shot
        private static final long[] UNITS = {12L, 1260L, 132300L, 13891500L, 1458607500L};
        // 105 by the number of ways a club of each spread can slip
        private static final int[] SHARES = {105, 35, 21, 15};

        private final Hole hole;
        private final Law text;
        // by n and cell, 0 where it is not worked out yet: a mean is never 0
        private final long[] bestMeans = new long[5 * Hole.CELLS];
        private final long[] lawfulMeans = new long[5 * Hole.CELLS];
        private final int[] bestClubs = new int[5 * Hole.CELLS];
        private final int[] lawfulClubs = new int[Hole.CELLS];
        private boolean hasBestMeans = false;
        private boolean hasLawfulMeans = false;
        private boolean lawfulFound = false;
        private boolean practiceFound = false;
        private boolean costFound = false;
        private boolean undeceived = false;
        private int practiceWhich = 0;
        private long practiceGain = 0;
        private long cost = 0;

        Reckoning(Hole hole, Law text) {
            this.hole = hole;
            this.text = text;
        }

        /** To be called whenever a number, a club or the law changes. */
        void forget() {
            practiceFound = false;
            costFound = false;
            forgetBest();
            forgetLawful();
        }

        private void forgetBest() {
            if (hasBestMeans) {
                Arrays.fill(bestMeans, 0L);
                hasBestMeans = false;
            }
        }

        private void forgetLawful() {
            lawfulFound = false;
            if (hasLawfulMeans) {
                Arrays.fill(lawfulMeans, 0L);
                hasLawfulMeans = false;
            }
        }

        static long unit(int n) {
            return n >= 0 && n < UNITS.length ? UNITS[n] : 1;
        }

        // -- the law's club

        /** The club that he takes if he is told x more than there is. */
        int clubTold(int cell, int x) {
            int best = 0;
            int greatest = rankOf(cell, 0, x);
            for (int c = 1; c < hole.clubsHeld(); c++) {
                int rank = rankOf(cell, c, x);
                if (rank > greatest) {
                    greatest = rank;
                    best = c;
                }
            }
            return best;
        }

        private int rankOf(int cell, int c, int x) {
            int d = hole.cellsToPin(cell) + x;
            int carries = hole.carryOf(c) + (undeceived ? 0 : hole.believedOf(c));
            int wind = hole.windNow();
            if (!text.hasText()) {
                return -Math.abs(d - (carries + wind));
            }
            text.nameNumbers(d, hole.groundOf(cell), carries, hole.spreadOf(c), wind, c);
            return text.workOut();
        }

        void findLawfulClubs() {
            if (lawfulFound) {
                return;
            }
            for (int cell = 0; cell < lawfulClubs.length; cell++) {
                lawfulClubs[cell] = clubTold(cell, 0);
            }
            lawfulFound = true;
        }

        // -- strokes

        long meanByLaw(int cell, int n) {
            findLawfulClubs();
            return mean(cell, n, LAWFUL);
        }

        /** Strokes on the mean with n shots ahead of the green, in units of n. */
        long mean(int cell, int n, int way) {
            if (!Hole.isCell(cell) || n < 0 || n > MOST_SHOTS) {
                return 0;
            }
            long[] means = way == LAWFUL ? lawfulMeans : bestMeans;
            if (way == LAWFUL) {
                hasLawfulMeans = true;
            } else {
                hasBestMeans = true;
            }
            int asked = n * Hole.CELLS + cell;
            // each mean stands on those with one shot less, from any cell
            for (int at = 0; at <= asked && at < means.length; at++) {
                boolean isNeeded = at == asked || at < n * Hole.CELLS;
                if (isNeeded && means[at] == 0) {
                    means[at] = workOut(at % Hole.CELLS, at / Hole.CELLS, way);
                }
            }
            return asked < means.length ? means[asked] : 0;
        }

        private long workOut(int cell, int n, int way) {
            if (hole.isGreen(cell)) {
                return hole.puttTwelfths(cell) * (unit(n) / 12);
            }
            if (n == 0 || hole.hasNoClubs()) {
                return hole.strokesUnplayed(cell) * unit(n);
            }
            if (way == LAWFUL) {
                return meanByClub(cell, lawfulClub(cell), n, LAWFUL);
            }
            int best = 0;
            long fewest = meanByClub(cell, 0, n, BEST);
            for (int c = 1; c < hole.clubsHeld(); c++) {
                long mean = meanByClub(cell, c, n, BEST);
                if (mean < fewest) {
                    fewest = mean;
                    best = c;
                }
            }
            keepBest(cell, n, best);
            return fewest;
        }

        /** One shot by this club, then as the means with one shot less say. */
        private long meanByClub(int cell, int c, int n, int way) {
            long[] means = way == LAWFUL ? lawfulMeans : bestMeans;
            int spread = hole.spreadOf(c);
            int aim = hole.aim(cell, hole.carryOf(c));
            long sum = 0;
            for (int slip = -spread; slip <= spread; slip++) {
                int falls = Hole.held(aim + slip);
                boolean isWet = hole.isWater(falls);
                int at = (n - 1) * Hole.CELLS + (isWet ? cell : falls);
                if (at >= 0 && at < means.length) {
                    sum += means[at] + (isWet ? unit(n - 1) : 0);
                }
            }
            return unit(n) + sum * (spread >= 0 && spread < SHARES.length ? SHARES[spread] : 0);
        }

        private void keepBest(int cell, int n, int c) {
            int at = n * Hole.CELLS + cell;
            if (at >= 0 && at < bestClubs.length) {
                bestClubs[at] = c;
            }
        }

        /** The best club, once its mean has been asked for. */
        int bestClub(int cell, int n) {
            int at = n * Hole.CELLS + cell;
            return at >= 0 && at < bestClubs.length ? bestClubs[at] : NOT;
        }

        /** The club by the law, once findLawfulClubs() has been called. */
        int lawfulClub(int cell) {
            return cell >= 0 && cell < lawfulClubs.length ? lawfulClubs[cell] : NOT;
        }

        /** Makes bestClub() with this n, or lawfulClub(), ready for every cell. */
        void findClubs(int n, int way) {
            if (way == LAWFUL) {
                findLawfulClubs();
                return;
            }
            for (int cell = 0; cell < Hole.CELLS; cell++) {
                mean(cell, n, BEST);
            }
        }

        // -- lies about yards

        /** That one shot as he takes it told x more, then by the law, once meanByLaw() has been asked for. */
        long meanTold(int cell, int n, int x) {
            return meanByClub(cell, clubTold(cell, x), n, LAWFUL);
        }

        /** The best x where each counts as x by the divisor; 0 first, then the nearest, below 0 first. */
        int bestLie(int cell, int n, int divisor) {
            int best = 0;
            long fewest = meanTold(cell, n, 0);
            for (int far = 1; far <= FARTHEST_LIE; far++) {
                int counts = divisor == 2 ? far / 2 : far;
                long below = meanTold(cell, n, -counts);
                if (below < fewest) {
                    fewest = below;
                    best = -far;
                }
                long above = meanTold(cell, n, counts);
                if (above < fewest) {
                    fewest = above;
                    best = far;
                }
            }
            return best;
        }

        // -- what he should practise, what his belief costs

        int practiceWhich() {
            return practiceWhich;
        }

        long practiceGain() {
            return practiceGain;
        }

        void findPractice() {
            if (practiceFound) {
                return;
            }
            long now = mean(0, TOLD_SHOTS, BEST);
            int which = 0;
            long gain = gainBy(now, 0, Hole.TOUCH, 1);
            for (int c = 0; c < hole.clubsHeld(); c++) {
                long gained = gainBy(now, c, Hole.SPREAD, -1);
                if (gained > gain) {
                    gain = gained;
                    which = c + 1;
                }
            }
            practiceWhich = which;
            practiceGain = gain;
            practiceFound = true;
        }

        /** How much less than now it would be with this number changed by so much; it is only thought of. */
        private long gainBy(long now, int number, int what, int more) {
            int was = hole.numberAt(number, what);
            if (!hole.allows(what, was + more)) {
                return 0;
            }
            hole.become(number, what, was + more);
            forgetBest();
            long practised = mean(0, TOLD_SHOTS, BEST);
            hole.become(number, what, was);
            forgetBest();
            return now - practised;
        }

        long costOfBelief() {
            if (costFound) {
                return cost;
            }
            long now = meanByLaw(0, TOLD_SHOTS);
            undeceived = true;
            forgetLawful();
            long then = meanByLaw(0, TOLD_SHOTS);
            undeceived = false;
            forgetLawful();
            cost = now - then;
            costFound = true;
            return cost;
        }
    }

    /** Rounds told back: rows of bytes, by threes a cell, a club, the cell it came to lie in. */
    private static final class Rounds {
        private final Hole hole;
        private final Reckoning reckoning;

        Rounds(Hole hole, Reckoning reckoning) {
            this.hole = hole;
            this.reckoning = reckoning;
        }

        int firstWrong(Shelf told) {
            int threes = told.length() / 3;
            for (int i = 0; i < threes; i++) {
                int from = (int) told.read(3 * i);
                int c = (int) told.read(3 * i + 1);
                int to = (int) told.read(3 * i + 2);
                if (!hole.hasClub(c) || waysToBe(from, hole.carryOf(c), hole.spreadOf(c), to) == 0) {
                    return i;
                }
            }
            return told.length() % 3 == 0 ? NOT : threes;
        }

        /** 0 also where there is no such cell, and from the green, where one putts. */
        private int waysToBe(int from, int carry, int spread, int to) {
            return hole.isOffGreen(from) && Hole.isCell(to) ? hole.waysToLie(from, carry, spread, to) : 0;
        }

        int likeliestCarry(Shelf told, int c) {
            if (!isToldOf(told, c)) {
                return NOT;
            }
            int best = NOT;
            long most = 0;
            for (int carry = 0; carry < Hole.CELLS; carry++) {
                long ways = waysOfAll(told, c, carry);
                if (ways > most) {
                    most = ways;
                    best = carry;
                }
            }
            return best;
        }

        private boolean isToldOf(Shelf told, int c) {
            for (int i = 0; i < told.length() / 3; i++) {
                if (told.read(3 * i + 1) == c) {
                    return true;
                }
            }
            return false;
        }

        /** At most 7 to the power of 20, which a long holds. */
        private long waysOfAll(Shelf told, int c, int carry) {
            long ways = 1;
            for (int i = 0; i < told.length() / 3 && ways > 0; i++) {
                if (told.read(3 * i + 1) == c) {
                    int from = (int) told.read(3 * i);
                    ways *= waysToBe(from, carry, hole.spreadOf(c), (int) told.read(3 * i + 2));
                }
            }
            return ways;
        }

        int tookByLaw(Shelf told) {
            int took = 0;
            for (int i = 0; i < told.length() / 3; i++) {
                int from = (int) told.read(3 * i);
                int c = (int) told.read(3 * i + 1);
                if (hole.isOffGreen(from) && hole.hasClub(c) && reckoning.lawfulClub(from) == c) {
                    took++;
                }
            }
            return took;
        }
    }

    /** Shots and putts by a seed, and holes played by them. */
    private static final class Draws {
        private static final int MOST_SHOTS_DRAWN = 12;
        private static final int NEVER_AT_GREEN = 5;

        private final Hole hole;
        private final Reckoning reckoning;
        private int z = 0;
        private int played = 0;
        private int wet = 0;

        Draws(Hole hole, Reckoning reckoning) {
            this.hole = hole;
            this.reckoning = reckoning;
        }

        void begin(int seed) {
            z = seed;
        }

        private int draw(int ways) {
            z = z * 1103515245 + 12345;
            return ways <= 0 ? 0 : (z >>> 8) % ways;
        }

        /** The cell a shot comes down in; if that is water, it does not lie there. */
        int fall(int from, int c) {
            int slip = draw(hole.waysOf(c)) - hole.spreadOf(c);
            return Hole.held(hole.aim(from, hole.carryOf(c)) + slip);
        }

        int puttsFrom(int cell) {
            if (hole.isPin(cell)) {
                return 1;
            }
            return draw(12) < hole.touchNow() ? 1 : 2;
        }

        void playHoles(int seed, int holes, int way) {
            begin(seed);
            played = 0;
            wet = 0;
            for (int i = 0; i < holes; i++) {
                playHole(way);
            }
        }

        private void playHole(int way) {
            int cell = 0;
            for (int shot = 0; shot < MOST_SHOTS_DRAWN && !hole.isGreen(cell); shot++) {
                int c = way == Reckoning.BEST ? reckoning.bestClub(cell, TOLD_SHOTS) : reckoning.lawfulClub(cell);
                int falls = fall(cell, c);
                played++;
                if (hole.isWater(falls)) {
                    played++;
                    wet++;
                } else {
                    cell = falls;
                }
            }
            played += hole.isGreen(cell) ? puttsFrom(cell) : NEVER_AT_GREEN;
        }

        int strokesPlayed() {
            return played;
        }

        int timesInWater() {
            return wet;
        }
    }

    /** The hole that is played in deed, and what is led of it. */
    private static final class Deed {
        private static final int STROKES = 0;
        private static final int HOLES = 1;
        private static final int ALL_STROKES = 2;
        private static final int WATER = 3;
        private static final int BEST_HOLE = 4;
        private static final int CELL = 5;
        private static final int NUMBERS = 6;

        private final Hole hole;
        private final Draws draws;
        private final int[] now = new int[NUMBERS];
        private final int[] kept = new int[NUMBERS];
        private boolean imaged = false;

        Deed(Hole hole, Draws draws) {
            this.hole = hole;
            this.draws = draws;
        }

        int place() {
            return now[CELL];
        }

        int tally(int what) {
            return what >= 0 && what < NUMBERS ? now[what] : BAD;
        }

        int playShot(int c, int seed) {
            draws.begin(seed);
            int falls = draws.fall(now[CELL], c);
            now[STROKES]++;
            if (hole.isWater(falls)) {
                now[STROKES]++;
                now[WATER]++;
            } else {
                now[CELL] = falls;
            }
            return now[CELL];
        }

        int playPutts(int seed) {
            draws.begin(seed);
            int putts = draws.puttsFrom(now[CELL]);
            int strokes = now[STROKES] + putts;
            now[HOLES]++;
            now[ALL_STROKES] += strokes;
            if (now[BEST_HOLE] == 0 || strokes < now[BEST_HOLE]) {
                now[BEST_HOLE] = strokes;
            }
            now[STROKES] = 0;
            now[CELL] = 0;
            return putts;
        }

        boolean hasImage() {
            return imaged;
        }

        int keepImage() {
            System.arraycopy(now, 0, kept, 0, NUMBERS);
            imaged = true;
            return now[CELL];
        }

        int layImageBack() {
            System.arraycopy(kept, 0, now, 0, NUMBERS);
            return now[CELL];
        }
    }

    /** The latest changes of numbers; those undone stay behind the others until a new one comes. */
    private static final class Changes {
        private static final int MOST = 40;

        private final int[] numbers = new int[MOST];
        private final int[] whats = new int[MOST];
        private final int[] were = new int[MOST];
        private final int[] became = new int[MOST];
        private int done = 0;
        private int undone = 0;

        int toUndo() {
            return done;
        }

        int toRedo() {
            return undone;
        }

        void remember(int number, int what, int was, int v) {
            if (done >= MOST) {
                dropOldest();
            }
            if (done < 0 || done >= MOST) {
                return;
            }
            numbers[done] = number;
            whats[done] = what;
            were[done] = was;
            became[done] = v;
            done++;
            undone = 0;
        }

        private void dropOldest() {
            System.arraycopy(numbers, 1, numbers, 0, MOST - 1);
            System.arraycopy(whats, 1, whats, 0, MOST - 1);
            System.arraycopy(were, 1, were, 0, MOST - 1);
            System.arraycopy(became, 1, became, 0, MOST - 1);
            done = MOST - 1;
        }

        /** The place of the change to be taken back; -1: there is none. */
        int stepBack() {
            if (done <= 0) {
                return -1;
            }
            done--;
            undone++;
            return done;
        }

        /** The place of the change to be made again; -1: there is none. */
        int stepOn() {
            if (undone <= 0) {
                return -1;
            }
            undone--;
            done++;
            return done - 1;
        }

        private static boolean isPlace(int i) {
            return i >= 0 && i < MOST;
        }

        int numberOf(int i) {
            return isPlace(i) ? numbers[i] : -1;
        }

        int whatOf(int i) {
            return isPlace(i) ? whats[i] : -1;
        }

        int wasOf(int i) {
            return isPlace(i) ? were[i] : 0;
        }

        int becameOf(int i) {
            return isPlace(i) ? became[i] : 0;
        }
    }

    /** Words of eight kinds, whose acts come from their own kind or from the next one above. */
    private static final class Words {
        private static final int MOST = 50;
        private static final int ACTS = 4;
        private static final int SAYS = 0;
        private static final int HITS = 1;
        private static final int LIES = 2;
        private static final int TELLS = 3;
        private static final int MOST_KEPT = 24;
        // the kinds are four deep and no act comes back to itself: no run needs more calls
        private static final int DEEPEST = 40;
        private static final int[] ABOVE = {-1, 0, 0, 2, 1, 3, 0, 4};
        // by kind, then by act: the number of the kind's own body, 0 where it has none
        private static final int[] OWN = {
            1, 10, 11, 2,
            20, 0, 0, 0,
            0, 30, 0, 0,
            0, 41, 40, 0,
            0, 0, 50, 0,
            0, 0, 0, 60,
            70, 0, 0, 0,
            0, 80, 0, 81
        };

        private final int[] kinds = new int[MOST];
        private final int[] ran = new int[MOST_KEPT];
        private int size = 0;
        private int runs = 0;

        static boolean isKind(int kind) {
            return kind >= 0 && kind < ABOVE.length;
        }

        static boolean isUnder(int kind, int other) {
            int at = kind;
            for (int i = 0; i < ABOVE.length && isKind(at); i++) {
                if (at == other) {
                    return true;
                }
                at = ABOVE[at];
            }
            return false;
        }

        boolean isFull() {
            return size >= MOST;
        }

        boolean hasWord(int word) {
            return word >= 0 && word < size && word < MOST;
        }

        int wordsHeld() {
            return size;
        }

        int addWord(int kind) {
            if (size < 0 || size >= MOST) {
                return FULL;
            }
            kinds[size] = kind;
            size++;
            return size - 1;
        }

        int kindOf(int word) {
            return hasWord(word) ? kinds[word] : -1;
        }

        int ranInAll() {
            return runs;
        }

        int ranKept() {
            return Math.min(runs, MOST_KEPT);
        }

        int ranAt(int i) {
            return i >= 0 && i < MOST_KEPT ? ran[i] : BAD;
        }

        int perform(int word, int does, int x) {
            runs = 0;
            if (!hasWord(word) || does < 0 || does >= ACTS) {
                return 0;
            }
            return call(word, kindOf(word), does, x, 0);
        }

        /** Runs the body of the kind, or of the next one above that has one. */
        private int call(int word, int kind, int does, int x, int depth) {
            int holder = holderOf(kind, does);
            int at = holder * ACTS + does;
            if (depth > DEEPEST || holder < 0 || at < 0 || at >= OWN.length) {
                return 0;
            }
            note(OWN[at]);
            return runBody(OWN[at], word, holder, x, depth + 1);
        }

        private static int holderOf(int kind, int does) {
            int at = kind;
            for (int i = 0; i < ABOVE.length && isKind(at); i++) {
                int place = at * ACTS + does;
                if (place >= 0 && place < OWN.length && OWN[place] != 0) {
                    return at;
                }
                at = ABOVE[at];
            }
            return -1;
        }

        private void note(int number) {
            if (runs >= 0 && runs < MOST_KEPT) {
                ran[runs] = number;
            }
            runs++;
        }

        private int runBody(int number, int word, int holder, int x, int depth) {
            int own = kindOf(word);
            int above = isKind(holder) ? ABOVE[holder] : -1;
            switch (number) {
                case 1: return x + word;
                case 2: return call(word, own, HITS, x, depth) - call(word, own, LIES, 1, depth);
                case 10: return call(word, own, SAYS, x, depth) * 2;
                case 11: return x ^ word;
                case 20: return call(word, above, SAYS, x, depth) + 3;
                case 30: return -call(word, above, HITS, x, depth);
                case 40: return call(word, above, LIES, x, depth) * 3;
                case 41: return call(word, above, HITS, x + 1, depth);
                case 50: return call(word, above, LIES, x, depth) - call(word, own, SAYS, 2, depth);
                case 60: return call(word, above, TELLS, x, depth) ^ 5;
                case 70: return call(word, above, SAYS, x, depth) * 2;
                case 80: return call(word, above, HITS, x, depth) + call(word, own, LIES, 2, depth);
                case 81: return call(word, above, TELLS, x, depth) - 1;
                default: return 0;
            }
        }
    }

    /** A shelf: it holds nothing, a word, or a row, whose elements are kept as longs of the sort's range. */
    private static final class Shelf {
        static final int LONGEST = 60;
        private static final int BYTES = 0;
        private static final int SHORTS = 1;
        private static final int INTS = 2;
        private static final int BOOLEANS = 4;
        private static final int NO_WORD = -1;
        private static final int NO_SORT = -1;

        private final long[] elements = new long[LONGEST];
        private int word = NO_WORD;
        private int sort = NO_SORT;
        private int size = 0;

        static boolean isSort(int sort) {
            return sort >= BYTES && sort <= BOOLEANS;
        }

        void holdNothing() {
            word = NO_WORD;
            sort = NO_SORT;
            size = 0;
        }

        void holdWord(int number) {
            holdNothing();
            word = number;
        }

        void holdRow(int rowSort, int n) {
            holdNothing();
            Arrays.fill(elements, 0L);
            sort = rowSort;
            size = Math.max(0, Math.min(LONGEST, n));
        }

        boolean isEmpty() {
            return word == NO_WORD && sort == NO_SORT;
        }

        boolean isRow() {
            return sort != NO_SORT;
        }

        boolean isByteRow() {
            return sort == BYTES;
        }

        int wordHeld() {
            return word;
        }

        int sortHeld() {
            return sort;
        }

        int length() {
            return size;
        }

        /** Whether n places from i on are all there. */
        boolean hasPlaces(int i, int n) {
            return i >= 0 && n >= 0 && n <= size && i <= size - n;
        }

        long read(int i) {
            return i >= 0 && i < size && i < LONGEST ? elements[i] : 0;
        }

        void write(int i, long v) {
            if (i >= 0 && i < size && i < LONGEST) {
                elements[i] = lowestBits(v);
            }
        }

        private long lowestBits(long v) {
            switch (sort) {
                case BYTES: return (byte) v;
                case SHORTS: return (short) v;
                case INTS: return (int) v;
                case BOOLEANS: return v != 0 ? 1 : 0;
                default: return v;
            }
        }

        void copyFrom(Shelf from, int i, int j, int n) {
            if (from.hasPlaces(i, n) && hasPlaces(j, n)) {
                System.arraycopy(from.elements, i, elements, j, n);
            }
        }
    }
}
