import java.util.Arrays;

/** A fence that is moved a yard a day; ../shared/DOC.md says what each call answers. */
public final class FenceYards {
    public static final int NONE = -1000000, BAD = -1000001, STATE = -1000002, FULL = -1000003;

    private static final int FOUND = -1000010, FAULTED = -1000100;
    private static final int NULL = 1, PLACE = 2, KIND = 3, SIZE = 4, STORE = 5;
    private static final int MOST_ROWS = 8, MOST_ITEMS = 40, MOST_BYTES = 400;
    private static final int MOST_STRIPS = 12, MOST_PONDS = 6, MOST_DAYS = 12, MOST_WORTH = 99;
    private static final int UPPER = 0, LOWER = 1, RIM = 13, WHOLE_RIM = (1 << RIM) - 1;

    /** Every SHARE is a whole number of these parts: twice what 1 to 12 all divide. */
    private static final int PARTS = 55440;

    /** PARTS by twice the yards between both ends; no yards are no divisor. */
    private static final int[] HALF_YARD =
        {0, 27720, 13860, 9240, 6930, 5544, 4620, 3960, 3465, 3080, 2772, 2520, 2310};

    private final Rows rows;
    private final Reader reader;
    private final Seer seer;
    private final Trace bodies;
    private final Ground firstImage;
    private final Ground secondImage;
    private Ground land;
    private Ground spare;
    private int finding;

    public FenceYards() {
        rows = new Rows();
        reader = new Reader();
        seer = new Seer();
        bodies = new Trace();
        firstImage = new Ground();
        secondImage = new Ground();
        land = new Ground();
        spare = new Ground();
    }

    // ---- rows

    public int row(int row, int lane, int n) {
        if (!isRow(row) || lane < 0 || lane > 2 || n > MOST_ITEMS) {
            return BAD;
        }
        if (n < 0) {
            return found(SIZE);
        }
        rows.make(row, lane, n);
        return fine(n);
    }

    public int set(int row, int i, int v) {
        if (!isRow(row)) {
            return BAD;
        }
        if (rows.isMissing(row)) {
            return found(NULL);
        }
        if (i < 0 || i >= rows.sizeOf(row)) {
            return found(PLACE);
        }
        return fine(rows.put(row, i, v));
    }

    public int copy(int a, int i, int b, int j, int n) {
        if (!isRow(a) || !isRow(b)) {
            return BAD;
        }
        if (rows.isMissing(a) || rows.isMissing(b)) {
            return found(NULL);
        }
        if (!rows.areOfOneLane(a, b)) {
            return found(STORE);
        }
        if (!rows.holds(a, i, n) || !rows.holds(b, j, n)) {
            return found(PLACE);
        }
        rows.move(a, i, b, j, n);
        return fine(n);
    }

    public int drop(int row) {
        if (!isRow(row)) {
            return BAD;
        }
        if (rows.isMissing(row)) {
            return found(NULL);
        }
        return fine(rows.remove(row));
    }

    // ---- grounds, days

    public int feed(long w, int n) {
        if (n < 1 || n > 8) {
            return BAD;
        }
        if (reader.size + n > MOST_BYTES) {
            return FULL;
        }
        reader.append(w, n);
        return reader.size;
    }

    public int ground() {
        if (!reader.readsInto(spare)) {
            return FAULTED - reader.faultPlace;
        }
        Ground before = land;
        land = spare;
        spare = before;
        return land.told;
    }

    public int fault() {
        return reader.faultNumber;
    }

    public int day(int a, int b) {
        if (!land.stands) {
            return STATE;
        }
        if (!isMove(a) || !isMove(b)) {
            return BAD;
        }
        int upper = land.endOn(UPPER) + a;
        int lower = land.endOn(LOWER) + b;
        if (land.today >= MOST_DAYS || !land.isOpen(UPPER, upper) || !land.isOpen(LOWER, lower)) {
            return STATE;
        }
        seer.gather(land, land.today);
        int left = seer.leftReaps(upper, lower);
        land.passDay(upper, lower, left, seer.allReaps() - left);
        return RIM * upper + lower;
    }

    public int undo() {
        if (land.today < 1) {
            return STATE;
        }
        land.today--;
        return land.today;
    }

    public int strip(int strip, int what) {
        Strip one = land.toldStrip(strip);
        if (one == null) {
            return BAD;
        }
        switch (what) {
            case 0: return one.worth;
            case 1: return one.ripe;
            case 2: return fraction(shareNow(strip), 0);
            case 3: return fraction(shareNow(strip), 1);
            default: return BAD;
        }
    }

    public int crop(int strip, int day) {
        Strip one = land.toldStrip(strip);
        if (one == null || day < 0 || day >= MOST_DAYS) {
            return BAD;
        }
        return one.cropOn(day);
    }

    public int reaped(int who, int what) {
        if (!land.stands) {
            return STATE;
        }
        if (!isUpOrDown(who) || !isUpOrDown(what)) {
            return BAD;
        }
        return fraction(who == 0 ? land.leftSoFar() : land.rightSoFar(), what);
    }

    // ---- foretold

    public int best(int row, int n, int k) {
        if (!land.stands) {
            return STATE;
        }
        if (!isRow(row) || !isSpan(n) || k < -2) {
            return BAD;
        }
        if (rows.isMissing(row)) {
            return found(NULL);
        }
        if (!rows.holds(row, 0, n)) {
            return found(PLACE);
        }
        if (!rows.startsWithMoves(row, n)) {
            return BAD;
        }
        int most = seer.bestOf(land, rows.items[row], n);
        if (k < 0) {
            return fine(fraction(most, k + 2));
        }
        return fine(k < land.daysOf(n) ? seer.bestMove(k) : NONE);
    }

    public int game(int n, int what) {
        if (!land.stands) {
            return STATE;
        }
        if (!isSpan(n) || what < 0 || what > 2) {
            return BAD;
        }
        int value = seer.gameOf(land, n);
        return what == 2 ? seer.firstMove(land, n) : fraction(value, what);
    }

    public int treaty(int n, int what) {
        if (!land.stands) {
            return STATE;
        }
        if (!isSpan(n) || !isUpOrDown(what)) {
            return BAD;
        }
        return fraction(seer.restingOf(land, n) - seer.gameOf(land, n), what);
    }

    public int sow(int strip, int sort, int worth, int ripe, int n, int what) {
        Strip old = land.toldStrip(strip);
        if (old == null || worth < 0 || worth > MOST_WORTH || ripe < 0 || ripe >= MOST_DAYS) {
            return BAD;
        }
        Strip sown = newStrip(sort, strip, worth, ripe);
        if (sown == null || !isSpan(n) || !isUpOrDown(what)) {
            return BAD;
        }
        int before = seer.gameOf(land, n);
        land.putStrip(strip, sown);
        int then = seer.gameOf(land, n);
        land.putStrip(strip, old);
        return fraction(then - before, what);
    }

    public int unseen(int up, int down, int what) {
        if (!land.stands) {
            return STATE;
        }
        if (up < 0 || up > 9999 || down < 1 || down > 99 || !isUpOrDown(what)) {
            return BAD;
        }
        seer.guessMoves(land, up, down);
        return what == 0 ? seer.guesses : seer.firstGuess;
    }

    public int sure(int n) {
        if (!land.stands) {
            return STATE;
        }
        if (!isSpan(n)) {
            return BAD;
        }
        // A STRIP is left of the fence altogether where neither end is ahead of its right side.
        int least = Math.min(land.lowestOn(UPPER, n), land.lowestOn(LOWER, n));
        return (1 << least) - 1;
    }

    public int image(int k) {
        if (k < 0 || k > 1) {
            return BAD;
        }
        if (!land.stands) {
            return STATE;
        }
        imageOf(k).become(land);
        return 1;
    }

    public int restore(int k) {
        if (k < 0 || k > 1) {
            return BAD;
        }
        if (!imageOf(k).stands) {
            return STATE;
        }
        land.become(imageOf(k));
        return 1;
    }

    // ---- asked

    public int kind(int strip) {
        Strip one = land.toldStrip(strip);
        return one == null ? BAD : one.kindNumber();
    }

    public int as(int strip, int kind) {
        Strip one = land.toldStrip(strip);
        if (one == null || kind < 0 || kind > 5) {
            return BAD;
        }
        return isOfKind(one, kind) ? fine(one.number) : found(KIND);
    }

    public int ask(int strip, int what) {
        Strip one = land.toldStrip(strip);
        if (one == null || !isUpOrDown(what)) {
            return BAD;
        }
        bodies.size = 0;
        return what == 0 ? one.askSize(bodies) : one.askMark(bodies);
    }

    public int trace(int i) {
        return bodies.numberAt(i);
    }

    public int count(int what) {
        switch (what) {
            case 0: return rows.present();
            case 1: return land.told;
            case 2: return land.today;
            case 3: return land.endOn(UPPER);
            case 4: return land.endOn(LOWER);
            case 5: return land.ponds;
            case 6: return reader.size;
            default: return BAD;
        }
    }

    public int status() {
        return finding;
    }

    // ---- helpers

    private int found(int number) {
        finding = number;
        return FOUND - number;
    }

    private int fine(int answer) {
        finding = 0;
        return answer;
    }

    private Ground imageOf(int k) {
        return k == 0 ? firstImage : secondImage;
    }

    private int shareNow(int strip) {
        return shareOf(land.endOn(UPPER), land.endOn(LOWER), strip);
    }

    private static boolean isRow(int row) {
        return row >= 0 && row < MOST_ROWS;
    }

    private static boolean isMove(int move) {
        return move >= -1 && move <= 1;
    }

    private static boolean isSpan(int n) {
        return n >= 1 && n <= MOST_DAYS;
    }

    private static boolean isUpOrDown(int what) {
        return what == 0 || what == 1;
    }

    /** SHARE of a STRIP, in PARTS. */
    private static int shareOf(int upper, int lower, int strip) {
        int low = Math.min(upper, lower);
        int high = Math.max(upper, lower);
        int yards = high - low;
        if (strip >= high) {
            return 0;
        }
        if (strip < low || yards < 1 || yards >= HALF_YARD.length) {
            return PARTS;
        }
        return (2 * (high - strip) - 1) * HALF_YARD[yards];
    }

    /** Above (what = 0) or below (1) of so many PARTS, in lowest terms. */
    private static int fraction(int parts, int what) {
        int divisor = commonDivisor(Math.abs(parts), PARTS);
        return (what == 0 ? parts : PARTS) / divisor;
    }

    private static int commonDivisor(int a, int b) {
        int x = a;
        int y = b;
        for (int step = 0; step < 64 && y != 0; step++) {
            int rest = x % y;
            x = y;
            y = rest;
        }
        return Math.max(1, x);
    }

    /** null if there is no such SORT. */
    private static Strip newStrip(int sort, int number, int worth, int ripe) {
        switch (sort) {
            case 0: return new Bean(number, worth, ripe);
            case 1: return new Apple(number, worth, ripe);
            case 2: return new Rye(number, worth, ripe);
            case 3: return new Grass(number, worth, ripe);
            case 4: return new Clover(number, worth, ripe);
            default: return null;
        }
    }

    private static boolean isOfKind(Strip one, int kind) {
        switch (kind) {
            case 0: return true;
            case 1: return one instanceof Bean;
            case 2: return one instanceof Apple;
            case 3: return one instanceof Rye;
            case 4: return one instanceof Grass;
            case 5: return one instanceof Clover;
            default: return false;
        }
    }

    /** The numbers of the BODIES that began, the first 16. */
    private static final class Trace {
        private final int[] numbers = new int[16];
        private int size;

        private void leave(int number) {
            if (size < numbers.length) {
                numbers[size] = number;
                size++;
            }
        }

        private int numberAt(int i) {
            return i >= 0 && i < size && i < numbers.length ? numbers[i] : NONE;
        }
    }

    /** A STRIP never changes: IMAGES may share it. */
    private abstract static class Strip {
        final int number;
        final int worth;
        final int ripe;

        Strip(int number, int worth, int ripe) {
            this.number = number;
            this.worth = worth;
            this.ripe = ripe;
        }

        abstract int kindNumber();

        abstract int cropOn(int day);

        boolean fallsWhole() {
            return false;
        }

        int askSize(Trace trace) {
            trace.leave(10);
            return worth;
        }

        int askMark(Trace trace) {
            trace.leave(20);
            return number;
        }
    }

    private static class Bean extends Strip {
        Bean(int number, int worth, int ripe) {
            super(number, worth, ripe);
        }

        int kindNumber() {
            return 1;
        }

        int cropOn(int day) {
            return day == ripe ? worth : 0;
        }

        int askSize(Trace trace) {
            trace.leave(11);
            int lent = super.askSize(trace);
            return lent + askMark(trace);
        }

        int askMark(Trace trace) {
            trace.leave(21);
            return super.askMark(trace) + ripe;
        }
    }

    private static final class Apple extends Bean {
        Apple(int number, int worth, int ripe) {
            super(number, worth, ripe);
        }

        int kindNumber() {
            return 2;
        }

        boolean fallsWhole() {
            return true;
        }

        int askSize(Trace trace) {
            trace.leave(12);
            return -super.askSize(trace);
        }

        int askMark(Trace trace) {
            trace.leave(24);
            return 2 * super.askMark(trace);
        }
    }

    private static final class Rye extends Bean {
        Rye(int number, int worth, int ripe) {
            super(number, worth, ripe);
        }

        int kindNumber() {
            return 3;
        }

        int cropOn(int day) {
            return day < ripe ? 0 : Math.max(0, worth - 10 * (day - ripe));
        }

        int askMark(Trace trace) {
            trace.leave(22);
            return super.askMark(trace) - 1000;
        }
    }

    private static class Grass extends Strip {
        Grass(int number, int worth, int ripe) {
            super(number, worth, ripe);
        }

        int kindNumber() {
            return 4;
        }

        int cropOn(int day) {
            return day >= ripe && (day - ripe) % 3 == 0 ? worth / 2 : 0;
        }

        int askSize(Trace trace) {
            trace.leave(13);
            return super.askSize(trace) - 100;
        }

        int askMark(Trace trace) {
            trace.leave(23);
            int lent = super.askMark(trace);
            return lent - askSize(trace);
        }
    }

    private static final class Clover extends Grass {
        Clover(int number, int worth, int ripe) {
            super(number, worth, ripe);
        }

        int kindNumber() {
            return 5;
        }

        int cropOn(int day) {
            return day == ripe || day == ripe + 1 ? worth : 0;
        }

        int askSize(Trace trace) {
            trace.leave(14);
            return 2 * super.askSize(trace);
        }
    }

    /** ROWS 0 .. 7: what a LANE would cut off is cut as an ITEM comes in. */
    private static final class Rows {
        private final int[][] items = new int[MOST_ROWS][MOST_ITEMS];
        private final int[] lanes = new int[MOST_ROWS];
        private final int[] sizes = new int[MOST_ROWS];

        private Rows() {
            Arrays.fill(sizes, -1);
        }

        private boolean isMissing(int row) {
            return sizes[row] < 0;
        }

        private int sizeOf(int row) {
            return sizes[row];
        }

        private boolean areOfOneLane(int a, int b) {
            return lanes[a] == lanes[b];
        }

        private int present() {
            int rows = 0;
            for (int row = 0; row < MOST_ROWS; row++) {
                rows += isMissing(row) ? 0 : 1;
            }
            return rows;
        }

        private void make(int row, int lane, int n) {
            lanes[row] = lane;
            sizes[row] = n;
            Arrays.fill(items[row], 0);
        }

        private int remove(int row) {
            int had = sizes[row];
            sizes[row] = -1;
            return had;
        }

        private int put(int row, int i, int v) {
            int kept = lanes[row] == 0 ? (byte) v : lanes[row] == 1 ? (short) v : v;
            items[row][i] = kept;
            return kept;
        }

        /** Whether there are n ITEMS from i on, asked so that no sum wraps around. */
        private boolean holds(int row, int i, int n) {
            return i >= 0 && n >= 0 && i <= sizes[row] && n <= sizes[row] - i;
        }

        private void move(int a, int i, int b, int j, int n) {
            System.arraycopy(items[a], i, items[b], j, n);
        }

        private boolean startsWithMoves(int row, int n) {
            for (int i = 0; i < n; i++) {
                if (!isMove(items[row][i])) {
                    return false;
                }
            }
            return true;
        }
    }

    /** A GROUND with its DAYS; what stood ahead of DAY d is at d, so that undoing is going back. */
    private static final class Ground {
        private final Strip[] strips = new Strip[MOST_STRIPS];
        private final int[] uppers = new int[MOST_DAYS + 1];
        private final int[] lowers = new int[MOST_DAYS + 1];
        private final int[] lefts = new int[MOST_DAYS + 1];
        private final int[] rights = new int[MOST_DAYS + 1];
        private boolean stands;
        private int told;
        private int ponds;
        private int openUpper;
        private int openLower;
        private int today;

        private void begin() {
            stands = false;
            told = 0;
            ponds = 0;
            openUpper = WHOLE_RIM;
            openLower = WHOLE_RIM;
            today = 0;
            uppers[0] = 0;
            lowers[0] = 0;
            lefts[0] = 0;
            rights[0] = 0;
        }

        private void become(Ground other) {
            for (int x = 0; x < MOST_STRIPS; x++) {
                strips[x] = other.strips[x];
            }
            System.arraycopy(other.uppers, 0, uppers, 0, MOST_DAYS + 1);
            System.arraycopy(other.lowers, 0, lowers, 0, MOST_DAYS + 1);
            System.arraycopy(other.lefts, 0, lefts, 0, MOST_DAYS + 1);
            System.arraycopy(other.rights, 0, rights, 0, MOST_DAYS + 1);
            stands = other.stands;
            told = other.told;
            ponds = other.ponds;
            openUpper = other.openUpper;
            openLower = other.openLower;
            today = other.today;
        }

        private void putFence(int upper, int lower) {
            uppers[0] = upper;
            lowers[0] = lower;
        }

        private void addPond(int rim, int x) {
            if (rim == UPPER) {
                openUpper &= ~(1 << x);
            } else {
                openLower &= ~(1 << x);
            }
            ponds++;
        }

        private void addStrip(Strip one) {
            if (told < MOST_STRIPS) {
                strips[told] = one;
                told++;
            }
        }

        private void putStrip(int strip, Strip one) {
            if (strip >= 0 && strip < told) {
                strips[strip] = one;
            }
        }

        /** The STRIP, or null if none was told there. */
        private Strip toldStrip(int strip) {
            return strip >= 0 && strip < told && strip < MOST_STRIPS ? strips[strip] : null;
        }

        private int endOn(int rim) {
            return rim == UPPER ? uppers[today] : lowers[today];
        }

        private boolean isOpen(int rim, int x) {
            int open = rim == UPPER ? openUpper : openLower;
            return x >= 0 && x < RIM && (open >> x & 1) == 1;
        }

        private int leftSoFar() {
            return lefts[today];
        }

        private int rightSoFar() {
            return rights[today];
        }

        private void passDay(int upper, int lower, int left, int right) {
            if (today < MOST_DAYS) {
                uppers[today + 1] = upper;
                lowers[today + 1] = lower;
                lefts[today + 1] = lefts[today] + left;
                rights[today + 1] = rights[today] + right;
                today++;
            }
        }

        /** How many DAYS n from this one on are, as none is behind DAY 11. */
        private int daysOf(int n) {
            return Math.min(n, MOST_DAYS - today);
        }

        private int lowestOn(int rim, int n) {
            int x = endOn(rim);
            for (int i = 0; i < n && isOpen(rim, x - 1); i++) {
                x--;
            }
            return x;
        }

        private int highestOn(int rim, int n) {
            int x = endOn(rim);
            for (int i = 0; i < n && isOpen(rim, x + 1); i++) {
                x++;
            }
            return x;
        }
    }

    /** The tape, and how it is read. */
    private static final class Reader {
        private static final int END = 0, NAME = 1, NUMBER = 2, SIGN = 3, NO_TOKEN = 4;
        private static final int MISPLACED = 1, WRONG_NUMBER = 2, NO_ROOM = 3;

        private final byte[] tape = new byte[MOST_BYTES];
        private int size;
        private int at;
        private int token;
        private int start;
        private int value;
        private int faultNumber;
        private int faultPlace;

        private void append(long w, int n) {
            for (int i = n - 1; i >= 0 && size < MOST_BYTES; i--) {
                tape[size] = (byte) (w >>> (8 * i));
                size++;
            }
        }

        /** Whether the tape tells a GROUND; it is empty then, whatever it told. */
        private boolean readsInto(Ground ground) {
            at = 0;
            ground.begin();
            boolean faultless = readFence(ground);
            for (int i = 0; i < MOST_BYTES && faultless && !ground.stands; i++) {
                nextToken();
                if (token == END) {
                    ground.stands = true;
                } else if (isWord("pond") && ground.told == 0) {
                    faultless = readPond(ground);
                } else {
                    faultless = isWord("strip") ? readStrip(ground) : fail(MISPLACED);
                }
            }
            size = 0;
            return ground.stands;
        }

        private boolean readFence(Ground ground) {
            nextToken();
            if (!isWord("fence")) {
                return fail(MISPLACED);
            }
            if (!readNumber(RIM - 1)) {
                return false;
            }
            int upper = value;
            if (!readNumber(RIM - 1)) {
                return false;
            }
            ground.putFence(upper, value);
            return readSign();
        }

        private boolean readPond(Ground ground) {
            if (ground.ponds >= MOST_PONDS) {
                return fail(NO_ROOM);
            }
            if (!readNumber(LOWER)) {
                return false;
            }
            int rim = value;
            if (!readNumber(RIM - 1)) {
                return false;
            }
            if (value == ground.endOn(rim)) {
                return fail(WRONG_NUMBER);
            }
            ground.addPond(rim, value);
            return readSign();
        }

        private boolean readStrip(Ground ground) {
            if (ground.told >= MOST_STRIPS) {
                return fail(NO_ROOM);
            }
            nextToken();
            int sort = sortTold();
            if (sort < 0) {
                return fail(MISPLACED);
            }
            if (!readNumber(MOST_WORTH)) {
                return false;
            }
            int worth = value;
            if (!readNumber(MOST_DAYS - 1)) {
                return false;
            }
            ground.addStrip(newStrip(sort, ground.told, worth, value));
            return readSign();
        }

        private int sortTold() {
            if (isWord("bean")) {
                return 0;
            }
            if (isWord("apple")) {
                return 1;
            }
            if (isWord("rye")) {
                return 2;
            }
            if (isWord("grass")) {
                return 3;
            }
            return isWord("clover") ? 4 : -1;
        }

        private boolean readNumber(int most) {
            nextToken();
            if (token != NUMBER) {
                return fail(MISPLACED);
            }
            return value <= most || fail(WRONG_NUMBER);
        }

        private boolean readSign() {
            nextToken();
            return token == SIGN || fail(MISPLACED);
        }

        private boolean fail(int number) {
            faultNumber = number;
            faultPlace = start;
            return false;
        }

        private void nextToken() {
            skipBlanks();
            start = at;
            if (at >= size) {
                token = END;
            } else if (isLetter(tape[at])) {
                takeName();
            } else if (isFigure(tape[at])) {
                takeNumber();
            } else {
                token = tape[at] == ';' ? SIGN : NO_TOKEN;
                at++;
            }
        }

        private void skipBlanks() {
            while (at < size && (tape[at] == 32 || tape[at] == 10)) {
                at++;
            }
        }

        private void takeName() {
            while (at < size && isLetter(tape[at])) {
                at++;
            }
            token = NAME;
        }

        private void takeNumber() {
            value = 0;
            while (at < size && isFigure(tape[at])) {
                // Four figures are no NUMBER; more are not added up, so that nothing wraps around.
                value = at - start < 3 ? 10 * value + tape[at] - '0' : value;
                at++;
            }
            token = at - start > 3 ? NO_TOKEN : NUMBER;
        }

        private boolean isWord(String word) {
            if (token != NAME || at - start != word.length()) {
                return false;
            }
            for (int i = 0; i < word.length(); i++) {
                if (tape[start + i] != word.charAt(i)) {
                    return false;
                }
            }
            return true;
        }

        private static boolean isLetter(int c) {
            return c >= 'a' && c <= 'z';
        }

        private static boolean isFigure(int c) {
            return c >= '0' && c <= '9';
        }
    }

    /** What is reaped on a DAY, and what is foretold from it; all sums are in PARTS. */
    private static final class Seer {
        private final int[] ripeStrips = new int[MOST_STRIPS];
        private final int[] ripeCrops = new int[MOST_STRIPS];
        private final boolean[] fallsWhole = new boolean[MOST_STRIPS];
        private int ripeCount;

        private final int[] afterDay = new int[RIM * RIM];
        private final int[] withDay = new int[RIM * RIM];
        private final int[] rightChosen = new int[RIM * RIM];
        private final int[] lowerEnds = new int[MOST_DAYS];
        private final int[] choices = new int[MOST_DAYS * RIM];
        private final int[] bestMoves = new int[MOST_DAYS];

        private int upperFrom;
        private int upperTo;
        private int lowerFrom;
        private int lowerTo;
        private int guesses;
        private int firstGuess;

        private void gather(Ground ground, int day) {
            ripeCount = 0;
            for (int x = 0; x < ground.told && x < MOST_STRIPS; x++) {
                Strip one = ground.toldStrip(x);
                int worth = one == null ? 0 : one.cropOn(day);
                if (one != null && worth > 0) {
                    ripeStrips[ripeCount] = x;
                    ripeCrops[ripeCount] = worth;
                    fallsWhole[ripeCount] = one.fallsWhole();
                    ripeCount++;
                }
            }
        }

        private int leftReaps(int upper, int lower) {
            int sum = 0;
            for (int i = 0; i < ripeCount; i++) {
                int share = shareOf(upper, lower, ripeStrips[i]);
                if (fallsWhole[i]) {
                    share = 2 * share > PARTS ? PARTS : 0;
                }
                sum += ripeCrops[i] * share;
            }
            return sum;
        }

        private int allReaps() {
            int sum = 0;
            for (int i = 0; i < ripeCount; i++) {
                sum += ripeCrops[i] * PARTS;
            }
            return sum;
        }

        /** Within n DAYS no end comes over a pond: where it can be has no gap. */
        private void findReach(Ground ground, int n) {
            upperFrom = ground.lowestOn(UPPER, n);
            upperTo = ground.highestOn(UPPER, n);
            lowerFrom = ground.lowestOn(LOWER, n);
            lowerTo = ground.highestOn(LOWER, n);
        }

        /**
         * From the last DAY back. Ends at the brink of the reach lack the moves out of it: that
         * does no harm, as the brink is a pond, a rim's end, or not come to before the last DAY.
         */
        private int gameOf(Ground ground, int n) {
            int days = ground.daysOf(n);
            findReach(ground, days);
            Arrays.fill(afterDay, 0);
            for (int d = ground.today + days - 1; d >= ground.today; d--) {
                gather(ground, d);
                addDay();
                letRightChoose();
                letLeftChoose();
            }
            return afterDay[RIM * ground.endOn(UPPER) + ground.endOn(LOWER)];
        }

        private void addDay() {
            for (int a = upperFrom; a <= upperTo; a++) {
                for (int b = lowerFrom; b <= lowerTo; b++) {
                    withDay[RIM * a + b] = leftReaps(a, b) + afterDay[RIM * a + b];
                }
            }
        }

        private void letRightChoose() {
            for (int a = upperFrom; a <= upperTo; a++) {
                for (int b = lowerFrom; b <= lowerTo; b++) {
                    int least = withDay[RIM * a + b];
                    if (b > lowerFrom) {
                        least = Math.min(least, withDay[RIM * a + b - 1]);
                    }
                    if (b < lowerTo) {
                        least = Math.min(least, withDay[RIM * a + b + 1]);
                    }
                    rightChosen[RIM * a + b] = least;
                }
            }
        }

        private void letLeftChoose() {
            for (int a = upperFrom; a <= upperTo; a++) {
                for (int b = lowerFrom; b <= lowerTo; b++) {
                    int most = rightChosen[RIM * a + b];
                    if (a > upperFrom) {
                        most = Math.max(most, rightChosen[RIM * (a - 1) + b]);
                    }
                    if (a < upperTo) {
                        most = Math.max(most, rightChosen[RIM * (a + 1) + b]);
                    }
                    afterDay[RIM * a + b] = most;
                }
            }
        }

        /** The LEFT man's first move of the GAME that was worked out last. */
        private int firstMove(Ground ground, int n) {
            int a = ground.endOn(UPPER);
            int b = ground.endOn(LOWER);
            if (ground.daysOf(n) < 1) {
                return NONE;
            }
            for (int move = -1; move <= 1; move++) {
                boolean can = a + move >= upperFrom && a + move <= upperTo;
                if (can && rightChosen[RIM * (a + move) + b] == afterDay[RIM * a + b]) {
                    return move;
                }
            }
            return NONE;
        }

        private int restingOf(Ground ground, int n) {
            int sum = 0;
            int days = ground.daysOf(n);
            for (int i = 0; i < days; i++) {
                gather(ground, ground.today + i);
                sum += leftReaps(ground.endOn(UPPER), ground.endOn(LOWER));
            }
            return sum;
        }

        private int bestOf(Ground ground, int[] told, int n) {
            int days = ground.daysOf(n);
            findReach(ground, days);
            followRight(ground, told, days);
            Arrays.fill(afterDay, 0);
            for (int i = days - 1; i >= 0; i--) {
                gather(ground, ground.today + i);
                for (int a = upperFrom; a <= upperTo; a++) {
                    withDay[a] = leftReaps(a, lowerEnds[i]) + afterDay[a];
                }
                for (int a = upperFrom; a <= upperTo; a++) {
                    int move = moveToMost(a);
                    choices[RIM * i + a] = move;
                    afterDay[a] = withDay[a + move];
                }
            }
            followChoices(ground, days);
            return afterDay[ground.endOn(UPPER)];
        }

        private void followRight(Ground ground, int[] told, int days) {
            int b = ground.endOn(LOWER);
            for (int i = 0; i < days && i < told.length; i++) {
                b = ground.isOpen(LOWER, b + told[i]) ? b + told[i] : b;
                lowerEnds[i] = b;
            }
        }

        /** Of moves that bring as much the first one. */
        private int moveToMost(int a) {
            int best = a > upperFrom ? -1 : 0;
            for (int move = best + 1; move <= 1; move++) {
                if (a + move <= upperTo && withDay[a + move] > withDay[a + best]) {
                    best = move;
                }
            }
            return best;
        }

        private void followChoices(Ground ground, int days) {
            int a = ground.endOn(UPPER);
            for (int i = 0; i < days; i++) {
                bestMoves[i] = choices[RIM * i + a];
                a += bestMoves[i];
            }
        }

        private int bestMove(int k) {
            return k >= 0 && k < MOST_DAYS ? bestMoves[k] : NONE;
        }

        private void guessMoves(Ground ground, int up, int down) {
            guesses = 0;
            firstGuess = NONE;
            if (ground.today >= MOST_DAYS) {
                return;
            }
            gather(ground, ground.today);
            findReach(ground, 1);
            for (int a = upperFrom; a <= upperTo; a++) {
                for (int b = lowerFrom; b <= lowerTo; b++) {
                    if ((long) leftReaps(a, b) * down == (long) up * PARTS) {
                        addGuess(a - ground.endOn(UPPER), b - ground.endOn(LOWER));
                    }
                }
            }
        }

        private void addGuess(int upperMove, int lowerMove) {
            if (guesses == 0) {
                firstGuess = 3 * upperMove + lowerMove + 4;
            }
            guesses++;
        }
    }
}
