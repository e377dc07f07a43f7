import java.util.function.Supplier;

/** The boundary cases of promises 9 (day), 10 (undo), 11 (strip), 12 (crop), 13 (reaped). */
public final class BoundsDaysTest {
    private static final int MIN = Integer.MIN_VALUE;
    private static final int MAX = Integer.MAX_VALUE;
    private static final Supplier<FenceYards> RICH = Past::rich;
    private static final Supplier<FenceYards> LAST = Past::lastDay;
    private static final Supplier<FenceYards> FRESH = Past::fresh;
    private static final String TWELVE_BEANS = "strip bean 24 0;".repeat(12);

    private BoundsDaysTest() {
    }

    public static void main(String[] args) {
        byAYardAtMost();
        movesRefused();
        fromRimEndToRimEnd();
        beyondTheRims();
        intoNoPond();
        dayWithoutAGround();
        badIsAheadOfStateInDay();
        twelveDays();
        movedThenReaped();
        undoOfNone();
        undoOfAll();
        undoneAndPassedAnew();
        theLastOfManyCalls();
        stripRefused();
        stripsThatWereTold();
        shareWithAlikeEnds();
        shareOfOneYard();
        shareOfTwelveYards();
        fractionsOfNothingAndAll();
        theGreatestBelow();
        cropRefused();
        beansAndApples();
        ryeIsNoneAtLeast();
        grassOnEachThirdDay();
        grassIsCut();
        cloverOnTwoDays();
        bareStripsHaveNoCrop();
        applesOfAHalf();
        applesOfMoreAndLess();
        reapedRefused();
        reapedAtFirst();
        reapedAtMost();
        Due.end();
    }

    // the LEFT man moves A by -1, 0, 1, then the RIGHT man B likewise
    private static void byAYardAtMost() {
        for (int a = -1; a <= 1; a++) {
            for (int b = -1; b <= 1; b++) {
                FenceYards x = Due.groundOf("fence 6 6;");
                Due.due("day(" + a + ", " + b + ")", x.day(a, b), 13 * (6 + a) + 6 + b);
                Due.due("the DAY", x.count(2), 1);
                Due.due("A", x.count(3), 6 + a);
                Due.due("B", x.count(4), 6 + b);
            }
        }
    }

    // BAD: moves
    private static void movesRefused() {
        int[] no = {-2, 2, MIN, MAX, MIN + 1, MAX - 1};
        for (int move : no) {
            Stays.refused("day(" + move + ", 0)", RICH, x -> x.day(move, 0), Due.BAD);
            Stays.refused("day(0, " + move + ")", RICH, x -> x.day(0, move), Due.BAD);
            Stays.refused("both " + move, RICH, x -> x.day(move, move), Due.BAD);
        }
    }

    // 13 times A, and B then
    private static void fromRimEndToRimEnd() {
        FenceYards x = Due.groundOf("fence 1 1;");
        Due.due("to 0 and 0", x.day(-1, -1), 0);
        FenceYards y = Due.groundOf("fence 11 11;");
        Due.due("to 12 and 12", y.day(1, 1), 168);
        FenceYards z = Due.groundOf("fence 0 0;");
        for (int d = 0; d < 12; d++) {
            Due.due("to the other end", z.day(1, 1), 14 * (d + 1));
        }
        FenceYards w = Due.groundOf("fence 12 0;");
        for (int d = 0; d < 12; d++) {
            Due.due("across", w.day(-1, 1), 13 * (11 - d) + d + 1);
        }
    }

    // STATE: .. an end cannot go there (0 to 12)
    private static void beyondTheRims() {
        Supplier<FenceYards> low = () -> Due.groundOf("fence 0 0;" + TWELVE_BEANS);
        Supplier<FenceYards> high = () -> Due.groundOf("fence 12 12;" + TWELVE_BEANS);
        Stays.refused("A below 0", low, x -> x.day(-1, 0), Due.STATE);
        Stays.refused("B below 0", low, x -> x.day(0, -1), Due.STATE);
        Stays.refused("B below 0, A can", low, x -> x.day(1, -1), Due.STATE);
        Stays.refused("A below 0, B can", low, x -> x.day(-1, 1), Due.STATE);
        Stays.refused("A above 12", high, x -> x.day(1, 0), Due.STATE);
        Stays.refused("B above 12", high, x -> x.day(0, 1), Due.STATE);
        Stays.refused("B above 12, A can", high, x -> x.day(-1, 1), Due.STATE);
        Stays.refused("A above 12, B can", high, x -> x.day(1, -1), Due.STATE);
    }

    // into no pond
    private static void intoNoPond() {
        Supplier<FenceYards> shut = () -> Due.groundOf(
            "fence 1 11;pond 0 0;pond 0 2;pond 1 10;pond 1 12;" + TWELVE_BEANS);
        for (int a = -1; a <= 1; a++) {
            for (int b = -1; b <= 1; b++) {
                int toA = a;
                int toB = b;
                if (a != 0 || b != 0) {
                    Stays.refused("into a pond: " + a + ", " + b, shut, x -> x.day(toA, toB),
                        Due.STATE);
                }
            }
        }
        Due.due("to stay is no move into one", shut.get().day(0, 0), 13 + 11);
        Stays.refused("a pond below A", RICH, x -> x.day(-1, 0), Due.STATE);
        Stays.refused("a pond above B", RICH, x -> x.day(0, 1), Due.STATE);
        Stays.refused("a pond below A, B can", RICH, x -> x.day(-1, -1), Due.STATE);
        Stays.refused("a pond above B, A can", RICH, x -> x.day(1, 1), Due.STATE);
    }

    // STATE: no GROUND (ahead of BAD)
    private static void dayWithoutAGround() {
        Stays.refused("day(0, 0)", FRESH, x -> x.day(0, 0), Due.STATE);
        Stays.refused("day(2, 0)", FRESH, x -> x.day(2, 0), Due.STATE);
        Stays.refused("day(0, -2)", FRESH, x -> x.day(0, -2), Due.STATE);
        Stays.refused("day(MIN, MAX)", FRESH, x -> x.day(MIN, MAX), Due.STATE);
    }

    // the first of these that fits: BAD, STATE
    private static void badIsAheadOfStateInDay() {
        Stays.refused("a pond, and no move", RICH, x -> x.day(-1, 2), Due.BAD);
        Stays.refused("no move, and a pond", RICH, x -> x.day(-2, 1), Due.BAD);
        Stays.refused("no DAY is left, and no move", LAST, x -> x.day(2, 0), Due.BAD);
        Stays.refused("no DAY is left, and no move", LAST, x -> x.day(0, MIN), Due.BAD);
    }

    // There are DAYS 0 to 11; STATE: no DAY is left
    private static void twelveDays() {
        FenceYards x = Due.groundOf("fence 6 6;strip bean 5 11;");
        for (int d = 0; d < 12; d++) {
            Due.due("the DAY", x.count(2), d);
            Due.due("nothing was reaped yet", x.reaped(0, 0), 0);
            Due.due("day(0, 0)", x.day(0, 0), 84);
        }
        Due.due("none is left", x.count(2), 12);
        Due.due("DAY 11 was reaped", x.reaped(0, 0), 5);
        Due.due("a thirteenth", x.day(0, 0), Due.STATE);
        Stays.refused("day(0, 0)", LAST, y -> y.day(0, 0), Due.STATE);
        Stays.refused("day(1, 0)", LAST, y -> y.day(1, 0), Due.STATE);
        Stays.refused("day(-1, 1)", LAST, y -> y.day(-1, 1), Due.STATE);
    }

    // then CROPS of this DAY are reaped; then it is the next DAY
    private static void movedThenReaped() {
        FenceYards x = Due.groundOf("fence 0 0;strip bean 8 0;strip bean 8 1;");
        x.day(1, 1);
        Due.due("with the ends where they were moved", x.reaped(0, 0), 8);
        x.day(0, 0);
        Due.due("STRIP 1 is the RIGHT man's", x.reaped(1, 0), 8);
        FenceYards y = Due.groundOf("fence 1 1;strip bean 8 0;");
        y.day(-1, -1);
        Due.due("given away", y.reaped(0, 0), 0);
        Due.due("the RIGHT man's", y.reaped(1, 0), 8);
    }

    // STATE: none
    private static void undoOfNone() {
        Stays.refused("undo() of a new object", FRESH, FenceYards::undo, Due.STATE);
        Stays.refused("undo() on DAY 0", Past::firstDay, FenceYards::undo, Due.STATE);
        Supplier<FenceYards> again = () -> {
            FenceYards x = Past.firstDay();
            x.day(1, 1);
            x.undo();
            return x;
        };
        Stays.refused("undo() once more", again, FenceYards::undo, Due.STATE);
        Supplier<FenceYards> next = () -> {
            FenceYards x = Past.rich();
            Due.read(x, "fence 3 3;");
            return x;
        };
        Stays.refused("undo() behind a new GROUND", next, FenceYards::undo, Due.STATE);
    }

    // each can be undone, the latest first: how many are left
    private static void undoOfAll() {
        FenceYards x = Due.groundOf("fence 0 12;" + "strip rye 99 0;".repeat(12));
        int[] left = new int[13];
        int[] right = new int[13];
        for (int d = 0; d < 12; d++) {
            left[d] = x.reaped(0, 0) * 1000 + x.reaped(0, 1);
            right[d] = x.reaped(1, 0) * 1000 + x.reaped(1, 1);
            x.day(1, -1);
        }
        for (int d = 11; d >= 0; d--) {
            Due.due("undo()", x.undo(), d);
            Due.due("the DAY", x.count(2), d);
            Due.due("A", x.count(3), d);
            Due.due("B", x.count(4), 12 - d);
            Due.due("left", x.reaped(0, 0) * 1000 + x.reaped(0, 1), left[d]);
            Due.due("right", x.reaped(1, 0) * 1000 + x.reaped(1, 1), right[d]);
        }
        Due.due("none is left", x.undo(), Due.STATE);
    }

    // The latest DAY is undone
    private static void undoneAndPassedAnew() {
        Stays.alike("a DAY that was undone", Past::firstDay, () -> {
            FenceYards x = Past.firstDay();
            x.day(1, 1);
            x.undo();
            return x;
        });
        Stays.alike("all DAYS undone", Past::firstDay, () -> {
            FenceYards x = Past.firstDay();
            for (int d = 0; d < 12; d++) {
                x.day(0, d % 2 == 0 ? -1 : 1);
            }
            for (int d = 0; d < 12; d++) {
                x.undo();
            }
            return x;
        });
        Stays.alike("another DAY in its place", () -> moved(1, -1), () -> {
            FenceYards x = Past.firstDay();
            x.day(0, 1);
            x.day(0, 0);
            x.undo();
            x.undo();
            x.day(1, -1);
            return x;
        });
        FenceYards x = Past.lastDay();
        Due.due("undo() of the last", x.undo(), 11);
        Due.holds("DAY 11 can be passed anew", x.day(0, 0) >= 0);
        Due.due("the DAY", x.count(2), 12);
    }

    // An object is used for at most 512 calls after it has been made
    private static void theLastOfManyCalls() {
        FenceYards x = Due.groundOf("fence 0 0;strip rye 99 0;");
        int made = 5;
        for (; made + 25 <= 511; made += 24) {
            for (int d = 0; d < 12; d++) {
                x.day(1, 1);
            }
            for (int d = 0; d < 12; d++) {
                x.undo();
            }
        }
        for (; made < 511; made++) {
            Due.due("count(2)", x.count(2), 0);
        }
        Due.due("the 512th call", x.day(1, 1), 14);
    }

    private static FenceYards moved(int a, int b) {
        FenceYards x = Past.firstDay();
        x.day(a, b);
        return x;
    }

    // Of a STRIP that was told: 0 WORTH, 1 RIPE; SHARE: 2 above, 3 below. BAD.
    private static void stripRefused() {
        int[] no = {-1, 6, 11, 12, MIN, MAX};
        for (int strip : no) {
            Stays.refused("strip(" + strip + ", 0)", RICH, x -> x.strip(strip, 0), Due.BAD);
            Stays.refused("strip(" + strip + ", 2)", RICH, x -> x.strip(strip, 2), Due.BAD);
        }
        int[] what = {-1, 4, MIN, MAX};
        for (int w : what) {
            Stays.refused("strip(0, " + w + ")", RICH, x -> x.strip(0, w), Due.BAD);
        }
        Stays.refused("strip(0, 0)", FRESH, x -> x.strip(0, 0), Due.BAD);
    }

    // Of a STRIP that was told (STRIPS 0 .. 11)
    private static void stripsThatWereTold() {
        FenceYards x = Due.groundOf("fence 3 5;" + "strip bean 1 2;".repeat(11) + "strip rye 3 4;");
        for (int what = 0; what <= 3; what++) {
            Due.holds("the first", x.strip(0, what) >= 0);
            Due.holds("the last", x.strip(11, what) >= 0);
            Due.due("one more", x.strip(12, what), Due.BAD);
        }
        Due.due("WORTH of the last", x.strip(11, 0), 3);
        Due.due("RIPE of the last", x.strip(11, 1), 4);
        FenceYards y = Due.groundOf("fence 3 5;strip bean 1 2;");
        Due.due("the only one", y.strip(0, 0), 1);
        Due.due("a bare one", y.strip(1, 0), Due.BAD);
        Due.due("a bare one's SHARE", y.strip(1, 2), Due.BAD);
        Due.due("none is told", Due.groundOf("fence 3 5;").strip(0, 0), Due.BAD);
    }

    private static void share(int a, int b, int strip, int above, int below) {
        FenceYards x = Due.groundOf("fence " + a + " " + b + ";" + TWELVE_BEANS);
        String call = "SHARE of " + strip + " at " + a + ", " + b;
        Due.fraction(call, x.strip(strip, 2), x.strip(strip, 3), above, below);
    }

    // with A like B 1, if A is above x, else 0
    private static void shareWithAlikeEnds() {
        for (int a = 0; a <= 12; a++) {
            for (int strip = 0; strip < 12; strip++) {
                share(a, a, strip, a > strip ? 1 : 0, 1);
            }
        }
    }

    // those from x and 1 on count 1, that from x on a half, all ahead of x nothing
    private static void shareOfOneYard() {
        for (int strip = 0; strip < 12; strip++) {
            share(strip, strip + 1, strip, 1, 2);
            share(strip + 1, strip, strip, 1, 2);
            if (strip > 0) {
                share(strip - 1, strip, strip, 0, 1);
                share(strip, strip - 1, strip, 0, 1);
                share(strip, strip + 1, strip - 1, 1, 1);
                share(strip + 1, strip, strip - 1, 1, 1);
            }
        }
    }

    // that by how many yards they are
    private static void shareOfTwelveYards() {
        share(0, 12, 0, 23, 24);
        share(12, 0, 0, 23, 24);
        share(0, 12, 11, 1, 24);
        share(12, 0, 11, 1, 24);
        share(0, 12, 1, 7, 8);
        share(0, 12, 5, 13, 24);
        share(0, 12, 6, 11, 24);
        share(0, 11, 11, 0, 1);
        share(1, 12, 0, 1, 1);
        share(0, 11, 5, 1, 2);
        share(2, 0, 0, 3, 4);
        share(2, 0, 1, 1, 4);
    }

    // fractions, told as two numbers in lowest terms (0 is 0 by 1)
    private static void fractionsOfNothingAndAll() {
        FenceYards x = Due.groundOf("fence 1 1;strip bean 12 0;strip bean 12 0;");
        Due.fraction("all", x.strip(0, 2), x.strip(0, 3), 1, 1);
        Due.fraction("nothing", x.strip(1, 2), x.strip(1, 3), 0, 1);
        Due.fraction("reaped nothing", x.reaped(0, 0), x.reaped(0, 1), 0, 1);
        Due.fraction("reaped nothing", x.reaped(1, 0), x.reaped(1, 1), 0, 1);
        x.day(0, 0);
        Due.fraction("a whole number", x.reaped(0, 0), x.reaped(0, 1), 12, 1);
        FenceYards y = Due.groundOf("fence 0 12;strip bean 99 0;strip bean 2 1;strip bean 4 1;");
        y.day(0, 0);
        Due.fraction("759 by 8", y.reaped(0, 0), y.reaped(0, 1), 759, 8);
        Due.fraction("33 by 8", y.reaped(1, 0), y.reaped(1, 1), 33, 8);
        y.day(0, 0);
        // 2 times 7 by 8 and 4 times 19 by 24: 59 by 12 more.
        Due.fraction("in lowest terms", y.reaped(0, 0), y.reaped(0, 1), 2395, 24);
    }

    /** Of 5, 7, 8, 9 and 11 yards, one behind the other: no sum has a greater number below. */
    private static void theGreatestBelow() {
        FenceYards x = Due.groundOf("fence 5 8;" + "strip bean 0 0;".repeat(5) + "strip rye 41 0;");
        x.day(-1, 1);
        Due.fraction("7 by 10 of 41", x.reaped(0, 0), x.reaped(0, 1), 287, 10);
        x.day(-1, 1);
        x.day(-1, 0);
        x.day(0, 1);
        x.day(-1, 1);
        Due.fraction("left", x.reaped(0, 0), x.reaped(0, 1), 3756293, 55440);
        Due.fraction("right", x.reaped(1, 0), x.reaped(1, 1), 2064907, 55440);
    }

    // CROP of a STRIP on a DAY (0 to 11). BAD.
    private static void cropRefused() {
        int[] no = {-1, 6, 12, MIN, MAX};
        for (int strip : no) {
            Stays.refused("crop(" + strip + ", 0)", RICH, x -> x.crop(strip, 0), Due.BAD);
        }
        int[] days = {-1, 12, MIN, MAX};
        for (int day : days) {
            Stays.refused("crop(0, " + day + ")", RICH, x -> x.crop(0, day), Due.BAD);
        }
        Stays.refused("crop(0, 0)", FRESH, x -> x.crop(0, 0), Due.BAD);
        FenceYards x = Due.groundOf("fence 0 0;" + TWELVE_BEANS);
        Due.due("the first DAY of the first", x.crop(0, 0), 24);
        Due.due("the last DAY of the last", x.crop(11, 11), 0);
        Due.due("the first DAY of the last", x.crop(11, 0), 24);
        Due.due("a thirteenth", x.crop(12, 0), Due.BAD);
    }

    private static void crops(String strip, int... want) {
        FenceYards x = Due.groundOf("fence 0 0;strip " + strip + ";");
        for (int d = 0; d < 12; d++) {
            Due.due("crop of " + strip + " on " + d, x.crop(0, d), want[d]);
        }
    }

    // WORTH, if d is RIPE
    private static void beansAndApples() {
        crops("bean 99 0", 99, 0, 0, 0, 0, 0, 0, 0, 0, 0, 0, 0);
        crops("bean 99 11", 0, 0, 0, 0, 0, 0, 0, 0, 0, 0, 0, 99);
        crops("bean 0 5", 0, 0, 0, 0, 0, 0, 0, 0, 0, 0, 0, 0);
        crops("bean 1 5", 0, 0, 0, 0, 0, 1, 0, 0, 0, 0, 0, 0);
        crops("apple 99 0", 99, 0, 0, 0, 0, 0, 0, 0, 0, 0, 0, 0);
        crops("apple 98 11", 0, 0, 0, 0, 0, 0, 0, 0, 0, 0, 0, 98);
    }

    // of rye WORTH on each DAY from RIPE on, less 10 for each that is gone since, 0 at least
    private static void ryeIsNoneAtLeast() {
        crops("rye 99 0", 99, 89, 79, 69, 59, 49, 39, 29, 19, 9, 0, 0);
        crops("rye 99 11", 0, 0, 0, 0, 0, 0, 0, 0, 0, 0, 0, 99);
        crops("rye 9 3", 0, 0, 0, 9, 0, 0, 0, 0, 0, 0, 0, 0);
        crops("rye 10 3", 0, 0, 0, 10, 0, 0, 0, 0, 0, 0, 0, 0);
        crops("rye 11 3", 0, 0, 0, 11, 1, 0, 0, 0, 0, 0, 0, 0);
        crops("rye 20 10", 0, 0, 0, 0, 0, 0, 0, 0, 0, 0, 20, 10);
        crops("rye 0 0", 0, 0, 0, 0, 0, 0, 0, 0, 0, 0, 0, 0);
        FenceYards x = Due.groundOf("fence 6 6;strip rye 9 0;");
        for (int d = 0; d < 12; d++) {
            x.day(0, 0);
        }
        Due.due("never less than nothing is reaped", x.reaped(0, 0), 9);
    }

    // of grass .. on each third DAY from RIPE on (RIPE itself, the third one behind it, ..)
    private static void grassOnEachThirdDay() {
        crops("grass 10 0", 5, 0, 0, 5, 0, 0, 5, 0, 0, 5, 0, 0);
        crops("grass 10 1", 0, 5, 0, 0, 5, 0, 0, 5, 0, 0, 5, 0);
        crops("grass 10 2", 0, 0, 5, 0, 0, 5, 0, 0, 5, 0, 0, 5);
        crops("grass 10 3", 0, 0, 0, 5, 0, 0, 5, 0, 0, 5, 0, 0);
        crops("grass 10 8", 0, 0, 0, 0, 0, 0, 0, 0, 5, 0, 0, 5);
        crops("grass 10 9", 0, 0, 0, 0, 0, 0, 0, 0, 0, 5, 0, 0);
        crops("grass 10 11", 0, 0, 0, 0, 0, 0, 0, 0, 0, 0, 0, 5);
    }

    // half its WORTH (cut)
    private static void grassIsCut() {
        crops("grass 0 9", 0, 0, 0, 0, 0, 0, 0, 0, 0, 0, 0, 0);
        crops("grass 1 9", 0, 0, 0, 0, 0, 0, 0, 0, 0, 0, 0, 0);
        crops("grass 2 9", 0, 0, 0, 0, 0, 0, 0, 0, 0, 1, 0, 0);
        crops("grass 3 9", 0, 0, 0, 0, 0, 0, 0, 0, 0, 1, 0, 0);
        crops("grass 99 9", 0, 0, 0, 0, 0, 0, 0, 0, 0, 49, 0, 0);
        FenceYards x = Due.groundOf("fence 1 1;strip grass 99 0;");
        x.day(0, 0);
        Due.fraction("what is reaped", x.reaped(0, 0), x.reaped(0, 1), 49, 1);
    }

    // of clover WORTH on RIPE and the DAY behind it
    private static void cloverOnTwoDays() {
        crops("clover 7 0", 7, 7, 0, 0, 0, 0, 0, 0, 0, 0, 0, 0);
        crops("clover 7 9", 0, 0, 0, 0, 0, 0, 0, 0, 0, 7, 7, 0);
        crops("clover 7 10", 0, 0, 0, 0, 0, 0, 0, 0, 0, 0, 7, 7);
        crops("clover 7 11", 0, 0, 0, 0, 0, 0, 0, 0, 0, 0, 0, 7);
    }

    // BAD (.. there is no such thing)
    private static void bareStripsHaveNoCrop() {
        FenceYards x = Due.groundOf("fence 0 0;strip bean 1 0;");
        Due.due("none was told", x.crop(1, 0), Due.BAD);
        Due.due("none was told", x.crop(11, 0), Due.BAD);
    }

    private static void apple(int a, int b, int strip, int left) {
        String text = "fence " + a + " " + b + ";" + "strip bean 0 0;".repeat(strip)
            + "strip apple 10 0;";
        FenceYards x = Due.groundOf(text);
        x.day(0, 0);
        String call = "an apple of STRIP " + strip + " at " + a + ", " + b;
        Due.fraction(call, x.reaped(0, 0), x.reaped(0, 1), left, 1);
        Due.fraction(call, x.reaped(1, 0), x.reaped(1, 1), 10 - left, 1);
    }

    // falls to who has more of the STRIP (a half: the right man), all of it
    private static void applesOfAHalf() {
        apple(0, 1, 0, 0);
        apple(1, 0, 0, 0);
        apple(0, 11, 5, 0);
        apple(12, 1, 6, 0);
        apple(3, 6, 4, 0);
    }

    // an apple on its DAY falls to who has more of the STRIP
    private static void applesOfMoreAndLess() {
        apple(0, 12, 5, 10);
        apple(12, 0, 5, 10);
        apple(0, 12, 6, 0);
        apple(12, 0, 6, 0);
        apple(0, 12, 0, 10);
        apple(0, 12, 11, 0);
        apple(0, 2, 0, 10);
        apple(0, 2, 1, 0);
        apple(4, 4, 3, 10);
        apple(4, 4, 4, 0);
    }

    // BAD; STATE: no GROUND (ahead of BAD).
    private static void reapedRefused() {
        int[] no = {-1, 2, MIN, MAX};
        for (int v : no) {
            Stays.refused("reaped(" + v + ", 0)", RICH, x -> x.reaped(v, 0), Due.BAD);
            Stays.refused("reaped(0, " + v + ")", RICH, x -> x.reaped(0, v), Due.BAD);
            Stays.refused("reaped(" + v + ", 0)", FRESH, x -> x.reaped(v, 0), Due.STATE);
            Stays.refused("reaped(1, " + v + ")", FRESH, x -> x.reaped(1, v), Due.STATE);
        }
        Stays.refused("reaped(0, 0)", FRESH, x -> x.reaped(0, 0), Due.STATE);
        Stays.refused("reaped(1, 1)", FRESH, x -> x.reaped(1, 1), Due.STATE);
    }

    // What was reaped so far (0 is 0 by 1)
    private static void reapedAtFirst() {
        FenceYards x = Past.firstDay();
        for (int who = 0; who <= 1; who++) {
            Due.fraction("reaped at first", x.reaped(who, 0), x.reaped(who, 1), 0, 1);
        }
    }

    /** All there is: twelve STRIPS of rye through all DAYS, 540 each. */
    private static void reapedAtMost() {
        String ryes = "strip rye 99 0;".repeat(12);
        FenceYards x = Due.groundOf("fence 12 12;" + ryes);
        FenceYards y = Due.groundOf("fence 0 0;" + ryes);
        FenceYards z = Due.groundOf("fence 0 12;" + ryes);
        for (int d = 0; d < 12; d++) {
            x.day(0, 0);
            y.day(0, 0);
            z.day(0, 0);
        }
        Due.fraction("all is the LEFT man's", x.reaped(0, 0), x.reaped(0, 1), 6480, 1);
        Due.fraction("nothing is the RIGHT man's", x.reaped(1, 0), x.reaped(1, 1), 0, 1);
        Due.fraction("nothing is the LEFT man's", y.reaped(0, 0), y.reaped(0, 1), 0, 1);
        Due.fraction("all is the RIGHT man's", y.reaped(1, 0), y.reaped(1, 1), 6480, 1);
        Due.fraction("a half each", z.reaped(0, 0), z.reaped(0, 1), 3240, 1);
        Due.fraction("a half each", z.reaped(1, 0), z.reaped(1, 1), 3240, 1);
    }
}
