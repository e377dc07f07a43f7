/** Promises 9 (day), 10 (undo), 11 (strip), 12 (crop), 13 (reaped), 26 (count). */
public final class DaysTest {
    private static final int[] ALL_DAYS = {0, 1, 2, 3, 4, 5, 6, 7, 8, 9, 10, 11};

    private DaysTest() {
    }

    public static void main(String[] args) {
        moving();
        lastDay();
        undoing();
        strips();
        sharesOfAllFences();
        crops();
        reaping();
        applesFall();
        counts();
        Due.end();
    }

    private static void moving() {
        FenceYards x = Due.groundOf("fence 0 12;pond 0 2;pond 1 10;");
        Due.due("day(2, 0)", x.day(2, 0), Due.BAD);
        Due.due("day(0, -2)", x.day(0, -2), Due.BAD);
        Due.due("day(-1, 3): BAD is ahead of STATE", x.day(-1, 3), Due.BAD);
        Due.due("day(-1, 0): beyond the rim", x.day(-1, 0), Due.STATE);
        Due.due("day(0, 1): beyond the rim", x.day(0, 1), Due.STATE);
        Due.due("day(1, -1)", x.day(1, -1), 13 + 11);
        Due.due("day(1, 0): a pond", x.day(1, 0), Due.STATE);
        Due.due("day(0, -1): a pond", x.day(0, -1), Due.STATE);
        Due.due("nothing has changed", x.count(2), 1);
        Due.due("day(-1, 1)", x.day(-1, 1), 12);
        Due.due("day(0, 0)", x.day(0, 0), 12);
        Due.due("DAY", x.count(2), 3);
        FenceYards y = Due.groundOf("fence 1 1;pond 0 2;");
        Due.due("a pond is on one rim alone", y.day(0, 1), 13 + 2);
    }

    private static void lastDay() {
        FenceYards x = Due.groundOf("fence 6 6;strip rye 99 0;");
        for (int d : ALL_DAYS) {
            Due.due("day " + d, x.day(d % 2 == 0 ? 1 : -1, 0), d % 2 == 0 ? 97 : 84);
        }
        Due.due("count(2)", x.count(2), 12);
        Due.due("day(0, 0)", x.day(0, 0), Due.STATE);
        Due.due("day(9, 0)", x.day(9, 0), Due.BAD);
        Due.due("game(1, 0)", x.game(1, 0), 0);
        Due.due("game(1, 1)", x.game(1, 1), 1);
        Due.due("game(1, 2)", x.game(1, 2), Due.NONE);
        Due.due("treaty(12, 0)", x.treaty(12, 0), 0);
        Due.due("sow", x.sow(0, 0, 50, 0, 12, 1), 1);
        Due.due("unseen(0, 1, 0)", x.unseen(0, 1, 0), 0);
        Due.due("unseen(0, 1, 1)", x.unseen(0, 1, 1), Due.NONE);
        Due.due("sure(1)", x.sure(1), 31);
        x.row(0, 0, 12);
        Due.due("best above", x.best(0, 12, -2), 0);
        Due.due("best below", x.best(0, 12, -1), 1);
        Due.due("best's move", x.best(0, 12, 0), Due.NONE);
        Due.due("undo()", x.undo(), 11);
        Due.due("day(1, 1)", x.day(1, 1), 8 * 13 + 7);
    }

    private static void undoing() {
        FenceYards x = Due.groundOf("fence 2 5;strip bean 7 0;strip rye 50 1;strip rye 33 0;");
        Due.due("undo()", x.undo(), Due.STATE);
        x.day(1, 1);
        int above = x.reaped(0, 0);
        int below = x.reaped(0, 1);
        x.day(-1, 0);
        x.day(0, -1);
        Due.due("undo()", x.undo(), 2);
        Due.due("A", x.count(3), 2);
        Due.due("B", x.count(4), 6);
        Due.due("undo()", x.undo(), 1);
        Due.due("A", x.count(3), 3);
        Due.fraction("reaped", x.reaped(0, 0), x.reaped(0, 1), above, below);
        Due.due("undo()", x.undo(), 0);
        Due.fraction("reaped", x.reaped(0, 0), x.reaped(0, 1), 0, 1);
        Due.fraction("reaped", x.reaped(1, 0), x.reaped(1, 1), 0, 1);
        Due.due("undo()", x.undo(), Due.STATE);
        Due.due("B", x.count(4), 5);
        Due.due("another day", x.day(0, 0), 2 * 13 + 5);
        Due.due("undo()", x.undo(), 0);
    }

    private static void strips() {
        FenceYards x = Due.groundOf("fence 1 3;strip bean 7 9;strip rye 50 1;strip grass 0 11;");
        Due.due("strip(0, 0)", x.strip(0, 0), 7);
        Due.due("strip(0, 1)", x.strip(0, 1), 9);
        Due.due("strip(2, 0)", x.strip(2, 0), 0);
        Due.due("strip(2, 1)", x.strip(2, 1), 11);
        Due.fraction("strip 0", x.strip(0, 2), x.strip(0, 3), 1, 1);
        Due.fraction("strip 1", x.strip(1, 2), x.strip(1, 3), 3, 4);
        Due.fraction("strip 2", x.strip(2, 2), x.strip(2, 3), 1, 4);
        Due.due("strip(3, 0): not told", x.strip(3, 0), Due.BAD);
        Due.due("strip(-1, 0)", x.strip(-1, 0), Due.BAD);
        Due.due("strip(0, -1)", x.strip(0, -1), Due.BAD);
        Due.due("strip(0, 4)", x.strip(0, 4), Due.BAD);
    }

    /** Each fence and each STRIP, by counting half yards. */
    private static void sharesOfAllFences() {
        for (int a = 0; a <= 12; a++) {
            for (int b = 0; b <= 12; b++) {
                FenceYards x = Due.groundOf(
                    "fence " + a + " " + b + ";" + "strip bean 1 1;".repeat(12));
                for (int strip = 0; strip < 12; strip++) {
                    shareOf(x, a, b, strip);
                }
            }
        }
    }

    private static void shareOf(FenceYards x, int a, int b, int strip) {
        int halves = 0;
        int all = 2 * Math.abs(a - b);
        for (int yard = Math.min(a, b); yard < Math.max(a, b); yard++) {
            halves += yard > strip ? 2 : yard == strip ? 1 : 0;
        }
        if (a == b) {
            halves = a > strip ? 1 : 0;
            all = 1;
        }
        int above = x.strip(strip, 2);
        int below = x.strip(strip, 3);
        String call = "share of " + strip + " at " + a + ", " + b;
        Due.due(call, above * all, halves * below);
        for (int divisor = 2; divisor <= 24; divisor++) {
            Due.holds(call + " is in lowest terms", above % divisor != 0 || below % divisor != 0);
        }
    }

    private static void crops() {
        FenceYards x = Due.groundOf("fence 6 6;strip bean 9 3;strip apple 8 11;strip rye 25 2;"
            + "strip grass 15 1;strip clover 6 4;strip clover 5 11;strip grass 99 11;"
            + "strip rye 20 10;strip rye 99 0;strip grass 1 0;");
        cropsOf(x, 0, 0, 0, 0, 9, 0, 0, 0, 0, 0, 0, 0, 0);
        cropsOf(x, 1, 0, 0, 0, 0, 0, 0, 0, 0, 0, 0, 0, 8);
        cropsOf(x, 2, 0, 0, 25, 15, 5, 0, 0, 0, 0, 0, 0, 0);
        cropsOf(x, 3, 0, 7, 0, 0, 7, 0, 0, 7, 0, 0, 7, 0);
        cropsOf(x, 4, 0, 0, 0, 0, 6, 6, 0, 0, 0, 0, 0, 0);
        cropsOf(x, 5, 0, 0, 0, 0, 0, 0, 0, 0, 0, 0, 0, 5);
        cropsOf(x, 6, 0, 0, 0, 0, 0, 0, 0, 0, 0, 0, 0, 49);
        cropsOf(x, 7, 0, 0, 0, 0, 0, 0, 0, 0, 0, 0, 20, 10);
        cropsOf(x, 8, 99, 89, 79, 69, 59, 49, 39, 29, 19, 9, 0, 0);
        cropsOf(x, 9, 0, 0, 0, 0, 0, 0, 0, 0, 0, 0, 0, 0);
        Due.due("crop(0, -1)", x.crop(0, -1), Due.BAD);
        Due.due("crop(0, 12)", x.crop(0, 12), Due.BAD);
        Due.due("crop(10, 0)", x.crop(10, 0), Due.BAD);
        Due.due("crop(-1, 0)", x.crop(-1, 0), Due.BAD);
    }

    private static void cropsOf(FenceYards x, int strip, int... want) {
        for (int d : ALL_DAYS) {
            Due.due("crop(" + strip + ", " + d + ")", x.crop(strip, d), want[d]);
        }
    }

    private static void reaping() {
        FenceYards x = Due.groundOf("fence 0 4;strip bean 10 0;strip rye 7 0;strip grass 9 1;");
        // The ends are moved first: 1 to 4 on DAY 0.
        x.day(1, 0);
        Due.fraction("left", x.reaped(0, 0), x.reaped(0, 1), 95, 6);
        Due.fraction("right", x.reaped(1, 0), x.reaped(1, 1), 7, 6);
        // 1 to 3 on DAY 1: rye is gone, a fourth of 4 (half of 9, cut).
        x.day(0, -1);
        Due.fraction("left", x.reaped(0, 0), x.reaped(0, 1), 101, 6);
        Due.fraction("right", x.reaped(1, 0), x.reaped(1, 1), 25, 6);
        Due.due("reaped(2, 0)", x.reaped(2, 0), Due.BAD);
        Due.due("reaped(-1, 0)", x.reaped(-1, 0), Due.BAD);
        Due.due("reaped(0, 2)", x.reaped(0, 2), Due.BAD);
        Due.due("reaped(0, -1)", x.reaped(0, -1), Due.BAD);
    }

    private static void applesFall() {
        // Between 1 and 4: five sixths, a half, a sixth of STRIPS 1, 2, 3.
        FenceYards x = Due.groundOf("fence 1 4;strip bean 0 0;strip apple 10 0;strip apple 20 0;"
            + "strip apple 40 0;strip apple 80 1;");
        x.day(0, 0);
        Due.fraction("left", x.reaped(0, 0), x.reaped(0, 1), 10, 1);
        Due.fraction("right", x.reaped(1, 0), x.reaped(1, 1), 60, 1);
        x.undo();
        x.day(0, 1);
        Due.fraction("left", x.reaped(0, 0), x.reaped(0, 1), 30, 1);
        Due.fraction("right", x.reaped(1, 0), x.reaped(1, 1), 40, 1);
    }

    private static void counts() {
        FenceYards x = Due.groundOf("fence 9 4;pond 0 1;pond 1 1;strip rye 1 1;");
        x.row(3, 0, 0);
        x.row(4, 0, 0);
        x.feed(0L, 5);
        x.day(1, 1);
        Due.due("count(0)", x.count(0), 2);
        Due.due("count(1)", x.count(1), 1);
        Due.due("count(2)", x.count(2), 1);
        Due.due("count(3)", x.count(3), 10);
        Due.due("count(4)", x.count(4), 5);
        Due.due("count(5)", x.count(5), 2);
        Due.due("count(6)", x.count(6), 5);
        Due.due("count(7)", x.count(7), Due.BAD);
        Due.due("count(-1)", x.count(-1), Due.BAD);
    }
}
