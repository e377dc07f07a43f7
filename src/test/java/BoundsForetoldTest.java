import java.util.function.Supplier;

/** The boundary cases of promises 15 (game), 16 (treaty), 17 (sow), 18 (unseen), 19 (sure). */
public final class BoundsForetoldTest {
    private static final int MIN = Integer.MIN_VALUE;
    private static final int MAX = Integer.MAX_VALUE;
    private static final Supplier<FenceYards> RICH = Past::rich;
    private static final Supplier<FenceYards> LAST = Past::lastDay;
    private static final Supplier<FenceYards> FRESH = Past::fresh;

    /** Neither end can move; STRIPS 0 to 5 are the LEFT man's. */
    private static final String SHUT = "fence 6 6;pond 0 5;pond 0 7;pond 1 5;pond 1 7;";
    private static final String FIVE_BARE = "strip bean 0 0;".repeat(5);

    private BoundsForetoldTest() {
    }

    public static void main(String[] args) {
        oneDayToTwelve();
        gameRefused();
        gameTillTheLastDay();
        gameWithNoDayLeft();
        gameFirstMoves();
        gameOfLikeOnesTheFirst();
        gameAtTheRims();
        gameOfAllThereIs();
        treatyRefused();
        treatyTillTheLastDay();
        treatyBelowNone();
        treatyOfNothing();
        treatyWithNoDayLeft();
        sowRefused();
        sowWithoutAGround();
        sowFromLeastToMost();
        sowEachSort();
        sowTillTheLastDay();
        sowOfTheSame();
        sowWithNoDayLeft();
        unseenRefused();
        unseenFractions();
        unseenPairsThatCanBe();
        unseenFirstPair();
        unseenOfThisDay();
        unseenWithNoDayLeft();
        sureRefused();
        sureWithinNDays();
        sureAtPondsAndRims();
        sureToldOrBare();
        sureBeyondTheLastDay();
        nothingChanges();
        noCallLeansOnAnother();
        Due.end();
    }

    /** All but n as wanted: n from 1 to 12 is taken, what is beyond is refused. */
    private static void oneDayToTwelve() {
        for (int n = 1; n <= 12; n++) {
            FenceYards x = Due.groundOf(SHUT + "strip bean 9 0;");
            Due.due("game(" + n + ", 0)", x.game(n, 0), 9);
            Due.due("treaty(" + n + ", 1)", x.treaty(n, 1), 1);
            Due.due("sow of " + n, x.sow(0, 0, 10, 0, n, 0), 1);
            Due.due("sure(" + n + ")", x.sure(n), 63);
        }
    }

    // BAD; STATE: no GROUND (ahead of BAD).
    private static void gameRefused() {
        int[] no = {0, 13, -1, MIN, MAX};
        for (int n : no) {
            for (int what = 0; what <= 2; what++) {
                int w = what;
                Stays.refused("game(" + n + ", " + w + ")", RICH, x -> x.game(n, w), Due.BAD);
            }
            Stays.refused("game(" + n + ", 0)", FRESH, x -> x.game(n, 0), Due.STATE);
            Stays.refused("game(" + n + ", 2)", LAST, x -> x.game(n, 2), Due.BAD);
        }
        int[] whats = {-1, 3, MIN, MAX};
        for (int what : whats) {
            Stays.refused("game(1, " + what + ")", RICH, x -> x.game(1, what), Due.BAD);
            Stays.refused("game(12, " + what + ")", FRESH, x -> x.game(12, what), Due.STATE);
            Stays.refused("game(12, " + what + ")", LAST, x -> x.game(12, what), Due.BAD);
        }
        for (int what = 0; what <= 2; what++) {
            int w = what;
            Stays.refused("game(1, " + w + ")", FRESH, x -> x.game(1, w), Due.STATE);
        }
    }

    /** Whether a DAY is one of n from today on, and one at all. */
    private static boolean isWithin(int ripe, int today, int n) {
        return ripe >= today && ripe < today + n;
    }

    // for n DAYS (1 to 12) from this one on, or till DAY 11
    private static void gameTillTheLastDay() {
        for (int ripe = 0; ripe < 12; ripe++) {
            FenceYards x = Due.groundOf(SHUT + "strip bean 9 " + ripe + ";");
            for (int today = 0; today <= 12; today++) {
                for (int n = 1; n <= 12; n++) {
                    String call = "ripe on " + ripe + ", DAY " + today + ", game(" + n + ", 0)";
                    Due.due(call, x.game(n, 0), isWithin(ripe, today, n) ? 9 : 0);
                    Due.due(call + " below", x.game(n, 1), 1);
                }
                x.day(0, 0);
            }
        }
        // Rye goes on: on a DAY 12 it would be worth 89 more.
        FenceYards y = Due.groundOf(SHUT + "strip rye 99 11;");
        Due.due("no DAY behind the last one", y.game(12, 0), 99);
        y.day(0, 0);
        Due.due("no DAY behind the last one", y.game(12, 0), 99);
    }

    // the first move (2; NONE: no DAY is left)
    private static void gameWithNoDayLeft() {
        FenceYards x = Past.lastDay();
        for (int n = 1; n <= 12; n++) {
            Due.fraction("game with no DAY left", x.game(n, 0), x.game(n, 1), 0, 1);
            Due.due("the first move", x.game(n, 2), Due.NONE);
        }
        x.undo();
        Due.holds("with one left there is a move", x.game(1, 2) >= -1);
        Due.holds("with one left there is a move", x.game(12, 2) >= -1);
        Due.due("no FINDING", x.status(), 3);
    }

    // the LEFT man's first move (-1, 0, 1)
    private static void gameFirstMoves() {
        // A half is the RIGHT man's: with A given way the apple comes to the left, or stays there.
        gameOf("fence 0 1;pond 1 0;pond 1 2;strip apple 7 0;", 1, 7, 1);
        gameOf("fence 1 1;pond 1 0;pond 1 2;strip apple 7 0;", 1, 7, 0);
        gameOf("fence 2 1;pond 1 0;pond 1 2;strip apple 7 0;", 1, 7, -1);
        gameOf("fence 0 0;pond 1 1;strip bean 8 0;", 1, 4, 1);
        gameOf("fence 0 0;pond 1 1;pond 0 1;strip bean 8 0;", 1, 0, 0);
    }

    private static void gameOf(String text, int n, int above, int move) {
        FenceYards x = Due.groundOf(text);
        Due.fraction("game(" + n + ") of " + text, x.game(n, 0), x.game(n, 1), above, 1);
        Due.due("first move of " + text, x.game(n, 2), move);
    }

    // the LEFT man's first move, of like ones the first
    private static void gameOfLikeOnesTheFirst() {
        for (int n = 1; n <= 12; n++) {
            Due.due("-1, 0, 1 alike", Due.groundOf("fence 6 6;").game(n, 2), -1);
            Due.due("0, 1 alike", Due.groundOf("fence 0 6;").game(n, 2), 0);
            Due.due("-1, 0 alike", Due.groundOf("fence 12 6;").game(n, 2), -1);
            Due.due("a pond at -1", Due.groundOf("fence 6 6;pond 0 5;").game(n, 2), 0);
            Due.due("a pond at 1", Due.groundOf("fence 6 6;pond 0 7;").game(n, 2), -1);
            Due.due("ponds at both", Due.groundOf("fence 6 6;pond 0 5;pond 0 7;").game(n, 2), 0);
        }
        // With B held at 3: A at 2 brings half of STRIP 2, A at 3 and at 4 all of it.
        String held = "pond 1 2;pond 1 4;strip bean 0 0;strip bean 0 0;strip bean 8 0;";
        gameOf("fence 3 3;" + held, 1, 8, 0);
        gameOf("fence 2 3;" + held, 1, 8, 1);
        gameOf("fence 4 3;" + held, 1, 8, -1);
    }

    // each DAY the LEFT man moves .., then the RIGHT man (0 to 12, into no pond)
    private static void gameAtTheRims() {
        // B can go to 0 only, A to 0 or 1: with A at 1 a half.
        gameOf("fence 0 0;pond 1 1;strip bean 2 0;", 12, 1, 1);
        gameOf("fence 12 12;" + "strip bean 10 0;".repeat(12), 1, 115, 0);
        gameOf("fence 12 12;pond 1 11;" + "strip bean 10 0;".repeat(12), 12, 120, 0);
        gameOf("fence 12 12;pond 0 11;pond 1 11;" + "strip bean 10 0;".repeat(12), 12, 120, 0);
        gameOf("fence 12 12;pond 0 11;pond 1 11;" + "strip bean 10 1;".repeat(12), 1, 0, 0);
    }

    /** The greatest sum that there can be: no number may wrap around. */
    private static void gameOfAllThereIs() {
        String ryes = "strip rye 99 0;".repeat(12);
        gameOf("fence 12 12;pond 0 11;pond 1 11;" + ryes, 12, 6480, 0);
        gameOf("fence 0 0;pond 0 1;pond 1 1;" + ryes, 12, 0, 0);
        FenceYards x = Due.groundOf("fence 12 12;pond 0 11;pond 1 11;" + ryes);
        Due.fraction("all in all", x.treaty(12, 0), x.treaty(12, 1), 0, 1);
        Due.fraction("a twelfth less", x.sow(0, 0, 0, 0, 12, 0), x.sow(0, 0, 0, 0, 12, 1), -540, 1);
    }

    // BAD; STATE: no GROUND (ahead of BAD).
    private static void treatyRefused() {
        int[] no = {0, 13, -1, MIN, MAX};
        for (int n : no) {
            Stays.refused("treaty(" + n + ", 0)", RICH, x -> x.treaty(n, 0), Due.BAD);
            Stays.refused("treaty(" + n + ", 1)", LAST, x -> x.treaty(n, 1), Due.BAD);
            Stays.refused("treaty(" + n + ", 0)", FRESH, x -> x.treaty(n, 0), Due.STATE);
        }
        int[] whats = {-1, 2, MIN, MAX};
        for (int what : whats) {
            Stays.refused("treaty(1, " + what + ")", RICH, x -> x.treaty(1, what), Due.BAD);
            Stays.refused("treaty(1, " + what + ")", FRESH, x -> x.treaty(1, what), Due.STATE);
        }
        Stays.refused("treaty(1, 0)", FRESH, x -> x.treaty(1, 0), Due.STATE);
        Stays.refused("treaty(12, 1)", FRESH, x -> x.treaty(12, 1), Due.STATE);
    }

    /** A is held at 6; B goes away from it, a yard a DAY till the rim, to leave 1 by 2 yards. */
    private static void treatyTillTheLastDay() {
        int[] above = {0, 12, 18, 20, 21, 108, 22};
        for (int ripe = 0; ripe < 12; ripe++) {
            FenceYards x = Due.groundOf(
                "fence 6 6;pond 0 5;pond 0 7;" + FIVE_BARE + "strip bean 24 " + ripe + ";");
            for (int today = 0; today <= 12; today++) {
                for (int n = 1; n <= 12; n++) {
                    boolean within = isWithin(ripe, today, n);
                    int yards = within ? Math.min(6, ripe - today + 1) : 0;
                    String call = "ripe on " + ripe + ", DAY " + today + ", treaty " + n;
                    Due.fraction(call, x.treaty(n, 0), x.treaty(n, 1), above[yards],
                        yards == 5 ? 5 : 1);
                }
                x.day(0, 0);
            }
        }
    }

    // less GAME (below 0: less)
    private static void treatyBelowNone() {
        FenceYards x = Due.groundOf("fence 0 1;pond 1 0;pond 1 2;strip bean 9 0;");
        Due.fraction("a half of 9 less", x.treaty(1, 0), x.treaty(1, 1), -9, 2);
        FenceYards y = Due.groundOf("fence 0 1;pond 1 0;pond 1 2;strip bean 8 0;");
        Due.fraction("4 less", y.treaty(1, 0), y.treaty(1, 1), -4, 1);
    }

    // what the LEFT man would reap, if nobody moved, less GAME (0 is 0 by 1)
    private static void treatyOfNothing() {
        FenceYards x = Due.groundOf("fence 5 7;");
        Due.fraction("no STRIP", x.treaty(12, 0), x.treaty(12, 1), 0, 1);
        FenceYards y = Due.groundOf(SHUT + "strip rye 99 0;");
        Due.fraction("none can move", y.treaty(12, 0), y.treaty(12, 1), 0, 1);
    }

    // or till DAY 11
    private static void treatyWithNoDayLeft() {
        FenceYards x = Past.lastDay();
        for (int n = 1; n <= 12; n++) {
            Due.fraction("treaty with no DAY left", x.treaty(n, 0), x.treaty(n, 1), 0, 1);
        }
    }

    // SOW, of a STRIP that was told, a SORT (0 .. 4): above (what = 0), below (1). BAD.
    private static void sowRefused() {
        int[] strips = {-1, 6, 11, 12, MIN, MAX};
        for (int v : strips) {
            Stays.refused("sow of STRIP " + v, RICH, x -> x.sow(v, 0, 1, 1, 1, 0), Due.BAD);
        }
        int[] sorts = {-1, 5, MIN, MAX};
        for (int v : sorts) {
            Stays.refused("sow of SORT " + v, RICH, x -> x.sow(0, v, 1, 1, 1, 0), Due.BAD);
        }
        int[] worths = {-1, 100, MIN, MAX};
        for (int v : worths) {
            Stays.refused("sow of WORTH " + v, RICH, x -> x.sow(0, 0, v, 1, 1, 0), Due.BAD);
        }
        int[] ripes = {-1, 12, MIN, MAX};
        for (int v : ripes) {
            Stays.refused("sow of RIPE " + v, RICH, x -> x.sow(0, 0, 1, v, 1, 0), Due.BAD);
        }
        int[] spans = {0, 13, -1, MIN, MAX};
        for (int v : spans) {
            Stays.refused("sow for n " + v, RICH, x -> x.sow(0, 0, 1, 1, v, 0), Due.BAD);
        }
        int[] whats = {-1, 2, MIN, MAX};
        for (int v : whats) {
            Stays.refused("sow, what " + v, RICH, x -> x.sow(0, 0, 1, 1, 1, v), Due.BAD);
        }
    }

    /** No STATE is told of sow(): where there is no GROUND no STRIP was told. */
    private static void sowWithoutAGround() {
        Stays.refused("sow", FRESH, x -> x.sow(0, 0, 0, 0, 1, 0), Due.BAD);
        Stays.refused("sow", FRESH, x -> x.sow(12, 5, 100, 12, 13, 2), Due.BAD);
        Supplier<FenceYards> bare = () -> Due.groundOf("fence 3 3;");
        Stays.refused("sow of a bare STRIP", bare, x -> x.sow(0, 0, 0, 0, 1, 0), Due.BAD);
    }

    // if a STRIP were of another SORT, WORTH (0 to 99), RIPE (0 to 11)
    private static void sowFromLeastToMost() {
        FenceYards x = Due.groundOf("fence 12 12;pond 0 11;pond 1 11;"
            + "strip bean 50 0;".repeat(11) + "strip bean 40 11;");
        Due.fraction("the least WORTH", x.sow(0, 0, 0, 0, 1, 0), x.sow(0, 0, 0, 0, 1, 1), -50, 1);
        Due.due("the greatest WORTH", x.sow(0, 0, 99, 0, 1, 0), 49);
        Due.due("the least RIPE of the last STRIP", x.sow(11, 0, 99, 0, 1, 0), 99);
        Due.due("the greatest RIPE", x.sow(0, 0, 99, 11, 11, 0), -50);
        Due.due("the greatest RIPE", x.sow(0, 0, 99, 11, 12, 0), 49);
        Due.due("the last STRIP", x.sow(11, 0, 99, 11, 12, 0), 59);
        Due.due("a fraction's below", x.sow(11, 0, 99, 11, 12, 1), 1);
        FenceYards y = Due.groundOf("fence 0 2;pond 0 1;pond 1 1;pond 1 3;strip bean 4 0;");
        Due.fraction("3 by 4 of 1", y.sow(0, 0, 5, 0, 1, 0), y.sow(0, 0, 5, 0, 1, 1), 3, 4);
        Due.fraction("3 by 4 less", y.sow(0, 0, 3, 0, 1, 0), y.sow(0, 0, 3, 0, 1, 1), -3, 4);
    }

    // a SORT (0 bean, 1 apple, 2 rye, 3 grass, 4 clover)
    private static void sowEachSort() {
        FenceYards x = Due.groundOf("fence 0 2;pond 0 1;pond 1 1;pond 1 3;"
            + "strip bean 0 0;strip bean 0 0;");
        // 3 by 4 of STRIP 0, 1 by 4 of STRIP 1.
        Due.due("a bean", x.sow(0, 0, 40, 0, 12, 0), 30);
        Due.due("an apple", x.sow(0, 1, 40, 0, 12, 0), 40);
        Due.due("an apple of less than a half", x.sow(1, 1, 40, 0, 12, 0), 0);
        Due.due("rye: 40, 30, 20, 10", x.sow(0, 2, 40, 0, 12, 0), 75);
        Due.due("grass: 20 on four DAYS", x.sow(0, 3, 41, 0, 12, 0), 60);
        Due.due("clover: twice 40", x.sow(0, 4, 40, 0, 12, 0), 60);
        Due.due("clover on DAY 11", x.sow(0, 4, 40, 11, 12, 0), 30);
    }

    // for n DAYS (1 to 12) from this one on, or till DAY 11
    private static void sowTillTheLastDay() {
        for (int ripe = 0; ripe < 12; ripe++) {
            FenceYards x = Due.groundOf(SHUT + "strip bean 0 0;");
            for (int today = 0; today <= 12; today++) {
                for (int n = 1; n <= 12; n++) {
                    String call = "sown for " + ripe + ", DAY " + today + ", n " + n;
                    int due = isWithin(ripe, today, n) ? 9 : 0;
                    Due.due(call, x.sow(0, 0, 9, ripe, n, 0), due);
                }
                x.day(0, 0);
            }
        }
    }

    // GAME then, less GAME as it is (0 is 0 by 1)
    private static void sowOfTheSame() {
        FenceYards x = Past.firstDay();
        for (int n = 1; n <= 12; n++) {
            Due.fraction("the same", x.sow(0, 2, 60, 0, n, 0), x.sow(0, 2, 60, 0, n, 1), 0, 1);
        }
    }

    // or till DAY 11
    private static void sowWithNoDayLeft() {
        FenceYards x = Past.lastDay();
        for (int n = 1; n <= 12; n++) {
            Due.fraction("none left", x.sow(0, 2, 99, 11, n, 0), x.sow(0, 2, 99, 11, n, 1), 0, 1);
        }
        Due.due("BAD all the same", x.sow(0, 2, 99, 12, 1, 0), Due.BAD);
    }

    // UNSEEN, up by down (up 0 to 9999, down 1 to 99) .. BAD; STATE: no GROUND (ahead of BAD).
    private static void unseenRefused() {
        int[] ups = {-1, 10000, MIN, MAX};
        for (int v : ups) {
            Stays.refused("unseen of " + v + " by 1", RICH, x -> x.unseen(v, 1, 0), Due.BAD);
            Stays.refused("unseen of " + v + " by 1", FRESH, x -> x.unseen(v, 1, 0), Due.STATE);
            Stays.refused("unseen of " + v + " by 1", LAST, x -> x.unseen(v, 1, 1), Due.BAD);
        }
        int[] downs = {0, 100, -1, MIN, MAX};
        for (int v : downs) {
            Stays.refused("unseen of 0 by " + v, RICH, x -> x.unseen(0, v, 0), Due.BAD);
            Stays.refused("unseen of 0 by " + v, FRESH, x -> x.unseen(0, v, 0), Due.STATE);
            Stays.refused("unseen of 0 by " + v, LAST, x -> x.unseen(0, v, 1), Due.BAD);
        }
        int[] whats = {-1, 2, MIN, MAX};
        for (int v : whats) {
            Stays.refused("unseen, what " + v, RICH, x -> x.unseen(0, 1, v), Due.BAD);
            Stays.refused("unseen, what " + v, FRESH, x -> x.unseen(0, 1, v), Due.STATE);
        }
        Stays.refused("unseen(0, 1, 0)", FRESH, x -> x.unseen(0, 1, 0), Due.STATE);
        Stays.refused("unseen(9999, 99, 1)", FRESH, x -> x.unseen(9999, 99, 1), Due.STATE);
    }

    // up by down (up 0 to 9999, down 1 to 99)
    private static void unseenFractions() {
        FenceYards x = Due.groundOf(SHUT + "strip bean 99 0;strip bean 2 0;");
        Due.due("101 by 1", x.unseen(101, 1, 0), 1);
        Due.due("9999 by 99: the greatest of both", x.unseen(9999, 99, 0), 1);
        Due.due("9999 by 99: the first", x.unseen(9999, 99, 1), 4);
        Due.due("9998 by 99", x.unseen(9998, 99, 0), 0);
        Due.due("9999 by 98", x.unseen(9999, 98, 0), 0);
        Due.due("9999 by 1", x.unseen(9999, 1, 0), 0);
        Due.due("0 by 1", x.unseen(0, 1, 0), 0);
        Due.due("0 by 1: the first", x.unseen(0, 1, 1), Due.NONE);
        FenceYards y = Due.groundOf("fence 0 12;pond 0 1;pond 1 11;strip bean 1 0;");
        Due.due("23 by 24", y.unseen(23, 24, 0), 1);
        Due.due("92 by 96: not in lowest terms", y.unseen(92, 96, 0), 1);
        Due.due("95 by 99", y.unseen(95, 99, 0), 0);
        FenceYards z = Due.groundOf(SHUT);
        Due.due("0 by 99", z.unseen(0, 99, 0), 1);
        Due.due("1 by 99", z.unseen(1, 99, 0), 0);
        FenceYards w = Due.groundOf("fence 12 12;pond 0 11;pond 1 11;" + "strip bean 99 0;".repeat(12));
        Due.due("all there is", w.unseen(1188, 1, 0), 1);
        Due.due("eight times that by 8", w.unseen(9504, 8, 1), 4);
    }

    // how many pairs of moves (that can be) would bring just that
    private static void unseenPairsThatCanBe() {
        unseen("fence 6 6;", 9, 0);
        unseen("fence 0 6;", 6, 3);
        unseen("fence 12 6;", 6, 0);
        unseen("fence 6 0;", 6, 1);
        unseen("fence 6 12;", 6, 0);
        unseen("fence 0 0;", 4, 4);
        unseen("fence 12 12;", 4, 0);
        unseen("fence 0 12;", 4, 3);
        unseen("fence 12 0;", 4, 1);
        unseen("fence 6 6;pond 0 5;", 6, 3);
        unseen("fence 6 6;pond 1 5;", 6, 1);
        unseen("fence 6 6;pond 0 7;pond 1 7;", 4, 0);
        unseen("fence 0 12;pond 0 1;pond 1 11;", 1, 4);
        unseen(SHUT, 1, 4);
    }

    private static void unseen(String text, int pairs, int first) {
        FenceYards x = Due.groundOf(text);
        Due.due("pairs of " + text, x.unseen(0, 1, 0), pairs);
        Due.due("the first of " + text, x.unseen(0, 1, 1), first);
    }

    // the first one: 3 times A's move, and B's, and 4; NONE
    private static void unseenFirstPair() {
        // STRIP 6 is of 24: both ends at 7 bring all, one of them a half, and so on.
        FenceYards x = Due.groundOf("fence 6 6;" + FIVE_BARE + "strip bean 0 0;strip bean 24 0;");
        Due.due("24: both at 7", x.unseen(24, 1, 0), 1);
        Due.due("24: both at 7", x.unseen(24, 1, 1), 8);
        Due.due("12: 6 and 7", x.unseen(12, 1, 0), 2);
        Due.due("12: 6 and 7", x.unseen(12, 1, 1), 5);
        Due.due("6: 5 and 7", x.unseen(6, 1, 0), 2);
        Due.due("6: 5 and 7", x.unseen(6, 1, 1), 2);
        Due.due("0: neither at 7", x.unseen(0, 1, 0), 4);
        Due.due("0: neither at 7", x.unseen(0, 1, 1), 0);
        Due.due("1: no pair", x.unseen(1, 1, 0), 0);
        Due.due("1: no pair", x.unseen(1, 1, 1), Due.NONE);
        FenceYards y = Due.groundOf("fence 6 6;pond 0 5;pond 1 7;" + FIVE_BARE
            + "strip bean 0 0;strip bean 24 0;");
        Due.due("12: A moved by 1, B not", y.unseen(12, 1, 1), 7);
        Due.due("6: A moved by 1, B by -1", y.unseen(6, 1, 1), 6);
    }

    // on this DAY
    private static void unseenOfThisDay() {
        for (int ripe = 0; ripe < 12; ripe++) {
            FenceYards x = Due.groundOf(SHUT + "strip bean 9 " + ripe + ";");
            for (int today = 0; today < 12; today++) {
                Due.due("9 on " + today, x.unseen(9, 1, 0), ripe == today ? 1 : 0);
                Due.due("0 on " + today, x.unseen(0, 1, 0), ripe == today ? 0 : 1);
                x.day(0, 0);
            }
        }
    }

    /** No DAY is left, so no pair of moves can be. */
    private static void unseenWithNoDayLeft() {
        FenceYards x = Due.groundOf("fence 6 6;strip rye 99 11;");
        for (int d = 0; d < 12; d++) {
            x.day(0, 0);
        }
        for (int up = 0; up < 100; up++) {
            Due.due("unseen(" + up + ", 1, 0), no DAY left", x.unseen(up, 1, 0), 0);
            Due.due("unseen(" + up + ", 1, 1), no DAY left", x.unseen(up, 1, 1), Due.NONE);
        }
        x.undo();
        Due.due("with one left", x.unseen(99, 1, 0), 9);
        FenceYards y = Due.groundOf("fence 6 6;");
        for (int d = 0; d < 12; d++) {
            Due.due("nothing is reaped", y.unseen(0, 1, 0), 9);
            y.day(0, 0);
        }
        Due.due("no DAY left", y.unseen(0, 1, 0), 0);
    }

    // SURE. BAD; STATE: no GROUND (ahead of BAD).
    private static void sureRefused() {
        int[] no = {0, 13, -1, MIN, MAX};
        for (int n : no) {
            Stays.refused("sure(" + n + ")", RICH, x -> x.sure(n), Due.BAD);
            Stays.refused("sure(" + n + ")", LAST, x -> x.sure(n), Due.BAD);
            Stays.refused("sure(" + n + ")", FRESH, x -> x.sure(n), Due.STATE);
        }
        Stays.refused("sure(1)", FRESH, x -> x.sure(1), Due.STATE);
        Stays.refused("sure(12)", FRESH, x -> x.sure(12), Due.STATE);
    }

    // wherever both ends can be behind n DAYS (1 to 12) or fewer
    private static void sureWithinNDays() {
        for (int a = 0; a <= 12; a++) {
            FenceYards x = Due.groundOf("fence " + a + " 12;");
            FenceYards y = Due.groundOf("fence 12 " + a + ";");
            for (int n = 1; n <= 12; n++) {
                int strips = (1 << Math.max(0, a - n)) - 1;
                Due.due("A " + a + ", sure(" + n + ")", x.sure(n), strips);
                Due.due("B " + a + ", sure(" + n + ")", y.sure(n), strips);
            }
        }
    }

    // wherever both ends can be (0 to 12, into no pond)
    private static void sureAtPondsAndRims() {
        for (int pond = 0; pond < 12; pond++) {
            FenceYards x = Due.groundOf("fence 12 12;pond 0 " + pond + ";pond 1 " + pond + ";");
            Due.due("both stop at " + pond, x.sure(12), (1 << pond + 1) - 1);
            FenceYards y = Due.groundOf("fence 12 12;pond 0 " + pond + ";");
            Due.due("B does not stop", y.sure(12), 0);
        }
        Due.due("both at 0", Due.groundOf("fence 0 0;pond 0 1;pond 1 1;").sure(1), 0);
        Due.due("all twelve", Due.groundOf("fence 12 12;pond 0 11;pond 1 11;").sure(12), 4095);
        Due.due("one at 0", Due.groundOf("fence 0 12;pond 1 11;").sure(1), 0);
        Due.due("one at 1", Due.groundOf("fence 1 12;pond 0 0;pond 1 11;").sure(12), 1);
    }

    // STRIPS (bits; 0 to 11, told or bare)
    private static void sureToldOrBare() {
        String shut = "fence 12 12;pond 0 11;pond 1 11;";
        for (int told = 0; told <= 12; told++) {
            FenceYards x = Due.groundOf(shut + "strip rye 1 1;".repeat(told));
            Due.due(told + " told", x.sure(3), 4095);
        }
    }

    // also beyond DAY 11
    private static void sureBeyondTheLastDay() {
        FenceYards x = Due.groundOf("fence 10 11;");
        for (int today = 0; today <= 12; today++) {
            for (int n = 1; n <= 12; n++) {
                String call = "DAY " + today + ", sure(" + n + ")";
                Due.due(call, x.sure(n), (1 << Math.max(0, 10 - n)) - 1);
            }
            x.day(0, 0);
        }
    }

    // FORETOLD (nothing changes)
    private static void nothingChanges() {
        stays("game", x -> x.game(12, 0));
        stays("game's first move", x -> x.game(1, 2));
        stays("treaty", x -> x.treaty(12, 0));
        stays("sow", x -> x.sow(0, 4, 99, 3, 12, 0));
        stays("sow's below", x -> x.sow(5, 1, 0, 11, 1, 1));
        stays("unseen", x -> x.unseen(9, 1, 0));
        stays("unseen's first", x -> x.unseen(0, 1, 1));
        stays("sure", x -> x.sure(12));
    }

    /** What was foretold for one GROUND, and for n DAYS, is not seen in what is for another. */
    private static void noCallLeansOnAnother() {
        String[] grounds = {SHUT + "strip rye 99 0;", Past.ALL_SORTS, "fence 12 0;pond 0 10;",
            "fence 0 12;pond 0 2;strip rye 30 1;strip apple 50 0;"};
        for (String text : grounds) {
            Stays.alike("foretold ahead of " + text, () -> withRows(new FenceYards(), text), () -> {
                FenceYards x = new FenceYards();
                Due.read(x, "fence 6 6;" + "strip rye 99 0;".repeat(12));
                x.row(0, 0, 12);
                x.game(12, 0);
                x.treaty(12, 0);
                x.best(0, 12, 0);
                x.unseen(1, 1, 0);
                return withRows(x, text);
            });
        }
    }

    private static FenceYards withRows(FenceYards x, String text) {
        Due.read(x, text);
        x.row(0, 0, 12);
        x.set(0, 3, 1);
        x.set(0, 4, -1);
        return x;
    }

    private static void stays(String name, Stays.Call call) {
        for (Supplier<FenceYards> past : java.util.List.of(RICH, LAST, Past::firstDay)) {
            Stays.alike("behind " + name, past, () -> {
                FenceYards x = past.get();
                int status = x.status();
                call.on(x);
                Due.due("status() behind " + name, x.status(), status);
                return x;
            });
        }
    }
}
