import java.util.function.Supplier;

/** The boundary cases of promise 14 (best). */
public final class BoundsBestTest {
    private static final int MIN = Integer.MIN_VALUE;
    private static final int MAX = Integer.MAX_VALUE;
    private static final Supplier<FenceYards> RICH = Past::rich;
    private static final Supplier<FenceYards> LAST = Past::lastDay;
    private static final Supplier<FenceYards> FRESH = Past::fresh;
    private static final String SHUT = "fence 6 6;pond 0 5;pond 0 7;pond 1 5;pond 1 7;";

    private BoundsBestTest() {
    }

    public static void main(String[] args) {
        noGroundIsAheadOfAll();
        rowsAndNumbersRefused();
        missingRow();
        fewerItemsThanN();
        itemsThatAreNoMoves();
        itemsBehindN();
        itemsBeyondTheLastDay();
        badIsAheadOfFindings();
        findingsAreAheadOfItems();
        aboveBelowMoves();
        notSoMany();
        tillTheLastDay();
        noDayLeft();
        theRightManStays();
        theFirstRowOfMoves();
        theLeftManWithinBounds();
        eachLane();
        statusOfBest();
        nothingChanges();
        Due.end();
    }

    private static FenceYards of(String text, int... items) {
        FenceYards x = Due.groundOf(text);
        x.row(0, 0, items.length);
        for (int i = 0; i < items.length; i++) {
            x.set(0, i, items[i]);
        }
        return x;
    }

    // STATE: no GROUND (ahead of BAD)
    private static void noGroundIsAheadOfAll() {
        Stays.refused("best(0, 1, 0)", FRESH, x -> x.best(0, 1, 0), Due.STATE);
        Stays.refused("best(8, 1, 0)", FRESH, x -> x.best(8, 1, 0), Due.STATE);
        Stays.refused("best(0, 0, 0)", FRESH, x -> x.best(0, 0, 0), Due.STATE);
        Stays.refused("best(0, 13, 0)", FRESH, x -> x.best(0, 13, 0), Due.STATE);
        Stays.refused("best(0, 1, -3)", FRESH, x -> x.best(0, 1, -3), Due.STATE);
        Stays.refused("best(MIN, MIN, MIN)", FRESH, x -> x.best(MIN, MIN, MIN), Due.STATE);
        Supplier<FenceYards> rows = () -> {
            FenceYards x = new FenceYards();
            x.row(0, 0, 3);
            x.set(0, 0, 5);
            x.row(1, 0, -1);
            return x;
        };
        Stays.refused("a missing ROW", rows, x -> x.best(1, 1, 0), Due.STATE);
        Stays.refused("no such place", rows, x -> x.best(0, 4, 0), Due.STATE);
        Stays.refused("an ITEM that is no move", rows, x -> x.best(0, 3, 0), Due.STATE);
    }

    // BAD: ROW, n, k below -2
    private static void rowsAndNumbersRefused() {
        int[] rows = {-1, 8, MIN, MAX};
        for (int row : rows) {
            Stays.refused("best(" + row + ", 1, 0)", RICH, x -> x.best(row, 1, 0), Due.BAD);
        }
        int[] spans = {0, 13, -1, 40, MIN, MAX};
        for (int n : spans) {
            Stays.refused("best(0, " + n + ", 0)", RICH, x -> x.best(0, n, 0), Due.BAD);
            Stays.refused("best(2, " + n + ", -2)", RICH, x -> x.best(2, n, -2), Due.BAD);
        }
        int[] places = {-3, MIN, MIN + 1};
        for (int k : places) {
            Stays.refused("best(0, 1, " + k + ")", RICH, x -> x.best(0, 1, k), Due.BAD);
            Stays.refused("best(0, 12, " + k + ")", RICH, x -> x.best(0, 12, k), Due.BAD);
        }
    }

    // NULL
    private static void missingRow() {
        Stays.refused("best(4, 1, 0)", RICH, x -> x.best(4, 1, 0), Due.NULL);
        Stays.refused("best(7, 12, -2)", RICH, x -> x.best(7, 12, -2), Due.NULL);
        Stays.refused("best(1, 1, 99)", LAST, x -> x.best(1, 1, 99), Due.NULL);
    }

    // PLACE: n ITEMS of a ROW from its beginning on
    private static void fewerItemsThanN() {
        Stays.refused("no ITEMS", RICH, x -> x.best(3, 1, 0), Due.PLACE);
        Stays.refused("five ITEMS", RICH, x -> x.best(1, 6, 0), Due.PLACE);
        Stays.refused("five ITEMS", RICH, x -> x.best(1, 12, MAX), Due.PLACE);
        for (int size = 1; size <= 12; size++) {
            FenceYards x = of(SHUT + "strip rye 99 0;", new int[size]);
            for (int n = 1; n <= 12; n++) {
                int due = n <= size ? x.game(n, 0) : Due.PLACE;
                Due.due("best(0, " + n + ", -2) of " + size, x.best(0, n, -2), due);
            }
        }
    }

    // then BAD: an ITEM that is no move
    private static void itemsThatAreNoMoves() {
        int[] no = {-2, 2, -128, 127, 3, -3};
        for (int item : no) {
            for (int at = 0; at < 12; at++) {
                int[] items = new int[12];
                items[at] = item;
                FenceYards x = of(SHUT, items);
                Due.due("ITEM " + at + " is " + item, x.best(0, 12, -2), Due.BAD);
                Due.due("the same for a move", x.best(0, 12, 0), Due.BAD);
            }
            int last = item;
            Supplier<FenceYards> past = () -> of(SHUT, 0, 0, last);
            Stays.refused("the last ITEM is " + item, past, x -> x.best(0, 3, 0), Due.BAD);
        }
        FenceYards y = of(SHUT, -1, 0, 1);
        Due.due("all moves", y.best(0, 3, -2), 0);
        y.row(1, 2, 1);
        y.set(1, 0, MIN);
        Due.due("the least int", y.best(1, 1, 0), Due.BAD);
        y.set(1, 0, MAX);
        Due.due("the greatest int", y.best(1, 1, 0), Due.BAD);
    }

    // n ITEMS of a ROW from its beginning on
    private static void itemsBehindN() {
        FenceYards x = of(SHUT + "strip bean 9 0;", 0, 0, 5);
        Due.due("ITEM 2 is none of two", x.best(0, 2, -2), 9);
        Due.due("ITEM 2 is one of three", x.best(0, 3, -2), Due.BAD);
    }

    /** All n ITEMS are looked at, also those of DAYS that are not left. */
    private static void itemsBeyondTheLastDay() {
        FenceYards x = of(SHUT + "strip bean 9 11;", 0, 5);
        for (int d = 0; d < 11; d++) {
            x.day(0, 0);
        }
        Due.due("one DAY", x.best(0, 1, -2), 9);
        Due.due("two, of which one is left", x.best(0, 2, -2), Due.BAD);
        x.set(0, 1, 1);
        Due.due("two, of which one is left", x.best(0, 2, -2), 9);
    }

    // the first of these that fits: BAD .., then FINDINGS
    private static void badIsAheadOfFindings() {
        Stays.refused("n, a missing ROW", RICH, x -> x.best(4, 13, 0), Due.BAD);
        Stays.refused("n, a missing ROW", RICH, x -> x.best(4, 0, 0), Due.BAD);
        Stays.refused("k, a missing ROW", RICH, x -> x.best(4, 1, -3), Due.BAD);
        Stays.refused("n, no ITEMS", RICH, x -> x.best(3, 13, 0), Due.BAD);
        Stays.refused("k, no ITEMS", RICH, x -> x.best(3, 1, -3), Due.BAD);
    }

    // NULL; PLACE; then BAD: an ITEM that is no move
    private static void findingsAreAheadOfItems() {
        Stays.refused("PLACE, an ITEM that is no move", RICH, x -> x.best(1, 6, 0), Due.PLACE);
        Stays.refused("BAD, an ITEM that is no move", RICH, x -> x.best(1, 5, 0), Due.BAD);
        Stays.refused("an ITEM, not so many", RICH, x -> x.best(1, 5, MAX), Due.BAD);
    }

    // above (k = -2), below (-1), the move of the k-th of these DAYS
    private static void aboveBelowMoves() {
        // B is held at 2; A comes from 0 to 1: of STRIP 1 a fourth becomes a half.
        FenceYards x = of("fence 0 2;pond 1 1;pond 1 3;strip bean 0 0;strip bean 9 0;", 0, 0);
        Due.due("above", x.best(0, 2, -2), 9);
        Due.due("below", x.best(0, 2, -1), 2);
        Due.due("move 0", x.best(0, 2, 0), 1);
        Due.due("move 1", x.best(0, 2, 1), -1);
        FenceYards y = of("fence 5 5;", 0);
        Due.fraction("nothing", y.best(0, 1, -2), y.best(0, 1, -1), 0, 1);
        FenceYards z = of("fence 12 12;pond 0 11;pond 1 11;" + "strip rye 99 0;".repeat(12),
            new int[12]);
        Due.fraction("all there is", z.best(0, 12, -2), z.best(0, 12, -1), 6480, 1);
    }

    // NONE: not so many
    private static void notSoMany() {
        for (int n = 1; n <= 12; n++) {
            FenceYards x = of(SHUT, new int[12]);
            Due.due("the last of " + n, x.best(0, n, n - 1), 0);
            Due.due("one more of " + n, x.best(0, n, n), Due.NONE);
            x.best(0, 12, 11);
            for (int k = n; k <= 13; k++) {
                Due.due(k + " of " + n, x.best(0, n, k), Due.NONE);
            }
            Due.due("MAX of " + n, x.best(0, n, MAX), Due.NONE);
        }
    }

    // for n DAYS from this one on, or till DAY 11
    private static void tillTheLastDay() {
        for (int ripe = 0; ripe < 12; ripe++) {
            FenceYards x = of(SHUT + "strip bean 9 " + ripe + ";", new int[12]);
            for (int today = 0; today <= 12; today++) {
                for (int n = 1; n <= 12; n++) {
                    String call = "ripe on " + ripe + ", DAY " + today + ", best of " + n;
                    boolean within = ripe >= today && ripe < today + n;
                    Due.due(call, x.best(0, n, -2), within ? 9 : 0);
                    int days = Math.min(n, 12 - today);
                    Due.due(call + ", behind the last", x.best(0, n, days), Due.NONE);
                    Due.due(call + ", the last", days < 1 ? 0 : x.best(0, n, days - 1), 0);
                }
                x.day(0, 0);
            }
        }
    }

    // or till DAY 11; NONE: not so many
    private static void noDayLeft() {
        FenceYards x = Past.lastDay();
        for (int n = 1; n <= 12; n++) {
            Due.fraction("best with no DAY left", x.best(0, n, -2), x.best(0, n, -1), 0, 1);
            Due.due("move 0", x.best(0, n, 0), Due.NONE);
        }
        Due.due("BAD all the same", x.best(0, 13, 0), Due.BAD);
        Due.due("NULL all the same", x.best(1, 1, 0), Due.NULL);
    }

    // where he cannot, he stays
    private static void theRightManStays() {
        // A is held at 0: STRIP 0 is the LEFT man's by 1 by 2 at B 1, by 3 by 4 at B 2.
        String held = "fence 0 1;pond 0 1;";
        reaps("below 0", of(held + "strip bean 8 2;", -1, -1, 1), 3, 4);
        reaps("below 0", of(held + "strip bean 8 1;", -1, -1, 1), 2, 0);
        reaps("a pond at 2", of(held + "pond 1 2;strip bean 8 1;", 1, 1), 2, 4);
        reaps("no pond", of(held + "strip bean 8 0;", 1, 1), 1, 6);
        reaps("a pond at 0", of(held + "pond 1 0;strip bean 8 1;", -1, 1), 2, 6);
        String high = "fence 12 12;pond 0 11;" + "strip bean 0 0;".repeat(11) + "strip bean 8 1;";
        reaps("above 12", of(high, 1, -1), 2, 4);
        reaps("above 12", of(high, 1, 1), 2, 8);
    }

    private static void reaps(String name, FenceYards x, int n, int above) {
        Due.fraction("best, " + name, x.best(0, n, -2), x.best(0, n, -1), above, 1);
    }

    // his moves, of several the first row (-1 ahead of 0, ahead of 1)
    private static void theFirstRowOfMoves() {
        FenceYards x = of("fence 6 6;", new int[12]);
        for (int k = 0; k < 12; k++) {
            Due.due("to the rim, then none: " + k, x.best(0, 12, k), k < 6 ? -1 : 0);
        }
        FenceYards y = of("fence 6 6;pond 0 3;", new int[12]);
        for (int k = 0; k < 12; k++) {
            Due.due("to the pond, then none: " + k, y.best(0, 12, k), k < 2 ? -1 : 0);
        }
        // B is held at 5; STRIP 4 is all the LEFT man's with A at 5 or more.
        String held = "pond 1 4;pond 1 6;" + "strip bean 0 0;".repeat(4) + "strip bean 8 ";
        moves("0 ahead of 1", of("fence 5 5;" + held + "0;", 0), 0);
        moves("-1 ahead of 0", of("fence 6 5;" + held + "0;", 0), -1);
        moves("1, which alone brings most", of("fence 4 5;" + held + "0;", 0), 1);
        moves("-1 first, then back", of("fence 5 5;" + held + "1;", 0, 0), -1, 1);
        moves("-1 twice, then back", of("fence 5 5;" + held + "3;", 0, 0, 0, 0), -1, -1, 1, 1);
        moves("-1 twice, 0 and back", of("fence 5 5;" + held + "4;", 0, 0, 0, 0, 0),
            -1, -1, 0, 1, 1);
        moves("behind the last CROP", of("fence 5 5;" + held + "0;", 0, 0, 0), 0, -1, -1);
    }

    private static void moves(String name, FenceYards x, int... want) {
        for (int k = 0; k < want.length; k++) {
            Due.due(name + ": move " + k, x.best(0, want.length, k), want[k]);
        }
    }

    // the most that the LEFT man can reap in them (0 to 12, into no pond)
    private static void theLeftManWithinBounds() {
        String all = "strip bean 8 0;".repeat(12);
        moves("at 12 he stays", of("fence 12 12;pond 1 11;" + all, 0), 0);
        moves("at 0 he stays", of("fence 0 0;pond 0 1;pond 1 1;" + all, 0), 0);
        moves("a pond at 7", of("fence 6 6;pond 0 7;pond 1 5;pond 1 7;" + all, 0), 0);
        reaps("a pond at 7", of("fence 6 6;pond 0 7;pond 1 5;pond 1 7;" + all, 0), 1, 48);
        moves("no pond", of("fence 6 6;pond 1 5;pond 1 7;" + all, 0), 1);
        reaps("no pond", of("fence 6 6;pond 1 5;pond 1 7;" + all, 0), 1, 52);
        // Beyond a pond he never comes.
        FenceYards x = of("fence 6 0;pond 0 7;pond 1 1;" + "strip bean 0 0;".repeat(8)
            + "strip bean 8 11;", new int[12]);
        reaps("STRIP 8 is behind the pond", x, 12, 0);
    }

    // -1, 0, 1 for each of n DAYS, of a ROW of any LANE (its lowest bits)
    private static void eachLane() {
        for (int lane = 0; lane <= 2; lane++) {
            FenceYards x = Due.groundOf("fence 0 1;pond 0 1;strip bean 8 0;");
            x.row(0, lane, 1);
            x.set(0, 0, -1);
            Due.due("-1", x.best(0, 1, -2), 0);
            x.set(0, 0, 0);
            Due.due("0", x.best(0, 1, -2), 4);
            x.set(0, 0, 1);
            Due.due("1", x.best(0, 1, -2), 6);
        }
        FenceYards y = Due.groundOf("fence 0 1;pond 0 1;strip bean 8 0;");
        y.row(0, 0, 1);
        y.set(0, 0, 257);
        Due.due("257 in a byte is 1", y.best(0, 1, -2), 6);
        y.row(0, 1, 1);
        y.set(0, 0, 257);
        Due.due("257 in a short is no move", y.best(0, 1, -2), Due.BAD);
        y.set(0, 0, 65535);
        Due.due("65535 in a short is -1", y.best(0, 1, -2), 0);
    }

    // Of the latest call with a ROW .. that was not BAD, STATE, FULL
    private static void statusOfBest() {
        FenceYards x = Past.rich();
        Due.due("status() ahead of it", x.status(), 2);
        x.best(0, 12, -2);
        Due.due("none", x.status(), 0);
        x.best(4, 1, 0);
        Due.due("NULL", x.status(), 1);
        x.best(0, 12, MAX);
        Due.due("NONE is no FINDING", x.status(), 0);
        x.best(3, 1, 0);
        Due.due("PLACE", x.status(), 2);
        x.best(0, 13, 0);
        x.best(1, 5, 0);
        Due.due("BAD leaves it", x.status(), 2);
        x.best(0, 12, 0);
        Due.due("none", x.status(), 0);
    }

    // FORETOLD (nothing changes)
    private static void nothingChanges() {
        for (Supplier<FenceYards> past : java.util.List.of(RICH, LAST)) {
            for (int k = -2; k <= 12; k++) {
                int place = k;
                Stays.alike("behind best(0, 12, " + k + ")", past, () -> {
                    FenceYards x = past.get();
                    x.best(0, 12, place);
                    return x;
                });
            }
        }
    }
}
