import java.util.function.Supplier;

/** The boundary cases of promises 2 (row), 3 (set), 4 (copy), 5 (drop), each sentence by itself. */
public final class BoundsRowsTest {
    private static final int MIN = Integer.MIN_VALUE;
    private static final int MAX = Integer.MAX_VALUE;
    private static final Supplier<FenceYards> RICH = Past::rich;
    private static final Supplier<FenceYards> FRESH = Past::fresh;

    private BoundsRowsTest() {
    }

    public static void main(String[] args) {
        rowsAreMissingAtFirst();
        eightRows();
        threeLanes();
        noItemsToFortyItems();
        itemsAreNoneAtFirst();
        aRowInPlaceOfWhatIsThere();
        rowRefused();
        badIsAheadOfSize();
        lowestBitsOfBytes();
        lowestBitsOfShorts();
        lowestBitsOfInts();
        setRefused();
        nullIsAheadOfPlaceInSet();
        copyUpToBothEnds();
        copyOfNoItems();
        copyAsTheyWereAhead();
        copyOfTheWholeRow();
        copyRefused();
        copyBeyondAnEnd();
        ordersOfCopy();
        copyOfALaneThatWas();
        dropRefused();
        dropAnswersHowManyItHad();
        Due.end();
    }

    /** The ITEM by best(): -1, 0, 1, or 2 for what is no move; the GROUND is MOVES'. */
    private static int item(FenceYards x, int row, int i) {
        x.row(7, laneOf(x, row), 1);
        if (x.copy(row, i, 7, 0, 1) != 1) {
            return Due.PLACE;
        }
        int reaped = x.best(7, 1, -2);
        return reaped == Due.BAD ? 2 : reaped - 1;
    }

    /** The first LANE that is not STORE. */
    private static int laneOf(FenceYards x, int row) {
        for (int lane = 0; lane < 2; lane++) {
            x.row(7, lane, 1);
            if (x.copy(row, 0, 7, 0, 0) == 0) {
                return lane;
            }
        }
        return 2;
    }

    /** A cannot move; with B moved by -1, 0, 1 the LEFT man has 0, 1, 2. */
    private static FenceYards moves() {
        return Due.groundOf("fence 5 6;pond 0 4;pond 0 6;strip bean 0 0;strip bean 0 0;"
            + "strip bean 0 0;strip bean 0 0;strip bean 0 0;strip bean 2 0;strip bean 2 0;");
    }

    // ROWS 0 .. 7 are missing (at first)
    private static void rowsAreMissingAtFirst() {
        FenceYards x = new FenceYards();
        Due.due("count(0) at first", x.count(0), 0);
        for (int row = 0; row <= 7; row++) {
            Due.due("set(" + row + ", 0, 0) at first", x.set(row, 0, 0), Due.NULL);
            Due.due("drop(" + row + ") at first", x.drop(row), Due.NULL);
            Due.due("copy of " + row + " at first", x.copy(row, 0, row, 0, 0), Due.NULL);
        }
        FenceYards y = moves();
        for (int row = 0; row <= 7; row++) {
            Due.due("best(" + row + ", 1, -2) at first", y.best(row, 1, -2), Due.NULL);
        }
    }

    // ROWS 0 .. 7
    private static void eightRows() {
        FenceYards x = new FenceYards();
        for (int row = 0; row <= 7; row++) {
            Due.due("row(" + row + ", 2, 3)", x.row(row, 2, 3), 3);
            Due.due("count(0)", x.count(0), row + 1);
        }
        for (int row = 0; row <= 7; row++) {
            Due.due("set(" + row + ", 2, " + row + ")", x.set(row, 2, row), row);
        }
        Due.due("copy(0, 0, 7, 0, 3)", x.copy(0, 0, 7, 0, 3), 3);
        for (int row = 7; row >= 0; row--) {
            Due.due("drop(" + row + ")", x.drop(row), 3);
            Due.due("count(0)", x.count(0), row);
        }
    }

    // a LANE (0 bytes, 1 shorts, 2 ints)
    private static void threeLanes() {
        FenceYards x = new FenceYards();
        Due.due("a row of bytes", x.row(0, 0, 1), 1);
        Due.due("a row of shorts", x.row(1, 1, 1), 1);
        Due.due("a row of ints", x.row(2, 2, 1), 1);
        Due.due("70000 in a byte", x.set(0, 0, 70000), 112);
        Due.due("70000 in a short", x.set(1, 0, 70000), 4464);
        Due.due("70000 in an int", x.set(2, 0, 70000), 70000);
    }

    // 0 to 40 ITEMS
    private static void noItemsToFortyItems() {
        FenceYards x = new FenceYards();
        Due.due("row(0, 0, 0)", x.row(0, 0, 0), 0);
        Due.due("a row of no ITEMS is not missing", x.count(0), 1);
        Due.due("it has no place", x.set(0, 0, 0), Due.PLACE);
        Due.due("row(1, 1, 1)", x.row(1, 1, 1), 1);
        Due.due("its place", x.set(1, 0, 5), 5);
        Due.due("no second one", x.set(1, 1, 5), Due.PLACE);
        Due.due("row(2, 2, 39)", x.row(2, 2, 39), 39);
        Due.due("its last place", x.set(2, 38, 5), 5);
        Due.due("none behind it", x.set(2, 39, 5), Due.PLACE);
        Due.due("row(3, 2, 40)", x.row(3, 2, 40), 40);
        Due.due("its last place", x.set(3, 39, 5), 5);
        Due.due("none behind it", x.set(3, 40, 5), Due.PLACE);
        Due.due("drop(0)", x.drop(0), 0);
        Due.due("drop(3)", x.drop(3), 40);
    }

    // ITEMS, 0 at first
    private static void itemsAreNoneAtFirst() {
        for (int lane = 0; lane <= 2; lane++) {
            FenceYards x = moves();
            x.row(0, lane, 40);
            for (int i = 0; i < 40; i++) {
                Due.due("ITEM " + i + " of a new row", item(x, 0, i), 0);
            }
        }
    }

    // A ROW .. in place of what is there
    private static void aRowInPlaceOfWhatIsThere() {
        FenceYards x = moves();
        x.row(0, 0, 40);
        for (int i = 0; i < 40; i++) {
            x.set(0, i, 1);
        }
        Due.due("a new one of another LANE", x.row(0, 2, 40), 40);
        Due.due("count(0)", x.count(0), 1);
        for (int i = 0; i < 40; i++) {
            Due.due("ITEM " + i + " is 0 again", item(x, 0, i), 0);
        }
        Due.due("its LANE", x.set(0, 0, 70000), 70000);
        Due.due("a lesser one", x.row(0, 1, 2), 2);
        Due.due("its last place", x.set(0, 1, 1), 1);
        Due.due("none behind it", x.set(0, 2, 1), Due.PLACE);
        Due.due("a greater one again", x.row(0, 1, 3), 3);
        Due.due("ITEM 1 is 0 again", item(x, 0, 1), 0);
        Due.due("none at all", x.row(0, 1, 0), 0);
        Due.due("no place", x.set(0, 0, 1), Due.PLACE);
    }

    // BAD: ROW, LANE, n above 40; SIZE.
    private static void rowRefused() {
        for (Supplier<FenceYards> past : java.util.List.of(RICH, FRESH)) {
            Stays.refused("row(-1, 0, 1)", past, x -> x.row(-1, 0, 1), Due.BAD);
            Stays.refused("row(8, 0, 1)", past, x -> x.row(8, 0, 1), Due.BAD);
            Stays.refused("row(MIN, 0, 1)", past, x -> x.row(MIN, 0, 1), Due.BAD);
            Stays.refused("row(MAX, 0, 1)", past, x -> x.row(MAX, 0, 1), Due.BAD);
            Stays.refused("row(0, -1, 1)", past, x -> x.row(0, -1, 1), Due.BAD);
            Stays.refused("row(0, 3, 1)", past, x -> x.row(0, 3, 1), Due.BAD);
            Stays.refused("row(0, MIN, 1)", past, x -> x.row(0, MIN, 1), Due.BAD);
            Stays.refused("row(0, MAX, 1)", past, x -> x.row(0, MAX, 1), Due.BAD);
            Stays.refused("row(0, 0, 41)", past, x -> x.row(0, 0, 41), Due.BAD);
            Stays.refused("row(0, 0, MAX)", past, x -> x.row(0, 0, MAX), Due.BAD);
            Stays.refused("row(0, 0, -1)", past, x -> x.row(0, 0, -1), Due.SIZE);
            Stays.refused("row(7, 2, -1)", past, x -> x.row(7, 2, -1), Due.SIZE);
            Stays.refused("row(0, 0, MIN)", past, x -> x.row(0, 0, MIN), Due.SIZE);
        }
    }

    // the first of these that fits: BAD .., then FINDINGS
    private static void badIsAheadOfSize() {
        Stays.refused("row(8, 0, -1)", RICH, x -> x.row(8, 0, -1), Due.BAD);
        Stays.refused("row(-1, 0, -1)", RICH, x -> x.row(-1, 0, -1), Due.BAD);
        Stays.refused("row(0, 3, -1)", RICH, x -> x.row(0, 3, -1), Due.BAD);
        Stays.refused("row(0, -1, MIN)", RICH, x -> x.row(0, -1, MIN), Due.BAD);
    }

    // its lowest bits, as many as the LANE has (read with their sign): what it is then
    private static void lowestBitsOfBytes() {
        FenceYards x = new FenceYards();
        x.row(0, 0, 1);
        Due.due("the greatest byte", x.set(0, 0, 127), 127);
        Due.due("one more", x.set(0, 0, 128), -128);
        Due.due("the least byte", x.set(0, 0, -128), -128);
        Due.due("one less", x.set(0, 0, -129), 127);
        Due.due("255", x.set(0, 0, 255), -1);
        Due.due("256", x.set(0, 0, 256), 0);
        Due.due("MAX", x.set(0, 0, MAX), -1);
        Due.due("MIN", x.set(0, 0, MIN), 0);
        Due.due("MIN and 127", x.set(0, 0, MIN + 127), 127);
    }

    // its lowest bits, as many as the LANE has (read with their sign): shorts
    private static void lowestBitsOfShorts() {
        FenceYards x = new FenceYards();
        x.row(0, 1, 1);
        Due.due("the greatest short", x.set(0, 0, 32767), 32767);
        Due.due("one more", x.set(0, 0, 32768), -32768);
        Due.due("the least short", x.set(0, 0, -32768), -32768);
        Due.due("one less", x.set(0, 0, -32769), 32767);
        Due.due("65535", x.set(0, 0, 65535), -1);
        Due.due("65536", x.set(0, 0, 65536), 0);
        Due.due("MAX", x.set(0, 0, MAX), -1);
        Due.due("MIN", x.set(0, 0, MIN), 0);
    }

    // its lowest bits, as many as the LANE has (read with their sign): ints
    private static void lowestBitsOfInts() {
        FenceYards x = new FenceYards();
        x.row(0, 2, 1);
        Due.due("MAX", x.set(0, 0, MAX), MAX);
        Due.due("MIN", x.set(0, 0, MIN), MIN);
        Due.due("-1", x.set(0, 0, -1), -1);
        Due.due("0", x.set(0, 0, 0), 0);
        FenceYards y = moves();
        y.row(0, 0, 2);
        y.set(0, 0, 257);
        y.set(0, 1, -257);
        Due.due("257 is kept as 1", item(y, 0, 0), 1);
        Due.due("-257 is kept as -1", item(y, 0, 1), -1);
    }

    // BAD: ROW; NULL; PLACE.
    private static void setRefused() {
        Stays.refused("set(-1, 0, 1)", RICH, x -> x.set(-1, 0, 1), Due.BAD);
        Stays.refused("set(8, 0, 1)", RICH, x -> x.set(8, 0, 1), Due.BAD);
        Stays.refused("set(MIN, 0, 1)", RICH, x -> x.set(MIN, 0, 1), Due.BAD);
        Stays.refused("set(MAX, 0, 1)", RICH, x -> x.set(MAX, 0, 1), Due.BAD);
        Stays.refused("set(4, 0, 1)", RICH, x -> x.set(4, 0, 1), Due.NULL);
        Stays.refused("set(0, 0, 1) of a new object", FRESH, x -> x.set(0, 0, 1), Due.NULL);
        Stays.refused("set(0, -1, 1)", RICH, x -> x.set(0, -1, 1), Due.PLACE);
        Stays.refused("set(0, 12, 1)", RICH, x -> x.set(0, 12, 1), Due.PLACE);
        Stays.refused("set(1, 5, 1)", RICH, x -> x.set(1, 5, 1), Due.PLACE);
        Stays.refused("set(2, 40, 1)", RICH, x -> x.set(2, 40, 1), Due.PLACE);
        Stays.refused("set(3, 0, 1): no ITEMS", RICH, x -> x.set(3, 0, 1), Due.PLACE);
        Stays.refused("set(0, MIN, 1)", RICH, x -> x.set(0, MIN, 1), Due.PLACE);
        Stays.refused("set(0, MAX, 1)", RICH, x -> x.set(0, MAX, 1), Due.PLACE);
    }

    // FINDINGS, of several the first in time: NULL; PLACE
    private static void nullIsAheadOfPlaceInSet() {
        Stays.refused("set(4, -1, 1)", RICH, x -> x.set(4, -1, 1), Due.NULL);
        Stays.refused("set(7, MAX, 1)", RICH, x -> x.set(7, MAX, 1), Due.NULL);
        Stays.refused("set(8, -1, 1)", RICH, x -> x.set(8, -1, 1), Due.BAD);
    }

    // n ITEMS of a from i on come to b from j on
    private static void copyUpToBothEnds() {
        FenceYards x = moves();
        x.row(0, 1, 5);
        x.row(1, 1, 3);
        for (int i = 0; i < 5; i++) {
            x.set(0, i, 1);
        }
        x.set(1, 0, -1);
        Due.due("up to the end of both", x.copy(0, 3, 1, 1, 2), 2);
        Due.due("ITEM 0 stays", item(x, 1, 0), -1);
        Due.due("ITEM 1 came", item(x, 1, 1), 1);
        Due.due("ITEM 2 came", item(x, 1, 2), 1);
        x.row(1, 1, 3);
        Due.due("from the beginning of both", x.copy(0, 0, 1, 0, 2), 2);
        Due.due("ITEM 0 came", item(x, 1, 0), 1);
        Due.due("ITEM 1 came", item(x, 1, 1), 1);
        Due.due("ITEM 2 stays", item(x, 1, 2), 0);
        for (int i = 0; i < 5; i++) {
            Due.due("what was copied stays", item(x, 0, i), 1);
        }
    }

    // n ITEMS of a from i on: none, and PLACE beyond an end all the same
    private static void copyOfNoItems() {
        FenceYards x = new FenceYards();
        x.row(0, 0, 0);
        x.row(1, 0, 4);
        x.row(2, 0, 0);
        Due.due("none of none", x.copy(0, 0, 2, 0, 0), 0);
        Due.due("status()", x.status(), 0);
        Due.due("none, at the ends", x.copy(0, 0, 1, 4, 0), 0);
        Due.due("none, from the end on", x.copy(1, 4, 0, 0, 0), 0);
        Due.due("none behind the end of a", x.copy(1, 5, 0, 0, 0), Due.PLACE);
        Due.due("none behind the end of b", x.copy(0, 0, 1, 5, 0), Due.PLACE);
        Due.due("one of none", x.copy(0, 0, 1, 0, 1), Due.PLACE);
        Due.due("one to none", x.copy(1, 0, 0, 0, 1), Due.PLACE);
    }

    // as they were ahead
    private static void copyAsTheyWereAhead() {
        FenceYards x = moves();
        row(x, 0, 1, -1, 0, 1);
        Due.due("to the right", x.copy(0, 0, 0, 1, 3), 3);
        items(x, 0, 1, 1, -1, 0);
        row(x, 0, 1, -1, 0, 1);
        Due.due("to the left", x.copy(0, 1, 0, 0, 3), 3);
        items(x, 0, -1, 0, 1, 1);
        row(x, 0, 1, -1, 0, 1);
        Due.due("onto itself", x.copy(0, 0, 0, 0, 4), 4);
        items(x, 0, 1, -1, 0, 1);
    }

    private static void row(FenceYards x, int row, int... items) {
        x.row(row, 2, items.length);
        for (int i = 0; i < items.length; i++) {
            x.set(row, i, items[i]);
        }
    }

    private static void items(FenceYards x, int row, int... want) {
        for (int i = 0; i < want.length; i++) {
            Due.due("ITEM " + i, item(x, row, i), want[i]);
        }
    }

    // 0 to 40 ITEMS, all of them
    private static void copyOfTheWholeRow() {
        FenceYards x = moves();
        x.row(0, 0, 40);
        x.set(0, 39, -1);
        x.set(0, 0, 1);
        x.row(1, 0, 40);
        Due.due("all 40", x.copy(0, 0, 1, 0, 40), 40);
        Due.due("the first", item(x, 1, 0), 1);
        Due.due("the last", item(x, 1, 39), -1);
        Due.due("the one ahead of it", item(x, 1, 38), 0);
        Due.due("41", x.copy(0, 0, 1, 0, 41), Due.PLACE);
        Due.due("40 from 1 on", x.copy(0, 1, 1, 0, 40), Due.PLACE);
        Due.due("40 to 1 on", x.copy(0, 0, 1, 1, 40), Due.PLACE);
        Due.due("39 from 1 on to 1 on", x.copy(0, 1, 1, 1, 39), 39);
    }

    // BAD: ROWS; NULL; STORE
    private static void copyRefused() {
        int[] no = {-1, 8, MIN, MAX};
        for (int row : no) {
            Stays.refused("copy of " + row, RICH, x -> x.copy(row, 0, 0, 0, 1), Due.BAD);
            Stays.refused("copy to " + row, RICH, x -> x.copy(0, 0, row, 0, 1), Due.BAD);
        }
        Stays.refused("copy(4, 0, 0, 0, 1)", RICH, x -> x.copy(4, 0, 0, 0, 1), Due.NULL);
        Stays.refused("copy(0, 0, 4, 0, 1)", RICH, x -> x.copy(0, 0, 4, 0, 1), Due.NULL);
        Stays.refused("copy(4, 0, 4, 0, 0)", RICH, x -> x.copy(4, 0, 4, 0, 0), Due.NULL);
        Stays.refused("bytes to shorts", RICH, x -> x.copy(0, 0, 1, 0, 1), Due.STORE);
        Stays.refused("shorts to bytes", RICH, x -> x.copy(1, 0, 0, 0, 1), Due.STORE);
        Stays.refused("shorts to ints", RICH, x -> x.copy(1, 0, 2, 0, 1), Due.STORE);
        Stays.refused("ints to bytes", RICH, x -> x.copy(2, 0, 0, 0, 0), Due.STORE);
    }

    // PLACE (i, j, n below 0, or beyond an end)
    private static void copyBeyondAnEnd() {
        Stays.refused("i -1", RICH, x -> x.copy(0, -1, 0, 0, 1), Due.PLACE);
        Stays.refused("i MIN", RICH, x -> x.copy(0, MIN, 0, 0, 1), Due.PLACE);
        Stays.refused("j -1", RICH, x -> x.copy(0, 0, 0, -1, 1), Due.PLACE);
        Stays.refused("j MIN", RICH, x -> x.copy(0, 0, 0, MIN, 1), Due.PLACE);
        Stays.refused("n -1", RICH, x -> x.copy(0, 1, 0, 0, -1), Due.PLACE);
        Stays.refused("n MIN", RICH, x -> x.copy(0, 1, 0, 0, MIN), Due.PLACE);
        Stays.refused("i 12, n 1", RICH, x -> x.copy(0, 12, 0, 0, 1), Due.PLACE);
        Stays.refused("i 13, n 0", RICH, x -> x.copy(0, 13, 0, 0, 0), Due.PLACE);
        Stays.refused("j 12, n 1", RICH, x -> x.copy(0, 0, 0, 12, 1), Due.PLACE);
        Stays.refused("j 13, n 0", RICH, x -> x.copy(0, 0, 0, 13, 0), Due.PLACE);
        Stays.refused("i 11, n 2", RICH, x -> x.copy(0, 11, 0, 0, 2), Due.PLACE);
        Stays.refused("j 11, n 2", RICH, x -> x.copy(0, 0, 0, 11, 2), Due.PLACE);
        Stays.refused("n 13", RICH, x -> x.copy(0, 0, 0, 0, 13), Due.PLACE);
        Stays.refused("i MAX", RICH, x -> x.copy(0, MAX, 0, 0, 1), Due.PLACE);
        Stays.refused("j MAX", RICH, x -> x.copy(0, 0, 0, MAX, 1), Due.PLACE);
        Stays.refused("n MAX", RICH, x -> x.copy(0, 0, 0, 0, MAX), Due.PLACE);
        Stays.refused("i 1, n MAX", RICH, x -> x.copy(0, 1, 0, 0, MAX), Due.PLACE);
        Stays.refused("i, j, n MAX", RICH, x -> x.copy(0, MAX, 0, MAX, MAX), Due.PLACE);
        Stays.refused("i MIN, n MIN", RICH, x -> x.copy(0, MIN, 0, 0, MIN), Due.PLACE);
        Stays.refused("a row of none", RICH, x -> x.copy(3, 0, 0, 0, 1), Due.PLACE);
        Stays.refused("to a row of none", RICH, x -> x.copy(0, 0, 3, 0, 1), Due.PLACE);
    }

    // the first of these that fits; FINDINGS, of several the first in time
    private static void ordersOfCopy() {
        Stays.refused("BAD, NULL", RICH, x -> x.copy(8, 0, 4, 0, 1), Due.BAD);
        Stays.refused("NULL, BAD", RICH, x -> x.copy(4, 0, 8, 0, 1), Due.BAD);
        Stays.refused("BAD, PLACE", RICH, x -> x.copy(0, -1, -1, 0, 1), Due.BAD);
        Stays.refused("NULL, PLACE", RICH, x -> x.copy(4, 0, 0, 12, 1), Due.NULL);
        Stays.refused("PLACE, NULL", RICH, x -> x.copy(0, 12, 4, 0, 1), Due.NULL);
        Stays.refused("STORE, i -1", RICH, x -> x.copy(0, -1, 1, 0, 1), Due.STORE);
        Stays.refused("STORE, j beyond", RICH, x -> x.copy(0, 0, 1, 9, 1), Due.STORE);
        Stays.refused("STORE, n -1", RICH, x -> x.copy(0, 0, 2, 0, -1), Due.STORE);
    }

    /** A missing ROW has no LANE: neither that which it had, nor that of bytes. */
    private static void copyOfALaneThatWas() {
        FenceYards x = new FenceYards();
        x.row(0, 0, 2);
        x.row(1, 2, 2);
        x.drop(1);
        Due.due("to what was of ints", x.copy(0, 0, 1, 0, 1), Due.NULL);
        Due.due("of what was of ints", x.copy(1, 0, 0, 0, 1), Due.NULL);
        x.row(1, 0, 2);
        Due.due("now it is of bytes", x.copy(0, 0, 1, 0, 1), 1);
    }

    // BAD; NULL.
    private static void dropRefused() {
        Stays.refused("drop(-1)", RICH, x -> x.drop(-1), Due.BAD);
        Stays.refused("drop(8)", RICH, x -> x.drop(8), Due.BAD);
        Stays.refused("drop(MIN)", RICH, x -> x.drop(MIN), Due.BAD);
        Stays.refused("drop(MAX)", RICH, x -> x.drop(MAX), Due.BAD);
        Stays.refused("drop(4)", RICH, x -> x.drop(4), Due.NULL);
        Stays.refused("drop(0) of a new object", FRESH, x -> x.drop(0), Due.NULL);
        Stays.refused("drop(7) of a new object", FRESH, x -> x.drop(7), Due.NULL);
    }

    // A ROW is missing from now on: how many ITEMS it had
    private static void dropAnswersHowManyItHad() {
        FenceYards x = Past.rich();
        Due.due("drop(3)", x.drop(3), 0);
        Due.due("drop(2)", x.drop(2), 40);
        Due.due("drop(0)", x.drop(0), 12);
        Due.due("count(0)", x.count(0), 1);
        Due.due("drop(0) again", x.drop(0), Due.NULL);
        Due.due("set of it", x.set(0, 0, 0), Due.NULL);
        Due.due("best of it", x.best(0, 1, 0), Due.NULL);
        Due.due("row anew", x.row(0, 0, 3), 3);
        Due.due("best of it: all are 0 again", x.best(0, 3, -2) == Due.BAD ? 1 : 0, 0);
        Due.due("drop(0)", x.drop(0), 3);
    }
}
