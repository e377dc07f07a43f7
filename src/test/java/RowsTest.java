/** Promises 2 (row), 3 (set), 4 (copy), 5 (drop), and what status() (27) tells of them. */
public final class RowsTest {
    private RowsTest() {
    }

    public static void main(String[] args) {
        makingRows();
        settingItems();
        copyingItems();
        copyingWithinOneRow();
        findingsOfCopy();
        droppingRows();
        statusOfRows();
        Due.end();
    }

    private static void makingRows() {
        FenceYards x = new FenceYards();
        Due.due("row(0, 0, 40)", x.row(0, 0, 40), 40);
        Due.due("row(7, 2, 0)", x.row(7, 2, 0), 0);
        Due.due("row(3, 1, 5)", x.row(3, 1, 5), 5);
        Due.due("count(0)", x.count(0), 3);
        Due.due("row(8, 0, 1)", x.row(8, 0, 1), Due.BAD);
        Due.due("row(-1, 0, 1)", x.row(-1, 0, 1), Due.BAD);
        Due.due("row(0, 3, 1)", x.row(0, 3, 1), Due.BAD);
        Due.due("row(0, -1, 1)", x.row(0, -1, 1), Due.BAD);
        Due.due("row(0, 0, 41)", x.row(0, 0, 41), Due.BAD);
        Due.due("row(0, 0, MAX)", x.row(0, 0, Integer.MAX_VALUE), Due.BAD);
        Due.due("row(0, 3, -1): BAD is ahead of SIZE", x.row(0, 3, -1), Due.BAD);
        Due.due("row(0, 0, MIN)", x.row(0, 0, Integer.MIN_VALUE), Due.SIZE);
        Due.due("a found row stays", x.set(0, 39, 7), 7);
        Due.due("row(0, 2, 2)", x.row(0, 2, 2), 2);
        Due.due("the old row is gone", x.set(0, 2, 7), Due.PLACE);
        Due.due("count(0)", x.count(0), 3);
    }

    private static void settingItems() {
        FenceYards x = new FenceYards();
        x.row(0, 0, 3);
        x.row(1, 1, 3);
        x.row(2, 2, 3);
        Due.due("a byte 127", x.set(0, 0, 127), 127);
        Due.due("a byte 128", x.set(0, 0, 128), -128);
        Due.due("a byte 511", x.set(0, 0, 511), -1);
        Due.due("a byte -129", x.set(0, 0, -129), 127);
        Due.due("a short 32768", x.set(1, 1, 32768), -32768);
        Due.due("a short 65535", x.set(1, 1, 65535), -1);
        Due.due("a short 128", x.set(1, 1, 128), 128);
        Due.due("an int MIN", x.set(2, 2, Integer.MIN_VALUE), Integer.MIN_VALUE);
        Due.due("an int 65536", x.set(2, 2, 65536), 65536);
        Due.due("set(8, 0, 0)", x.set(8, 0, 0), Due.BAD);
        Due.due("set(-1, 0, 0)", x.set(-1, 0, 0), Due.BAD);
        Due.due("set(3, 0, 0)", x.set(3, 0, 0), Due.NULL);
        Due.due("set(3, 9, 0): NULL is ahead of PLACE", x.set(3, 9, 0), Due.NULL);
        Due.due("set(0, 3, 0)", x.set(0, 3, 0), Due.PLACE);
        Due.due("set(0, -1, 0)", x.set(0, -1, 0), Due.PLACE);
    }

    /** No call reads an ITEM, but best() takes those of -1, 0, 1 alone: by that it is asked. */
    private static boolean areMoves(FenceYards x, int row, int n) {
        return x.best(row, n, -2) != Due.BAD;
    }

    private static void copyingItems() {
        FenceYards x = Due.groundOf("fence 1 1;");
        x.row(0, 2, 4);
        x.row(1, 2, 6);
        x.set(0, 1, 5);
        Due.due("copy(0, 1, 1, 4, 2)", x.copy(0, 1, 1, 4, 2), 2);
        Due.holds("ITEMS 0 to 3 are as they were", areMoves(x, 1, 4));
        Due.holds("ITEM 4 came", !areMoves(x, 1, 5));
        x.set(1, 4, 0);
        Due.holds("ITEM 5 came", areMoves(x, 1, 6));
        Due.holds("what is copied stays", !areMoves(x, 0, 2));
        Due.due("copy(0, 4, 1, 6, 0)", x.copy(0, 4, 1, 6, 0), 0);
        x.row(0, 2, 4);
        Due.holds("a new row has 0s", areMoves(x, 0, 4));
    }

    private static void copyingWithinOneRow() {
        FenceYards x = Due.groundOf("fence 1 1;");
        x.row(0, 1, 6);
        x.set(0, 0, 9);
        Due.due("copy(0, 0, 0, 1, 5)", x.copy(0, 0, 0, 1, 5), 5);
        x.set(0, 0, 0);
        x.set(0, 1, 0);
        Due.holds("as they were ahead, to the right", areMoves(x, 0, 6));
        x.set(0, 5, 9);
        Due.due("copy(0, 1, 0, 0, 5)", x.copy(0, 1, 0, 0, 5), 5);
        x.set(0, 4, 0);
        x.set(0, 5, 0);
        Due.holds("as they were ahead, to the left", areMoves(x, 0, 6));
    }

    private static void findingsOfCopy() {
        FenceYards x = new FenceYards();
        x.row(0, 0, 4);
        x.row(1, 0, 2);
        x.row(2, 1, 4);
        int max = Integer.MAX_VALUE;
        Due.due("copy(8, 0, 0, 0, 0)", x.copy(8, 0, 0, 0, 0), Due.BAD);
        Due.due("copy(0, 0, -1, 0, 0)", x.copy(0, 0, -1, 0, 0), Due.BAD);
        Due.due("copy(3, 0, 8, 0, 0): BAD is ahead of NULL", x.copy(3, 0, 8, 0, 0), Due.BAD);
        Due.due("copy(3, 0, 0, 0, 0)", x.copy(3, 0, 0, 0, 0), Due.NULL);
        Due.due("copy(0, 0, 3, 0, -1)", x.copy(0, 0, 3, 0, -1), Due.NULL);
        Due.due("copy(0, 0, 2, 0, 0)", x.copy(0, 0, 2, 0, 0), Due.STORE);
        Due.due("copy(0, -1, 2, 0, 9): STORE is ahead", x.copy(0, -1, 2, 0, 9), Due.STORE);
        Due.due("copy(0, -1, 1, 0, 1)", x.copy(0, -1, 1, 0, 1), Due.PLACE);
        Due.due("copy(0, 0, 1, -1, 1)", x.copy(0, 0, 1, -1, 1), Due.PLACE);
        Due.due("copy(0, 0, 1, 0, -1)", x.copy(0, 0, 1, 0, -1), Due.PLACE);
        Due.due("copy(0, 0, 1, 0, 3)", x.copy(0, 0, 1, 0, 3), Due.PLACE);
        Due.due("copy(1, 0, 0, 0, 3)", x.copy(1, 0, 0, 0, 3), Due.PLACE);
        Due.due("copy(0, 3, 1, 0, 2)", x.copy(0, 3, 1, 0, 2), Due.PLACE);
        Due.due("copy(0, 0, 1, 1, 2)", x.copy(0, 0, 1, 1, 2), Due.PLACE);
        Due.due("copy(0, 5, 1, 0, 0)", x.copy(0, 5, 1, 0, 0), Due.PLACE);
        Due.due("copy(0, MAX, 1, 0, MAX)", x.copy(0, max, 1, 0, max), Due.PLACE);
        Due.due("copy(0, 0, 1, MAX, 1)", x.copy(0, 0, 1, max, 1), Due.PLACE);
        Due.due("copy(0, 1, 1, 1, MAX)", x.copy(0, 1, 1, 1, max), Due.PLACE);
    }

    private static void droppingRows() {
        FenceYards x = new FenceYards();
        x.row(5, 1, 17);
        x.row(6, 1, 0);
        Due.due("drop(5)", x.drop(5), 17);
        Due.due("drop(5) again", x.drop(5), Due.NULL);
        Due.due("count(0)", x.count(0), 1);
        Due.due("drop(6)", x.drop(6), 0);
        Due.due("drop(8)", x.drop(8), Due.BAD);
        Due.due("drop(-1)", x.drop(-1), Due.BAD);
        Due.due("set(5, 0, 0)", x.set(5, 0, 0), Due.NULL);
        Due.due("count(0)", x.count(0), 0);
    }

    private static void statusOfRows() {
        FenceYards x = new FenceYards();
        Due.due("status() of a new object", x.status(), 0);
        x.drop(0);
        Due.due("NULL", x.status(), 1);
        x.row(0, 9, 1);
        Due.due("BAD leaves it", x.status(), 1);
        x.row(0, 0, 2);
        Due.due("none", x.status(), 0);
        x.set(0, 2, 0);
        Due.due("PLACE", x.status(), 2);
        x.feed(0, 1);
        x.count(0);
        x.trace(0);
        Due.due("a call without a ROW leaves it", x.status(), 2);
        x.best(0, 1, 0);
        Due.due("STATE leaves it", x.status(), 2);
        x.row(1, 0, -5);
        Due.due("SIZE", x.status(), 4);
        x.row(1, 2, 2);
        x.copy(0, 0, 1, 0, 1);
        Due.due("STORE", x.status(), 5);
        x.set(9, 0, 0);
        x.copy(9, 0, 0, 0, 0);
        x.drop(9);
        Due.due("BAD of set, copy, drop leaves it", x.status(), 5);
        x.copy(0, 0, 0, 0, 1);
        Due.due("none", x.status(), 0);
        x.set(0, -1, 0);
        x.set(0, 1, 0);
        Due.due("none after set", x.status(), 0);
        x.set(0, -1, 0);
        x.drop(0);
        Due.due("none after drop", x.status(), 0);
    }
}
