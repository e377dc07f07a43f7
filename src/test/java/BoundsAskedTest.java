import java.util.function.Supplier;

/** The boundary cases of promises 22 (kind) to 27 (status). */
public final class BoundsAskedTest {
    private static final int MIN = Integer.MIN_VALUE;
    private static final int MAX = Integer.MAX_VALUE;
    private static final Supplier<FenceYards> RICH = Past::rich;
    private static final Supplier<FenceYards> FRESH = Past::fresh;
    private static final int[] NO_STRIPS = {-1, 6, 11, 12, MIN, MAX};

    /** By KIND: those that it is, as bits. */
    private static final int[] IS = {1, 3, 7, 11, 17, 49};

    private BoundsAskedTest() {
    }

    public static void main(String[] args) {
        kindRefused();
        kindsOfTwelve();
        asRefused();
        asEachKind();
        asTheStripsNumber();
        badIsAheadOfKind();
        askRefused();
        leastAndMostOfSize();
        leastAndMostOfMark();
        theTraceIsEmptyAheadOfIt();
        theTraceStays();
        traceNone();
        traceOfEachAsk();
        countRefused();
        countRows();
        countDays();
        countEnds();
        countPondsStripsBytes();
        statusAtFirst();
        statusOfEachFinding();
        statusOfCallsWithoutOne();
        statusStaysAtRefusals();
        statusStaysAtOtherCalls();
        Due.end();
    }

    // The KIND of a STRIP that was told (1 to 5). BAD.
    private static void kindRefused() {
        for (int strip : NO_STRIPS) {
            Stays.refused("kind(" + strip + ")", RICH, x -> x.kind(strip), Due.BAD);
        }
        Stays.refused("kind(0)", FRESH, x -> x.kind(0), Due.BAD);
        Due.due("none was told", Due.groundOf("fence 1 1;").kind(0), Due.BAD);
    }

    // The KIND of a STRIP that was told (12 at most)
    private static void kindsOfTwelve() {
        FenceYards x = Due.groundOf("fence 1 1;" + "strip grass 1 1;".repeat(11) + "strip rye 1 1;");
        Due.due("the first", x.kind(0), 4);
        Due.due("the last but one", x.kind(10), 4);
        Due.due("the last", x.kind(11), 3);
        Due.due("a thirteenth", x.kind(12), Due.BAD);
    }

    // A STRIP is taken as one of a KIND (0 .. 5). BAD; KIND: it is no such one.
    private static void asRefused() {
        for (int strip : NO_STRIPS) {
            Stays.refused("as(" + strip + ", 0)", RICH, x -> x.as(strip, 0), Due.BAD);
        }
        int[] kinds = {-1, 6, MIN, MAX};
        for (int kind : kinds) {
            Stays.refused("as(0, " + kind + ")", RICH, x -> x.as(0, kind), Due.BAD);
        }
        Stays.refused("as(0, 0)", FRESH, x -> x.as(0, 0), Due.BAD);
    }

    // KIND: it is no such one; 2 APPLE, a BEAN one; 3 RYE, a BEAN one; 5 CLOVER, a GRASS one
    private static void asEachKind() {
        String[] sorts = {"bean", "apple", "rye", "grass", "clover"};
        for (int sort = 0; sort < 5; sort++) {
            String text = "fence 1 1;strip rye 1 1;strip " + sorts[sort] + " 1 1;";
            for (int kind = 0; kind <= 5; kind++) {
                int k = kind;
                if ((IS[sort + 1] >> kind & 1) == 1) {
                    FenceYards x = Due.groundOf(text);
                    x.drop(0);
                    Due.due(sorts[sort] + " as " + kind, x.as(1, kind), 1);
                    Due.due("status()", x.status(), 0);
                } else {
                    Stays.refused(sorts[sort] + " as " + kind, () -> Due.groundOf(text),
                        x -> x.as(1, k), Due.KIND);
                }
            }
        }
    }

    // the STRIP's number
    private static void asTheStripsNumber() {
        FenceYards x = Due.groundOf("fence 1 1;" + "strip apple 1 1;".repeat(12));
        for (int strip = 0; strip < 12; strip++) {
            Due.due("as(" + strip + ", 0)", x.as(strip, 0), strip);
            Due.due("as(" + strip + ", 2)", x.as(strip, 2), strip);
            Due.due("as(" + strip + ", 3)", x.as(strip, 3), Due.KIND);
        }
    }

    // the first of these that fits: BAD .., then FINDINGS
    private static void badIsAheadOfKind() {
        Stays.refused("as(6, 5)", RICH, x -> x.as(6, 5), Due.BAD);
        Stays.refused("as(-1, 5)", RICH, x -> x.as(-1, 5), Due.BAD);
        Stays.refused("as(0, 6)", RICH, x -> x.as(0, 6), Due.BAD);
    }

    // An ASK (0, 1) of a STRIP. BAD.
    private static void askRefused() {
        for (int strip : NO_STRIPS) {
            Stays.refused("ask(" + strip + ", 0)", RICH, x -> x.ask(strip, 0), Due.BAD);
            Stays.refused("ask(" + strip + ", 1)", RICH, x -> x.ask(strip, 1), Due.BAD);
        }
        int[] whats = {-1, 2, MIN, MAX};
        for (int what : whats) {
            Stays.refused("ask(0, " + what + ")", RICH, x -> x.ask(0, what), Due.BAD);
        }
        Stays.refused("ask(0, 0)", FRESH, x -> x.ask(0, 0), Due.BAD);
        Stays.refused("ask(0, 1)", FRESH, x -> x.ask(0, 1), Due.BAD);
    }

    private static FenceYards edges(String sort) {
        return Due.groundOf("fence 1 1;strip " + sort + " 0 0;" + "strip rye 1 1;".repeat(10)
            + "strip " + sort + " 99 11;");
    }

    private static void leastAndMost(String sort, int what, int least, int most) {
        FenceYards x = edges(sort);
        Due.due("ask(0, " + what + ") of " + sort, x.ask(0, what), least);
        Due.due("ask(11, " + what + ") of " + sort, x.ask(11, what), most);
    }

    // 0 SIZE, of STRIP 0 with WORTH 0, RIPE 0, and of STRIP 11 with 99, 11
    private static void leastAndMostOfSize() {
        leastAndMost("bean", 0, 0, 99 + 11 + 11);
        leastAndMost("apple", 0, 0, -(99 + 2 * (11 + 11)));
        leastAndMost("rye", 0, -1000, 99 + 11 + 11 - 1000);
        leastAndMost("grass", 0, -100, -1);
        leastAndMost("clover", 0, -200, -2);
    }

    // 1 MARK
    private static void leastAndMostOfMark() {
        leastAndMost("bean", 1, 0, 22);
        leastAndMost("apple", 1, 0, 44);
        leastAndMost("rye", 1, -1000, -978);
        leastAndMost("grass", 1, 100, 12);
        leastAndMost("clover", 1, 200, 13);
    }

    private static void traceIs(String name, FenceYards x, int... bodies) {
        for (int i = 0; i < 16; i++) {
            int due = i < bodies.length ? bodies[i] : Due.NONE;
            Due.due("trace(" + i + ") " + name, x.trace(i), due);
        }
    }

    // THE TRACE is empty ahead of it
    private static void theTraceIsEmptyAheadOfIt() {
        FenceYards x = Past.firstDay();
        traceIs("at first", x);
        x.ask(1, 0);
        traceIs("of an apple's SIZE", x, 12, 11, 10, 24, 21, 20);
        x.ask(3, 0);
        traceIs("of grass's SIZE", x, 13, 10);
        x.ask(3, 0);
        traceIs("asked once more", x, 13, 10);
        x.ask(4, 1);
        traceIs("of a bean's MARK", x, 21, 20);
    }

    // where that is refused it stays
    private static void theTraceStays() {
        FenceYards x = Past.firstDay();
        x.ask(2, 1);
        x.ask(6, 0);
        x.ask(-1, 1);
        x.ask(0, 2);
        x.ask(MAX, MIN);
        traceIs("behind refused ASKS", x, 23, 20, 14, 13, 10);
        x.kind(1);
        x.as(1, 2);
        x.strip(1, 2);
        x.day(0, 0);
        x.undo();
        Due.read(x, "fence 1 1;");
        traceIs("behind other calls", x, 23, 20, 14, 13, 10);
    }

    // Number i of THE TRACE; NONE.
    private static void traceNone() {
        FenceYards x = Past.rich();
        int[] no = {-1, 6, 7, 15, 16, 17, MIN, MAX};
        for (int i : no) {
            Due.due("trace(" + i + ")", x.trace(i), Due.NONE);
            Due.due("trace(" + i + ") of a new object", new FenceYards().trace(i), Due.NONE);
        }
        Due.due("the first", x.trace(0), 12);
        Due.due("the last", x.trace(5), 20);
        Due.due("status() stays", x.status(), 2);
    }

    /** At most six BODIES begin in one ASK, so THE TRACE never comes to its 16. */
    private static void traceOfEachAsk() {
        FenceYards x = Due.groundOf("fence 1 1;strip bean 1 1;strip apple 1 1;strip rye 1 1;"
            + "strip grass 1 1;strip clover 1 1;");
        int[][] sizes = {{11, 10, 21, 20}, {12, 11, 10, 24, 21, 20}, {11, 10, 22, 21, 20},
            {13, 10}, {14, 13, 10}};
        int[][] marks = {{21, 20}, {24, 21, 20}, {22, 21, 20}, {23, 20, 13, 10},
            {23, 20, 14, 13, 10}};
        for (int strip = 0; strip < 5; strip++) {
            x.ask(strip, 0);
            traceIs("of SIZE of " + strip, x, sizes[strip]);
            x.ask(strip, 1);
            traceIs("of MARK of " + strip, x, marks[strip]);
        }
    }

    // BAD.
    private static void countRefused() {
        int[] no = {-1, 7, MIN, MAX};
        for (int what : no) {
            Stays.refused("count(" + what + ")", RICH, x -> x.count(what), Due.BAD);
            Stays.refused("count(" + what + ")", FRESH, x -> x.count(what), Due.BAD);
        }
    }

    // 0 ROWS
    private static void countRows() {
        FenceYards x = new FenceYards();
        for (int row = 0; row < 8; row++) {
            x.row(row, 0, row == 0 ? 0 : 40);
            Due.due("ROWS", x.count(0), row + 1);
        }
        x.row(3, 1, 1);
        Due.due("one in place of another", x.count(0), 8);
        x.drop(3);
        Due.due("one less", x.count(0), 7);
        x.drop(3);
        Due.due("it was missing", x.count(0), 7);
    }

    // 2 the DAY (12: none is left)
    private static void countDays() {
        FenceYards x = Due.groundOf("fence 1 1;");
        for (int d = 0; d < 12; d++) {
            Due.due("the DAY", x.count(2), d);
            x.day(0, 0);
        }
        Due.due("none is left", x.count(2), 12);
        x.day(0, 0);
        Due.due("none is left", x.count(2), 12);
    }

    // 3 where A is, 4 where B is
    private static void countEnds() {
        FenceYards x = Due.groundOf("fence 0 12;");
        Due.due("A", x.count(3), 0);
        Due.due("B", x.count(4), 12);
        x.day(-1, 0);
        x.day(0, 1);
        Due.due("A", x.count(3), 0);
        Due.due("B", x.count(4), 12);
        x.day(1, -1);
        Due.due("A", x.count(3), 1);
        Due.due("B", x.count(4), 11);
    }

    // 1 STRIPS, 5 ponds told, 6 bytes on the tape
    private static void countPondsStripsBytes() {
        for (int ponds = 0; ponds <= 6; ponds++) {
            FenceYards x = Due.groundOf("fence 0 12;" + "pond 0 5;".repeat(ponds)
                + "strip rye 1 1;".repeat(2 * ponds));
            Due.due("ponds told, like ones too", x.count(5), ponds);
            Due.due("STRIPS", x.count(1), 2 * ponds);
            Due.due("bytes", x.count(6), 0);
        }
        FenceYards x = new FenceYards();
        for (int bytes = 1; bytes <= 400; bytes++) {
            Due.due("feed", x.feed(0L, 1), bytes);
        }
        Due.due("bytes", x.count(6), 400);
        x.feed(0L, 1);
        Due.due("bytes", x.count(6), 400);
    }

    // 0: it had none, or there was none
    private static void statusAtFirst() {
        FenceYards x = new FenceYards();
        Due.due("status() at first", x.status(), 0);
        x.row(8, 0, 0);
        x.best(0, 1, 0);
        x.as(0, 0);
        x.feed(0L, 9);
        Due.due("only refused ones", x.status(), 0);
    }

    // the number of its FINDING
    private static void statusOfEachFinding() {
        FenceYards x = Past.firstDay();
        x.row(0, 0, 2);
        x.row(1, 1, 2);
        found(x, "set, NULL", y -> y.set(2, 0, 0), 1);
        found(x, "set, PLACE", y -> y.set(0, 2, 0), 2);
        found(x, "copy, NULL", y -> y.copy(0, 0, 2, 0, 1), 1);
        found(x, "copy, STORE", y -> y.copy(0, 0, 1, 0, 1), 5);
        found(x, "copy, PLACE", y -> y.copy(0, 0, 0, 2, 1), 2);
        found(x, "drop, NULL", y -> y.drop(2), 1);
        found(x, "row, SIZE", y -> y.row(0, 0, -1), 4);
        found(x, "best, NULL", y -> y.best(2, 1, 0), 1);
        found(x, "best, PLACE", y -> y.best(0, 3, 0), 2);
        found(x, "as, KIND", y -> y.as(0, 5), 3);
    }

    private static void found(FenceYards x, String name, Stays.Call call, int number) {
        Due.due(name, call.on(x), -1000010 - number);
        Due.due("status() of " + name, x.status(), number);
        Due.due("status() again", x.status(), number);
    }

    /** Each of the calls with a ROW, and as(), brings it to 0. */
    private static void statusOfCallsWithoutOne() {
        clears("row", x -> x.row(5, 0, 0));
        clears("set", x -> x.set(0, 0, 0));
        clears("copy", x -> x.copy(0, 0, 0, 1, 1));
        clears("copy of none", x -> x.copy(0, 0, 0, 0, 0));
        clears("drop", x -> x.drop(0));
        clears("best", x -> x.best(0, 12, -2));
        clears("best, NONE", x -> x.best(0, 12, 12));
        clears("as", x -> x.as(0, 1));
    }

    private static void clears(String name, Stays.Call call) {
        FenceYards x = Past.rich();
        Due.due("status() ahead of " + name, x.status(), 2);
        call.on(x);
        Due.due("status() behind " + name, x.status(), 0);
    }

    // that was not BAD, STATE, FULL
    private static void statusStaysAtRefusals() {
        FenceYards x = Past.rich();
        x.row(-1, 0, 0);
        x.row(0, 3, -1);
        x.row(0, 0, 41);
        x.set(8, 0, 0);
        x.copy(0, 0, 8, 0, 0);
        x.drop(-1);
        x.best(8, 1, 0);
        x.best(0, 13, 0);
        x.best(0, 1, -3);
        x.best(1, 5, 0);
        x.as(6, 0);
        x.as(0, 6);
        Due.due("BAD", x.status(), 2);
        FenceYards y = new FenceYards();
        y.drop(0);
        y.best(0, 1, 0);
        y.as(0, 0);
        Due.due("STATE", y.status(), 1);
        FenceYards z = Past.richWithFullTape();
        z.feed(0L, 1);
        Due.due("FULL", z.status(), 2);
    }

    // Of the latest call with a ROW, or as()
    private static void statusStaysAtOtherCalls() {
        FenceYards x = Past.richWithTape();
        x.feed(0L, 1);
        x.ground();
        x.fault();
        Due.read(x, Past.ALL_SORTS);
        x.day(0, 0);
        x.undo();
        x.undo();
        x.strip(0, 0);
        x.crop(0, 0);
        x.reaped(0, 0);
        x.game(1, 0);
        x.treaty(1, 0);
        x.sow(0, 0, 0, 0, 1, 0);
        x.unseen(0, 1, 0);
        x.sure(1);
        x.image(1);
        x.restore(1);
        x.kind(0);
        x.ask(0, 0);
        x.trace(0);
        x.count(0);
        Due.due("status()", x.status(), 2);
    }
}
