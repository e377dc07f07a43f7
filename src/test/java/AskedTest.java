/** Promises 22 (kind), 23 (as), 24 (ask), 25 (trace), and what status() (27) tells of as(). */
public final class AskedTest {
    private static final String FIVE = "fence 1 1;strip bean 10 1;strip apple 20 2;strip rye 30 3;"
        + "strip grass 40 4;strip clover 50 5;";

    /** By KIND: the KINDS that it is, as bits. */
    private static final int[] IS = {0, 3, 7, 11, 17, 49};

    private AskedTest() {
    }

    public static void main(String[] args) {
        kinds();
        taken();
        sizes();
        marks();
        refusals();
        Due.end();
    }

    private static void kinds() {
        FenceYards x = Due.groundOf(FIVE);
        for (int strip = 0; strip < 5; strip++) {
            Due.due("kind(" + strip + ")", x.kind(strip), strip + 1);
        }
        Due.due("kind(5)", x.kind(5), Due.BAD);
        Due.due("kind(-1)", x.kind(-1), Due.BAD);
    }

    private static void taken() {
        FenceYards x = Due.groundOf(FIVE);
        for (int strip = 0; strip < 5; strip++) {
            for (int kind = 0; kind <= 5; kind++) {
                boolean is = (IS[strip + 1] >> kind & 1) == 1;
                String call = "as(" + strip + ", " + kind + ")";
                Due.due(call, x.as(strip, kind), is ? strip : Due.KIND);
                Due.due("status() of " + call, x.status(), is ? 0 : 3);
            }
        }
        x.as(0, 5);
        Due.due("as(0, 6)", x.as(0, 6), Due.BAD);
        Due.due("as(0, -1)", x.as(0, -1), Due.BAD);
        Due.due("as(5, 0)", x.as(5, 0), Due.BAD);
        Due.due("as(-1, 0)", x.as(-1, 0), Due.BAD);
        Due.due("BAD leaves status()", x.status(), 3);
        x.kind(0);
        x.ask(0, 0);
        x.game(1, 0);
        Due.due("so does a call without a ROW", x.status(), 3);
        x.row(0, 0, 0);
        Due.due("status()", x.status(), 0);
    }

    private static void sizes() {
        FenceYards x = Due.groundOf(FIVE);
        asked(x, 0, 0, 11, 11, 10, 21, 20);
        asked(x, 1, 0, -26, 12, 11, 10, 24, 21, 20);
        asked(x, 2, 0, -965, 11, 10, 22, 21, 20);
        asked(x, 3, 0, -60, 13, 10);
        asked(x, 4, 0, -100, 14, 13, 10);
    }

    private static void marks() {
        FenceYards x = Due.groundOf(FIVE);
        asked(x, 0, 1, 1, 21, 20);
        asked(x, 1, 1, 6, 24, 21, 20);
        asked(x, 2, 1, -995, 22, 21, 20);
        asked(x, 3, 1, 63, 23, 20, 13, 10);
        asked(x, 4, 1, 104, 23, 20, 14, 13, 10);
    }

    private static void asked(FenceYards x, int strip, int what, int answer, int... bodies) {
        String call = "ask(" + strip + ", " + what + ")";
        Due.due(call, x.ask(strip, what), answer);
        for (int i = 0; i < bodies.length; i++) {
            Due.due("trace(" + i + ") of " + call, x.trace(i), bodies[i]);
        }
        Due.due("the end of " + call, x.trace(bodies.length), Due.NONE);
    }

    private static void refusals() {
        FenceYards x = Due.groundOf(FIVE);
        Due.due("trace(0)", x.trace(0), Due.NONE);
        x.ask(3, 0);
        Due.due("ask(5, 0)", x.ask(5, 0), Due.BAD);
        Due.due("ask(-1, 0)", x.ask(-1, 0), Due.BAD);
        Due.due("ask(0, 2)", x.ask(0, 2), Due.BAD);
        Due.due("ask(0, -1)", x.ask(0, -1), Due.BAD);
        Due.due("THE TRACE stays", x.trace(0), 13);
        Due.due("THE TRACE stays", x.trace(1), 10);
        Due.due("trace(-1)", x.trace(-1), Due.NONE);
        Due.due("trace(2)", x.trace(2), Due.NONE);
        Due.due("trace(16)", x.trace(16), Due.NONE);
        Due.due("trace(MIN)", x.trace(Integer.MIN_VALUE), Due.NONE);
        Due.due("trace(MAX)", x.trace(Integer.MAX_VALUE), Due.NONE);
    }
}
