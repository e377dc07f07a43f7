import java.util.function.Supplier;

/** The boundary cases of promises 20 (image), 21 (restore). */
public final class BoundsImagesTest {
    private static final int[] NO_IMAGES = {-1, 2, Integer.MIN_VALUE, Integer.MAX_VALUE};
    private static final Supplier<FenceYards> RICH = Past::rich;
    private static final Supplier<FenceYards> FRESH = Past::fresh;

    private BoundsImagesTest() {
    }

    public static void main(String[] args) {
        imageRefused();
        restoreRefused();
        badIsAheadOfState();
        imageChangesNothingElse();
        restoreBringsAllBack();
        restoreOnDayNone();
        restoreOfTheTwelfthDay();
        restoreIntoANewGround();
        restoreOfAGroundWithoutStrips();
        anImageInPlaceOfAnother();
        imagesAreTwo();
        anImageIsNotTheGround();
        restoreLeavesTheRest();
        undoBehindRestore();
        faultsLeaveImages();
        Due.end();
    }

    // BAD; STATE: no GROUND.
    private static void imageRefused() {
        for (int k : NO_IMAGES) {
            Stays.refused("image(" + k + ")", RICH, x -> x.image(k), Due.BAD);
        }
        Stays.refused("image(0)", FRESH, x -> x.image(0), Due.STATE);
        Stays.refused("image(1)", FRESH, x -> x.image(1), Due.STATE);
        Supplier<FenceYards> faulted = () -> {
            FenceYards x = new FenceYards();
            Due.read(x, "fence 3 4");
            return x;
        };
        Stays.refused("image(0) behind a FAULT", faulted, x -> x.image(0), Due.STATE);
        for (int k = 0; k <= 1; k++) {
            Due.due("image(" + k + ")", Past.firstDay().image(k), 1);
            Due.due("image(" + k + ") with no DAY left", Past.lastDay().image(k), 1);
        }
    }

    // BAD; STATE: none was kept.
    private static void restoreRefused() {
        for (int k : NO_IMAGES) {
            Stays.refused("restore(" + k + ")", RICH, x -> x.restore(k), Due.BAD);
        }
        Stays.refused("restore(1)", RICH, x -> x.restore(1), Due.STATE);
        Stays.refused("restore(0)", Past::lastDay, x -> x.restore(0), Due.STATE);
        Stays.refused("restore(0)", Past::firstDay, x -> x.restore(0), Due.STATE);
        Stays.refused("restore(0)", FRESH, x -> x.restore(0), Due.STATE);
        Stays.refused("restore(1)", FRESH, x -> x.restore(1), Due.STATE);
        Due.due("restore(0)", Past.rich().restore(0), 1);
        Due.due("restore(1)", Past.lastDay().restore(1), 1);
    }

    // the first of these that fits: BAD, STATE
    private static void badIsAheadOfState() {
        for (int k : NO_IMAGES) {
            Stays.refused("image(" + k + "), no GROUND", FRESH, x -> x.image(k), Due.BAD);
            Stays.refused("restore(" + k + "), none kept", FRESH, x -> x.restore(k), Due.BAD);
        }
    }

    /** But for the IMAGE that is kept. */
    private static void imageChangesNothingElse() {
        FenceYards x = Past.rich();
        Due.due("image(1)", x.image(1), 1);
        Due.due("status()", x.status(), 2);
        Due.due("fault()", x.fault(), 2);
        Due.due("the DAY", x.count(2), 2);
        Due.due("A", x.count(3), 4);
        Due.due("B", x.count(4), 7);
        Due.due("ROWS", x.count(0), 4);
        Due.due("THE TRACE", x.trace(0), 12);
        Due.due("the other IMAGE", x.restore(0), 1);
        Due.due("its A", x.count(3), 3);
    }

    // All of that is as an IMAGE kept it: 1.
    private static void restoreBringsAllBack() {
        Supplier<FenceYards> kept = () -> {
            FenceYards x = Past.rich();
            x.image(1);
            return x;
        };
        Stays.alike("restored at once", kept, () -> back(kept.get()));
        Stays.alike("restored behind moves", kept, () -> {
            FenceYards x = kept.get();
            for (int d = 2; d < 12; d++) {
                x.day(d % 2 == 0 ? 1 : -1, -1 + d % 2);
            }
            return back(x);
        });
        Stays.alike("restored behind undone DAYS", kept, () -> {
            FenceYards x = kept.get();
            x.undo();
            x.undo();
            x.day(1, -1);
            x.day(1, -1);
            x.day(1, -1);
            return back(x);
        });
        Stays.alike("restored behind another GROUND", kept, () -> {
            FenceYards x = kept.get();
            Due.read(x, "fence 0 12;" + "pond 0 12;".repeat(6) + "strip apple 1 1;".repeat(12));
            x.day(1, -1);
            return back(x);
        });
        Stays.alike("restored twice", kept, () -> back(back(kept.get())));
    }

    private static FenceYards back(FenceYards x) {
        Due.due("restore(1)", x.restore(1), 1);
        return x;
    }

    // An IMAGE is kept of the GROUND, with DAYS that can be undone: none
    private static void restoreOnDayNone() {
        FenceYards x = Past.firstDay();
        x.image(0);
        x.day(1, 1);
        Due.due("restore(0)", x.restore(0), 1);
        Due.due("DAY 0", x.count(2), 0);
        Due.due("none to undo", x.undo(), Due.STATE);
        Due.due("nothing was reaped", x.reaped(0, 0), 0);
        Due.due("A", x.count(3), 5);
    }

    // with DAYS that can be undone
    private static void restoreOfTheTwelfthDay() {
        FenceYards x = Due.groundOf("fence 0 0;" + "strip rye 99 0;".repeat(12));
        for (int d = 0; d < 12; d++) {
            x.day(1, 1);
        }
        int left = x.reaped(0, 0);
        int right = x.reaped(1, 0);
        Due.holds("both have reaped", left > 0 && right > 0);
        Due.due("image(0)", x.image(0), 1);
        Due.read(x, "fence 3 3;");
        Due.due("restore(0)", x.restore(0), 1);
        Due.due("no DAY is left", x.count(2), 12);
        Due.due("no DAY is left", x.day(0, 0), Due.STATE);
        Due.due("A", x.count(3), 12);
        Due.due("B", x.count(4), 12);
        Due.due("reaped", x.reaped(0, 0), left);
        Due.due("reaped by the RIGHT man", x.reaped(1, 0), right);
        for (int d = 11; d >= 0; d--) {
            Due.due("undo()", x.undo(), d);
            Due.due("A", x.count(3), d);
            Due.due("B", x.count(4), d);
        }
        Due.due("none is left to undo", x.undo(), Due.STATE);
    }

    // All of that is as an IMAGE kept it; IMAGES stay
    private static void restoreIntoANewGround() {
        FenceYards x = Past.firstDay();
        x.image(1);
        Due.read(x, "fence 1 1;strip bean 3 3;");
        x.image(0);
        Due.due("restore(1)", x.restore(1), 1);
        Due.due("STRIPS", x.count(1), 6);
        Due.due("restore(0)", x.restore(0), 1);
        Due.due("STRIPS", x.count(1), 1);
        Due.due("no STRIP of the other one", x.strip(1, 0), Due.BAD);
        Due.due("no pond of the other one", x.count(5), 0);
    }

    // All of that is as an IMAGE kept it: no STRIP, no pond
    private static void restoreOfAGroundWithoutStrips() {
        FenceYards x = Due.groundOf("fence 2 9;");
        x.image(0);
        Due.read(x, Past.ALL_SORTS);
        Due.due("restore(0)", x.restore(0), 1);
        Due.due("STRIPS", x.count(1), 0);
        Due.due("strip(0, 0)", x.strip(0, 0), Due.BAD);
        Due.due("kind(0)", x.kind(0), Due.BAD);
        Due.due("ponds", x.count(5), 0);
        Due.due("game", x.game(12, 0), 0);
        Due.due("A", x.count(3), 2);
        Due.due("B", x.count(4), 9);
    }

    // An IMAGE (0, 1) is kept: the latest one
    private static void anImageInPlaceOfAnother() {
        FenceYards x = Past.firstDay();
        x.image(0);
        x.day(1, 1);
        Due.due("image(0) anew", x.image(0), 1);
        x.day(1, 1);
        Due.due("restore(0)", x.restore(0), 1);
        Due.due("the later one", x.count(2), 1);
        Due.due("restore(1): none was kept", x.restore(1), Due.STATE);
    }

    // An IMAGE (0, 1)
    private static void imagesAreTwo() {
        FenceYards x = Past.firstDay();
        Due.due("image(0)", x.image(0), 1);
        x.day(1, 1);
        Due.due("image(1)", x.image(1), 1);
        x.day(1, 0);
        for (int i = 0; i < 3; i++) {
            Due.due("restore(0)", x.restore(0), 1);
            Due.due("DAY 0", x.count(2), 0);
            Due.due("restore(1)", x.restore(1), 1);
            Due.due("DAY 1", x.count(2), 1);
            Due.due("A", x.count(3), 6);
            x.day(0, -1);
        }
    }

    /** What is done to the GROUND, or to that which was restored, leaves the IMAGE. */
    private static void anImageIsNotTheGround() {
        FenceYards x = Past.firstDay();
        x.day(0, 0);
        x.image(0);
        x.undo();
        x.day(1, -1);
        x.restore(0);
        Due.due("A", x.count(3), 5);
        Due.due("B", x.count(4), 6);
        x.undo();
        x.day(1, -1);
        x.day(1, -1);
        x.sow(0, 1, 1, 1, 1, 0);
        x.restore(0);
        Due.due("the DAY", x.count(2), 1);
        Due.due("A", x.count(3), 5);
        Due.due("WORTH", x.strip(0, 0), 60);
        Due.due("undo()", x.undo(), 0);
        Due.due("B", x.count(4), 6);
    }

    // All of that (the GROUND, with DAYS that can be undone), and nothing else
    private static void restoreLeavesTheRest() {
        FenceYards x = Past.rich();
        x.feed(0L, 3);
        x.row(5, 0, 7);
        x.set(5, 7, 7);
        x.ask(3, 0);
        Due.due("restore(0)", x.restore(0), 1);
        Due.due("ROWS stay", x.count(0), 5);
        Due.due("the tape stays", x.count(6), 3);
        Due.due("status() stays", x.status(), 2);
        Due.due("fault() stays", x.fault(), 2);
        Due.due("THE TRACE stays", x.trace(0), 13);
        Due.due("a ROW stays", x.drop(5), 7);
    }

    // with DAYS that can be undone
    private static void undoBehindRestore() {
        FenceYards x = Past.rich();
        x.image(1);
        x.restore(1);
        Due.due("undo()", x.undo(), 1);
        Due.due("undo()", x.undo(), 0);
        Due.due("undo()", x.undo(), Due.STATE);
        Due.due("restore(1) again", x.restore(1), 1);
        Due.due("the DAY", x.count(2), 2);
        Due.due("undo()", x.undo(), 1);
    }

    // all but the tape, and what fault() tells, stays
    private static void faultsLeaveImages() {
        FenceYards x = Past.firstDay();
        x.image(0);
        x.day(1, 1);
        x.image(1);
        for (int i = 0; i < 3; i++) {
            Due.read(x, "fence 9 9;pond 0 1;strip rye 5 5;strip");
            Due.due("the GROUND stays", x.count(3), i == 0 ? 6 : 5);
            Due.due("restore(1)", x.restore(1), 1);
            Due.due("DAY 1", x.count(2), 1);
            Due.due("restore(0)", x.restore(0), 1);
            Due.due("DAY 0", x.count(2), 0);
            Due.due("STRIPS", x.count(1), 6);
        }
    }
}
