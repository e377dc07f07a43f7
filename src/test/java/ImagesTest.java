/** Promises 20 (image), 21 (restore). */
public final class ImagesTest {
    private ImagesTest() {
    }

    public static void main(String[] args) {
        refusals();
        kept();
        twoImages();
        anImageStays();
        allDays();
        allDaysOfTheRightMan();
        Due.end();
    }

    private static void refusals() {
        FenceYards x = new FenceYards();
        Due.due("image(2): BAD is ahead of STATE", x.image(2), Due.BAD);
        Due.due("image(-1)", x.image(-1), Due.BAD);
        Due.due("image(0)", x.image(0), Due.STATE);
        Due.due("restore(2)", x.restore(2), Due.BAD);
        Due.due("restore(-1)", x.restore(-1), Due.BAD);
        Due.due("restore(0)", x.restore(0), Due.STATE);
        Due.read(x, "fence 5 5;");
        Due.due("image(1)", x.image(1), 1);
        Due.due("restore(0)", x.restore(0), Due.STATE);
        Due.due("restore(1)", x.restore(1), 1);
    }

    private static void kept() {
        FenceYards x = Due.groundOf("fence 5 5;pond 0 3;strip rye 20 0;strip apple 9 1;");
        x.day(-1, 1);
        x.day(0, 1);
        x.row(1, 0, 4);
        Due.due("image(0)", x.image(0), 1);
        int above = x.reaped(1, 0);
        x.undo();
        x.undo();
        x.day(1, 0);
        Due.read(x, "fence 2 2;pond 1 5;pond 1 6;strip bean 1 1;strip bean 1 1;strip bean 2 2;");
        x.drop(1);
        x.feed(0L, 3);
        Due.due("restore(0)", x.restore(0), 1);
        Due.due("ROWS are no part of it", x.count(0), 0);
        Due.due("STRIPS", x.count(1), 2);
        Due.due("the DAY", x.count(2), 2);
        Due.due("A", x.count(3), 4);
        Due.due("B", x.count(4), 7);
        Due.due("ponds", x.count(5), 1);
        Due.due("the tape is no part of it", x.count(6), 3);
        Due.due("reaped", x.reaped(1, 0), above);
        Due.due("KIND", x.kind(0), 3);
        Due.due("a pond", x.day(-1, 0), Due.STATE);
        Due.due("no other pond", x.day(0, -1), 4 * 13 + 6);
        Due.due("undo()", x.undo(), 2);
        Due.due("undo()", x.undo(), 1);
        Due.due("B", x.count(4), 6);
        Due.due("undo()", x.undo(), 0);
        Due.due("A", x.count(3), 5);
    }

    private static void twoImages() {
        FenceYards x = Due.groundOf("fence 1 1;");
        x.image(0);
        x.day(1, 1);
        x.image(1);
        x.day(1, 1);
        Due.due("restore(0)", x.restore(0), 1);
        Due.due("the DAY", x.count(2), 0);
        Due.due("restore(1)", x.restore(1), 1);
        Due.due("the DAY", x.count(2), 1);
        x.day(0, 0);
        Due.due("image(0) anew", x.image(0), 1);
        x.restore(1);
        x.restore(0);
        Due.due("the DAY", x.count(2), 2);
    }

    private static void allDays() {
        FenceYards x = Due.groundOf("fence 6 6;strip rye 90 4;strip bean 7 10;strip bean 5 11;");
        for (int d = 0; d < 12; d++) {
            x.day(d % 2 == 0 ? 1 : -1, d % 3 == 0 ? 1 : 0);
        }
        int left = x.reaped(0, 0);
        x.image(1);
        Due.read(x, "fence 0 0;");
        x.restore(1);
        Due.due("reaped", x.reaped(0, 0), left);
        Due.fraction("the RIGHT man's", x.reaped(1, 0), x.reaped(1, 1), 0, 1);
        Due.due("A", x.count(3), 6);
        Due.due("B", x.count(4), 10);
        Due.due("undo()", x.undo(), 11);
        Due.due("A", x.count(3), 7);
        Due.due("reaped", x.reaped(0, 0), left - 25);
        Due.due("undo()", x.undo(), 10);
        Due.due("reaped", x.reaped(0, 0), left - 62);
    }

    private static void allDaysOfTheRightMan() {
        FenceYards x = Due.groundOf("fence 0 0;strip bean 5 10;strip bean 7 11;");
        for (int d = 0; d < 12; d++) {
            x.day(0, 0);
        }
        x.image(1);
        Due.read(x, "fence 0 0;");
        x.restore(1);
        Due.due("reaped", x.reaped(1, 0), 12);
        x.undo();
        Due.due("reaped", x.reaped(1, 0), 5);
    }

    private static void anImageStays() {
        FenceYards x = Due.groundOf("fence 4 4;strip bean 6 0;");
        x.image(0);
        for (int i = 0; i < 3; i++) {
            x.restore(0);
            Due.due("the DAY", x.count(2), 0);
            x.day(-1, 1);
            x.day(-1, 1);
        }
        x.restore(0);
        Due.due("nothing can be undone", x.undo(), Due.STATE);
        Due.due("A", x.count(3), 4);
    }
}
