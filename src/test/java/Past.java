/** Objects with a past, made alike each time, so that two of them can be compared. */
final class Past {
    static final String ALL_SORTS = "fence 5 6;pond 0 3;pond 1 8;strip rye 60 0;strip apple 33 2;"
        + "strip clover 17 1;strip grass 41 0;strip bean 80 3;strip rye 99 1;";

    private Past() {
    }

    static FenceYards fresh() {
        return new FenceYards();
    }

    /** A bit of everything: DAY 2, an IMAGE, ROWS of each LANE, a FAULT, a FINDING, a TRACE. */
    static FenceYards rich() {
        FenceYards x = new FenceYards();
        Due.read(x, "fence 99 0;");
        Due.read(x, "fence 2 10;pond 0 7;strip rye 40 0;strip bean 9 1;");
        x.day(1, 0);
        x.image(0);
        Due.read(x, ALL_SORTS);
        x.day(-1, 1);
        x.day(0, 0);
        x.row(0, 0, 12);
        x.set(0, 0, 1);
        x.set(0, 11, -1);
        x.row(1, 1, 5);
        x.set(1, 1, -1);
        x.set(1, 4, 2);
        x.row(2, 2, 40);
        x.set(2, 20, 1);
        x.set(2, 39, 9);
        x.row(3, 0, 0);
        x.ask(1, 0);
        x.set(0, 12, 1);
        return x;
    }

    static FenceYards richWithTape() {
        FenceYards x = rich();
        Due.feedText(x, "fence 1 2;strip rye 5 5;");
        return x;
    }

    static FenceYards richWithFullTape() {
        FenceYards x = rich();
        Due.feedText(x, padded("fence 1 2;strip rye 5 5;", 400));
        return x;
    }

    /** All twelve DAYS are gone. */
    static FenceYards lastDay() {
        FenceYards x = Due.groundOf(ALL_SORTS);
        for (int d = 0; d < 12; d++) {
            x.day(d % 2 == 0 ? -1 : 1, d % 3 - 1);
        }
        x.row(0, 0, 12);
        x.image(1);
        x.as(0, 5);
        return x;
    }

    /** A GROUND without a DAY that is gone, and nothing else. */
    static FenceYards firstDay() {
        return Due.groundOf(ALL_SORTS);
    }

    /** Blanks behind a text, so that it has as many bytes as wanted. */
    static String padded(String text, int bytes) {
        return text + " ".repeat(bytes - text.length());
    }
}
