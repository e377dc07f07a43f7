/** What the tests share: comparing answers with those that are due, and feeding texts. */
final class Due {
    static final int NONE = -1000000;
    static final int BAD = -1000001;
    static final int STATE = -1000002;
    static final int FULL = -1000003;
    static final int NULL = -1000011;
    static final int PLACE = -1000012;
    static final int KIND = -1000013;
    static final int SIZE = -1000014;
    static final int STORE = -1000015;

    private static int wrong = 0;

    private Due() {
    }

    static void due(String call, int got, int want) {
        if (got != want) {
            wrong++;
            System.out.println(call + " answered " + got + ", due is " + want);
        }
    }

    static void holds(String what, boolean is) {
        if (!is) {
            wrong++;
            System.out.println("does not hold: " + what);
        }
    }

    /** Above and below of a fraction, each with its own call. */
    static void fraction(String call, int above, int below, int wantAbove, int wantBelow) {
        due(call + " above", above, wantAbove);
        due(call + " below", below, wantBelow);
    }

    static void feedText(FenceYards x, String text) {
        for (int from = 0; from < text.length(); from += 8) {
            int n = Math.min(8, text.length() - from);
            long w = 0;
            for (int i = 0; i < n; i++) {
                w = w << 8 | text.charAt(from + i) & 255;
            }
            x.feed(w, n);
        }
    }

    static int read(FenceYards x, String text) {
        feedText(x, text);
        return x.ground();
    }

    static FenceYards groundOf(String text) {
        FenceYards x = new FenceYards();
        holds("a ground is read: " + text, read(x, text) >= 0);
        return x;
    }

    /** To be called last: ends the program with 1 if an answer was not the one that was due. */
    static void end() {
        if (wrong > 0) {
            System.out.println(wrong + " answers are not as due");
            System.exit(1);
        }
    }
}
