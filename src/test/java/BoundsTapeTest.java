/** The boundary cases of promise 6 (feed), and of the TOKENS that the tape is read into. */
public final class BoundsTapeTest {
    private static final String TEXT = "fence 3 4;strip bean 5 6;";

    private BoundsTapeTest() {
    }

    public static void main(String[] args) {
        oneToEightBytes();
        feedRefused();
        theHighestFirst();
        leastAndGreatestLong();
        fourHundredBytes();
        fullAtEachNumberOfBytes();
        fullTakesNone();
        badIsAheadOfFull();
        aFullTapeIsRead();
        aTokenUpToTheLastByte();
        roomAgain();
        blanksAreTwoBytes();
        bytesAhead();
        bytesBehind();
        bytesAsSign();
        bytesBehindANumber();
        noBlankIsNeeded();
        asManyBlanksAsWanted();
        threeFiguresAtMost();
        namesAreWhole();
        Due.end();
    }

    // The lowest n bytes of w (1 to 8) .. come behind the tape: how many it has
    private static void oneToEightBytes() {
        FenceYards x = new FenceYards();
        int bytes = 0;
        for (int n = 1; n <= 8; n++) {
            bytes += n;
            Due.due("feed of " + n, x.feed(0x2020202020202020L, n), bytes);
            Due.due("count(6)", x.count(6), bytes);
        }
        Due.due("all blanks: the end", x.ground(), -1000100 - bytes);
    }

    // BAD: n
    private static void feedRefused() {
        int[] no = {0, 9, -1, -8, Integer.MIN_VALUE, Integer.MAX_VALUE};
        for (int n : no) {
            Stays.refused("feed(0, " + n + ")", Past::richWithTape, x -> x.feed(0L, n), Due.BAD);
            Stays.refused("feed(-1, " + n + ") of a new object", Past::fresh,
                x -> x.feed(-1L, n), Due.BAD);
        }
    }

    // the highest of them first
    private static void theHighestFirst() {
        for (int n = 1; n <= 8; n++) {
            FenceYards x = new FenceYards();
            int fed = 0;
            for (int from = 0; from < TEXT.length(); from += n) {
                int bytes = Math.min(n, TEXT.length() - from);
                // What stands above the lowest bytes must not come.
                long w = 0x7a3b7a3b7a3b7a3bL;
                for (int i = 0; i < bytes; i++) {
                    w = w << 8 | TEXT.charAt(from + i);
                }
                fed += bytes;
                Due.due("feed by " + n, x.feed(w, bytes), fed);
            }
            Due.due("ground fed by " + n, x.ground(), 1);
            Due.due("A", x.count(3), 3);
            Due.due("B", x.count(4), 4);
            Due.due("WORTH", x.strip(0, 0), 5);
            Due.due("RIPE", x.strip(0, 1), 6);
        }
    }

    // The lowest n bytes of w, whatever w is
    private static void leastAndGreatestLong() {
        long[] words = {Long.MIN_VALUE, Long.MAX_VALUE, -1L, 0L};
        for (long w : words) {
            for (int n = 1; n <= 8; n++) {
                FenceYards x = new FenceYards();
                Due.due("feed(" + w + ", " + n + ")", x.feed(w, n), n);
                Due.due("it is no text", x.ground(), -1000100);
                Due.due("fault()", x.fault(), 1);
            }
        }
        // "fence 3 " with its highest bit, so that the word is below 0: byte 230 is no letter.
        FenceYards x = new FenceYards();
        x.feed(0x66656e6365203320L | Long.MIN_VALUE, 8);
        x.feed(0x343bL, 2);
        Due.due("byte 230 first", x.ground(), -1000100);
        x.feed(0x66656e6365203320L, 8);
        x.feed(0x343bL | Long.MIN_VALUE, 2);
        Due.due("the highest bit of a word of two bytes is none of it", x.ground(), 0);
    }

    private static FenceYards withBytes(int bytes) {
        FenceYards x = new FenceYards();
        Due.feedText(x, Past.padded(TEXT, bytes));
        Due.due("bytes fed", x.count(6), bytes);
        return x;
    }

    // THE TAPE has at most 400 bytes
    private static void fourHundredBytes() {
        FenceYards x = new FenceYards();
        for (int i = 1; i <= 50; i++) {
            Due.due("feed " + i, x.feed(0L, 8), 8 * i);
        }
        for (int n = 1; n <= 8; n++) {
            Due.due("feed of " + n + " more", x.feed(0L, n), Due.FULL);
        }
        Due.due("count(6)", x.count(6), 400);
    }

    // FULL: none comes
    private static void fullAtEachNumberOfBytes() {
        for (int n = 1; n <= 8; n++) {
            Due.due("the last " + n, withBytes(400 - n).feed(0x2020202020202020L, n), 400);
            FenceYards x = withBytes(401 - n);
            Due.due("one too many of " + n, x.feed(0x2020202020202020L, n), Due.FULL);
            Due.due("none came", x.count(6), 401 - n);
            Due.due("what was there is read", x.ground(), 1);
        }
    }

    // FULL: none comes; what is refused changes nothing
    private static void fullTakesNone() {
        Stays.refused("feed(-1, 1)", Past::richWithFullTape, x -> x.feed(-1L, 1), Due.FULL);
        Stays.refused("feed(0, 8)", Past::richWithFullTape, x -> x.feed(0L, 8), Due.FULL);
        Stays.refused("feed(MIN, 8)", () -> withBytes(393),
            x -> x.feed(Long.MIN_VALUE, 8), Due.FULL);
        Stays.refused("feed(MAX, 2)", () -> withBytes(399),
            x -> x.feed(Long.MAX_VALUE, 2), Due.FULL);
        FenceYards x = withBytes(398);
        Due.due("3 are too many", x.feed(0x2020207aL, 3), Due.FULL);
        Due.due("2 are not", x.feed(0x2020L, 2), 400);
        Due.due("what was there is read", x.ground(), 1);
    }

    // the first of these that fits: BAD, .. FULL
    private static void badIsAheadOfFull() {
        int[] no = {0, 9, -1, Integer.MIN_VALUE, Integer.MAX_VALUE};
        for (int n : no) {
            Stays.refused("feed(0, " + n + ") at a full tape", Past::richWithFullTape,
                x -> x.feed(0L, n), Due.BAD);
        }
    }

    // THE TAPE has at most 400 bytes; the end: how many bytes there are
    private static void aFullTapeIsRead() {
        String strip = "strip clover 99 11;";
        String text = "fence 12 12;" + "pond 1 11;".repeat(6) + strip.repeat(11);
        String blanks = " ".repeat(400 - text.length() - strip.length());
        FenceYards x = new FenceYards();
        Due.due("400 bytes, the last one a sign", Due.read(x, text + blanks + strip), 12);
        Due.due("the last STRIP", x.strip(11, 0), 99);
        Due.due("400 bytes, the last ones blanks", Due.read(x, text + strip + blanks), 12);
        String cut = text + blanks + " " + strip.substring(0, strip.length() - 1);
        Due.due("400 bytes, without the last sign", Due.read(x, cut), -1000500);
        Due.due("400 blanks", Due.read(x, " ".repeat(400)), -1000500);
        Due.due("399 blanks", Due.read(x, " ".repeat(399)), -1000499);
        Due.due("a sign at the last place", Due.read(x, Past.padded("", 399) + ";"), -1000499);
    }

    // NAMES, NUMBERS that end with the tape
    private static void aTokenUpToTheLastByte() {
        FenceYards x = new FenceYards();
        Due.due("400 letters", Due.read(x, "z".repeat(400)), -1000100);
        Due.due("394 figures", Due.read(x, "fence " + "9".repeat(394)), -1000106);
        Due.due("fault()", x.fault(), 1);
        Due.due("'fence' at the end", Due.read(x, " ".repeat(395) + "fence"), -1000500);
        Due.due("'fenc' at the end", Due.read(x, " ".repeat(396) + "fenc"), -1000496);
        Due.due("a NUMBER at the end", Due.read(x, " ".repeat(392) + "fence 12"), -1000500);
        Due.due("13 at the end", Due.read(x, " ".repeat(392) + "fence 13"), -1000498);
        Due.due("fault()", x.fault(), 2);
    }

    // The tape, empty then
    private static void roomAgain() {
        FenceYards x = withBytes(400);
        Due.due("a ground of 400 bytes", x.ground(), 1);
        Due.due("count(6)", x.count(6), 0);
        Due.due("feed anew", x.feed(0x2020L, 2), 2);
        Due.feedText(x, Past.padded("", 398));
        Due.due("a full tape again", x.feed(0L, 1), Due.FULL);
        Due.due("a FAULT", x.ground(), -1000500);
        Due.due("count(6)", x.count(6), 0);
        Due.due("feed anew", x.feed(0L, 8), 8);
    }

    private static boolean isLetter(int c) {
        return c >= 'a' && c <= 'z';
    }

    private static boolean isFigure(int c) {
        return c >= '0' && c <= '9';
    }

    private static boolean isBlank(int c) {
        return c == 32 || c == 10;
    }

    private static void reads(int c, String text, int want) {
        FenceYards x = new FenceYards();
        Due.due("ground with byte " + c + " in '" + text + "'", Due.read(x, text), want);
        Due.due("fault()", x.fault(), want < 0 ? want == -1000106 && isFigure(c) ? 2 : 1 : 0);
    }

    // bytes 32 and 10 ahead of, between, behind these
    private static void blanksAreTwoBytes() {
        for (int c = 0; c < 256; c++) {
            String text = "fence " + (char) c + "3 4;";
            int a = isFigure(c) ? 10 * (c - '0') + 3 : 3;
            reads(c, text, isBlank(c) || isFigure(c) && a <= 12 ? 0 : -1000106);
        }
    }

    // bytes 32 and 10 ahead of these
    private static void bytesAhead() {
        for (int c = 0; c < 256; c++) {
            reads(c, (char) c + "fence 3 4;", isBlank(c) ? 0 : -1000100);
        }
    }

    // bytes 32 and 10 behind these
    private static void bytesBehind() {
        for (int c = 0; c < 256; c++) {
            reads(c, "fence 3 4;" + (char) c, isBlank(c) ? 0 : -1000110);
        }
    }

    // SIGNS ;
    private static void bytesAsSign() {
        for (int c = 0; c < 256; c++) {
            FenceYards x = new FenceYards();
            int got = Due.read(x, "fence 3 4 " + (char) c);
            Due.due("byte " + c + " for ;", got, c == ';' ? 0 : isBlank(c) ? -1000111 : -1000110);
            Due.due("fault()", x.fault(), c == ';' ? 0 : 1);
        }
    }

    // NAMES (letters a to z), NUMBERS (figures ..)
    private static void bytesBehindANumber() {
        for (int c = 0; c < 256; c++) {
            FenceYards x = new FenceYards();
            int got = Due.read(x, "fence" + (char) c + "0 4;");
            int want = isBlank(c) || c == '0' || c == '1' ? 0 : isLetter(c) ? -1000100 : -1000105;
            Due.due("byte " + c + " behind a NAME", got, want);
            Due.due("fault()", x.fault(), want == 0 ? 0 : isFigure(c) ? 2 : 1);
            got = Due.read(x, "fence 0 4" + (char) c + ";");
            // A figure makes 40 to 49 of it: a NUMBER that is not as told, where it begins.
            want = isBlank(c) ? 0 : c == ';' ? -1000110 : isFigure(c) ? -1000108 : -1000109;
            Due.due("byte " + c + " behind a NUMBER", got, want);
        }
    }

    // none is needed where one ends without
    private static void noBlankIsNeeded() {
        FenceYards x = new FenceYards();
        Due.due("none at all", Due.read(x, "fence3 4;pond0 5;strip rye7 8;"), 1);
        Due.due("A", x.count(3), 3);
        Due.due("ponds", x.count(5), 1);
        Due.due("WORTH", x.strip(0, 0), 7);
        Due.due("a NAME behind a NUMBER", Due.read(x, "fence 3fence 4;"), -1000107);
        Due.due("two NAMES are one", Due.read(x, "fence 3 4;striprye 1 1;"), -1000110);
        Due.due("two NUMBERS are one", Due.read(x, "fence 1 2;strip rye 91;"), -1000122);
    }

    // as many as wanted
    private static void asManyBlanksAsWanted() {
        FenceYards x = new FenceYards();
        String blanks = " \n\n  ".repeat(5);
        String text = blanks + "fence" + blanks + "3" + blanks + "4" + blanks + ";" + blanks
            + "strip" + blanks + "rye" + blanks + "7" + blanks + "8" + blanks + ";" + blanks;
        Due.due("many blanks", Due.read(x, text), 1);
        Due.due("B", x.count(4), 4);
        Due.due("RIPE", x.strip(0, 1), 8);
        Due.due("a FAULT behind them", Due.read(x, blanks + "fence" + blanks + "x"), -1000155);
    }

    // NUMBERS (figures, 3 at most); a run of four figures or more, at its first
    private static void threeFiguresAtMost() {
        FenceYards x = new FenceYards();
        Due.due("three figures", Due.read(x, "fence 012 000;strip bean 099 011;"), 1);
        Due.due("A", x.count(3), 12);
        Due.due("B", x.count(4), 0);
        Due.due("WORTH", x.strip(0, 0), 99);
        Due.due("RIPE", x.strip(0, 1), 11);
        tooLong(x, "fence ", "0000", " 4;", 1);
        tooLong(x, "fence ", "0012", " 4;", 1);
        tooLong(x, "fence ", "9999", " 4;", 1);
        tooLong(x, "fence ", "999", " 4;", 2);
        tooLong(x, "fence 3 ", "00004", ";", 1);
        tooLong(x, "fence 3 4;pond ", "0001", " 5;", 1);
        tooLong(x, "fence 3 4;pond 0 ", "0005", ";", 1);
        tooLong(x, "fence 3 4;strip bean ", "0099", " 5;", 1);
        tooLong(x, "fence 3 4;strip bean 1 ", "4294967297", ";", 1);
        tooLong(x, "fence 3 4;strip bean 1 ", "18446744073709551617", ";", 1);
        tooLong(x, "fence 3 4;", "1234", "", 1);
    }

    private static void tooLong(FenceYards x, String ahead, String number, String behind, int fault) {
        int got = Due.read(x, ahead + number + behind);
        Due.due("ground of '" + ahead + number + behind + "'", got, -1000100 - ahead.length());
        Due.due("fault()", x.fault(), fault);
    }

    // NAMES: a word with a letter more or less is another one
    private static void namesAreWhole() {
        wordFaults("", "fence", " 3 4;");
        wordFaults("fence 3 4;", "pond", " 0 1;");
        wordFaults("fence 3 4;", "strip", " bean 1 1;");
        String[] sorts = {"bean", "apple", "rye", "grass", "clover"};
        for (String sort : sorts) {
            wordFaults("fence 3 4;strip ", sort, " 1 1;");
        }
    }

    private static void wordFaults(String ahead, String word, String behind) {
        FenceYards x = new FenceYards();
        Due.holds("'" + word + "' is read", Due.read(x, ahead + word + behind) >= 0);
        int last = word.length() - 1;
        String[] others = {word.substring(1), word.substring(0, last), word + "a", word + "z",
            "a" + word, word + word, word.substring(0, last) + (char) (word.charAt(last) + 1),
            (char) (word.charAt(0) - 1) + word.substring(1), word.toUpperCase(),
            word.substring(0, 1).toUpperCase() + word.substring(1)};
        for (String other : others) {
            int got = Due.read(x, ahead + other + behind);
            Due.due("'" + other + "' for '" + word + "'", got, -1000100 - ahead.length());
            Due.due("fault()", x.fault(), 1);
        }
    }
}
