/** The boundary cases of promises 1 (a new object), 7 (ground), 8 (fault): texts and FAULTS. */
public final class BoundsGroundTest {
    private static final String FENCE = "fence 3 4;";
    private static final String POND = "pond 0 5;";
    private static final String STRIP = "strip rye 7 8;";

    /** One of each sort of TOKEN, and some that are none; the last but one is the end. */
    private static final String[] TOKENS = {"fence", "pond", "strip", "bean", "apple", "rye",
        "grass", "clover", "a", "z", "oat", "0", "1", "007", ";", "0000", "1234", "{", "-", "_",
        "Fence", "", ","};

    private BoundsGroundTest() {
    }

    public static void main(String[] args) {
        noGroundAtFirst();
        anEmptyTape();
        aFenceAlone();
        placesOfTheFence();
        rimsOfPonds();
        placesOfPonds();
        noPondAtAnEnd();
        pondAcross();
        sixPonds();
        worths();
        ripes();
        sorts();
        twelveStrips();
        pondsAheadOfStrips();
        eachTokenAtEachPlace();
        theEnd();
        theFirstTokenThatHasOne();
        ofOneTokenTheLeast();
        noRoomIsToldAtTheWord();
        aFaultLeavesAllElse();
        theLatestFault();
        inPlaceOfTheOneBefore();
        fewerStripsThanBefore();
        imagesAndRowsStay();
        bareGround();
        howManyWereTold();
        Due.end();
    }

    private static void fault(String text, int place, int number) {
        FenceYards x = new FenceYards();
        Due.due("ground of '" + text + "'", Due.read(x, text), -1000100 - place);
        Due.due("fault of '" + text + "'", x.fault(), number);
        Due.due("the tape is empty", x.count(6), 0);
        Due.due("no GROUND came of it", x.sure(1), Due.STATE);
    }

    // Promise 1: No GROUND.
    private static void noGroundAtFirst() {
        FenceYards x = new FenceYards();
        for (int what = 0; what <= 6; what++) {
            Due.due("count(" + what + ") at first", x.count(what), 0);
        }
        Due.due("fault() at first", x.fault(), 0);
        Due.due("status() at first", x.status(), 0);
        Due.due("trace(0) at first", x.trace(0), Due.NONE);
        Due.due("day(0, 0)", x.day(0, 0), Due.STATE);
        Due.due("undo()", x.undo(), Due.STATE);
        Due.due("strip(0, 0)", x.strip(0, 0), Due.BAD);
        Due.due("crop(0, 0)", x.crop(0, 0), Due.BAD);
        Due.due("reaped(0, 0)", x.reaped(0, 0), Due.STATE);
        Due.due("best(0, 1, 0)", x.best(0, 1, 0), Due.STATE);
        Due.due("game(1, 0)", x.game(1, 0), Due.STATE);
        Due.due("treaty(1, 0)", x.treaty(1, 0), Due.STATE);
        Due.due("sow(0, 0, 0, 0, 1, 0)", x.sow(0, 0, 0, 0, 1, 0), Due.BAD);
        Due.due("unseen(0, 1, 0)", x.unseen(0, 1, 0), Due.STATE);
        Due.due("sure(1)", x.sure(1), Due.STATE);
        Due.due("image(0)", x.image(0), Due.STATE);
        Due.due("restore(0)", x.restore(0), Due.STATE);
        Due.due("restore(1)", x.restore(1), Due.STATE);
        Due.due("kind(0)", x.kind(0), Due.BAD);
        Due.due("as(0, 0)", x.as(0, 0), Due.BAD);
        Due.due("ask(0, 0)", x.ask(0, 0), Due.BAD);
        Due.due("status()", x.status(), 0);
    }

    // the end: how many bytes there are
    private static void anEmptyTape() {
        fault("", 0, 1);
        FenceYards x = Due.groundOf(FENCE);
        Due.due("the tape is empty behind a GROUND", x.count(6), 0);
        Due.due("ground() of an empty tape", x.ground(), -1000100);
        Due.due("fault()", x.fault(), 1);
        Due.due("the GROUND before stays", x.count(3), 3);
        Stays.faulted(Past::rich, "", 0, 1);
        Stays.faulted(Past::fresh, "", 0, 1);
    }

    // ground: fence { pond } { strip }: none of both is needed
    private static void aFenceAlone() {
        FenceYards x = new FenceYards();
        Due.due("a fence alone", Due.read(x, FENCE), 0);
        Due.due("a GROUND stands", x.sure(1), 3);
        Due.due("STRIPS", x.count(1), 0);
        Due.due("ponds", x.count(5), 0);
        Due.due("a pond, no strip", Due.read(x, FENCE + POND), 0);
        Due.due("ponds", x.count(5), 1);
        Due.due("a strip, no pond", Due.read(x, FENCE + STRIP), 1);
        Due.due("ponds", x.count(5), 0);
    }

    // fence: 'fence' A B ';' (0 to 12 both)
    private static void placesOfTheFence() {
        for (int a = 0; a <= 12; a++) {
            for (int b = 0; b <= 12; b++) {
                FenceYards x = Due.groundOf("fence " + a + " " + b + ";");
                Due.due("A of " + a + ", " + b, x.count(3), a);
                Due.due("B of " + a + ", " + b, x.count(4), b);
            }
        }
        fault("fence 13 4;", 6, 2);
        fault("fence 3 13;", 8, 2);
        fault("fence 999 4;", 6, 2);
        fault("fence 3 999;", 8, 2);
        fault("fence -1 4;", 6, 1);
        fault("fence 13 13;", 6, 2);
    }

    // pond: 'pond' RIM X ';' (0 the upper, 1 the lower rim ..)
    private static void rimsOfPonds() {
        FenceYards x = Due.groundOf("fence 3 3;pond 0 4;");
        Due.due("the upper rim's end", x.day(1, 0), Due.STATE);
        Due.due("the lower rim's end", x.day(0, 1), 3 * 13 + 4);
        FenceYards y = Due.groundOf("fence 3 3;pond 1 4;");
        Due.due("the lower rim's end", y.day(0, 1), Due.STATE);
        Due.due("the upper rim's end", y.day(1, 0), 4 * 13 + 3);
        fault(FENCE + "pond 2 5;", 15, 2);
        fault(FENCE + "pond 12 5;", 15, 2);
        fault(FENCE + "pond 999 5;", 15, 2);
    }

    // 0 to 12
    private static void placesOfPonds() {
        for (int place = 0; place <= 12; place++) {
            FenceYards x = new FenceYards();
            int a = place == 12 ? 11 : place + 1;
            String fence = "fence " + a + " " + a + ";";
            Due.due("pond at " + place, Due.read(x, fence + "pond 0 " + place + ";"), 0);
            Due.due("no end may be there", x.day(place - a, 0), Due.STATE);
            Due.due("pond at " + place, Due.read(x, fence + "pond 1 " + place + ";"), 0);
            Due.due("no end may be there", x.day(0, place - a), Due.STATE);
            Due.due("ponds", x.count(5), 1);
        }
        fault(FENCE + "pond 0 13;", 17, 2);
        fault(FENCE + "pond 1 13;", 17, 2);
        fault(FENCE + "pond 0 999;", 17, 2);
    }

    // no end of the fence
    private static void noPondAtAnEnd() {
        for (int place = 0; place <= 12; place++) {
            int other = 12 - place == place ? 0 : 12 - place;
            fault(text(place, other, 0, place), at(place, other), 2);
            fault(text(other, place, 1, place), at(other, place), 2);
        }
        fault("fence 0 12;pond 0 000;", 18, 2);
        fault("fence 0 12;pond 1 012;", 18, 2);
    }

    private static String text(int a, int b, int rim, int place) {
        return "fence " + a + " " + b + ";pond " + rim + " " + place + ";";
    }

    private static int at(int a, int b) {
        return ("fence " + a + " " + b + ";pond 0 ").length();
    }

    // no end of the fence: that on its own rim
    private static void pondAcross() {
        FenceYards x = new FenceYards();
        Due.due("ponds where the other rim's end is", Due.read(x, FENCE + "pond 0 4;pond 1 3;"), 0);
        Due.due("ponds", x.count(5), 2);
        Due.due("A cannot go there", x.day(1, 0), Due.STATE);
        Due.due("B cannot go there", x.day(0, -1), Due.STATE);
    }

    // 6 at most
    private static void sixPonds() {
        String five = "pond 0 0;pond 0 12;pond 1 0;pond 1 12;pond 0 5;";
        FenceYards x = new FenceYards();
        Due.due("five", Due.read(x, FENCE + five), 0);
        Due.due("ponds", x.count(5), 5);
        Due.due("six", Due.read(x, FENCE + five + "pond 1 5;"), 0);
        Due.due("ponds", x.count(5), 6);
        Due.due("the sixth is one", x.day(0, 1), Due.STATE);
        String six = FENCE + five + "pond 1 5;";
        fault(six + "pond 1 6;", six.length(), 3);
        fault(six + "\n pond 1 6;", six.length() + 2, 3);
        Due.due("six, and a strip", Due.read(x, six + STRIP), 1);
    }

    // strip: .. 0 to 99
    private static void worths() {
        FenceYards x = new FenceYards();
        Due.due("both ends", Due.read(x, FENCE + "strip bean 0 1;strip bean 99 1;"), 2);
        Due.due("the least WORTH", x.strip(0, 0), 0);
        Due.due("the greatest WORTH", x.strip(1, 0), 99);
        fault(FENCE + "strip bean 100 1;", 21, 2);
        fault(FENCE + "strip bean 999 1;", 21, 2);
        fault(FENCE + "strip bean -1 1;", 21, 1);
    }

    // 0 to 11
    private static void ripes() {
        FenceYards x = new FenceYards();
        Due.due("both ends", Due.read(x, FENCE + "strip bean 1 0;strip bean 1 11;"), 2);
        Due.due("the least RIPE", x.strip(0, 1), 0);
        Due.due("the greatest RIPE", x.strip(1, 1), 11);
        fault(FENCE + "strip bean 1 12;", 23, 2);
        fault(FENCE + "strip bean 1 99;", 23, 2);
        fault(FENCE + "strip bean 100 12;", 21, 2);
    }

    // SORT: 'bean' | 'apple' | 'rye' | 'grass' | 'clover'
    private static void sorts() {
        String[] sorts = {"bean", "apple", "rye", "grass", "clover"};
        for (int sort = 0; sort < 5; sort++) {
            FenceYards x = Due.groundOf(FENCE + "strip " + sorts[sort] + " 1 1;");
            Due.due("kind of " + sorts[sort], x.kind(0), sort + 1);
        }
        fault(FENCE + "strip oat 1 1;", 16, 1);
        fault(FENCE + "strip 1 1;", 16, 1);
        fault(FENCE + "strip ;", 16, 1);
    }

    // told in order, STRIPS 0 .. 11 from the left .., 12 at most
    private static void twelveStrips() {
        StringBuilder text = new StringBuilder(FENCE);
        FenceYards x = new FenceYards();
        for (int strip = 0; strip < 12; strip++) {
            text.append("strip bean " + (strip + 40) + " " + strip + ";");
            Due.due(strip + 1 + " STRIPS", Due.read(x, text.toString()), strip + 1);
            Due.due("count(1)", x.count(1), strip + 1);
            Due.due("the last one", x.strip(strip, 0), strip + 40);
            Due.due("none behind it", x.strip(strip + 1, 0), Due.BAD);
        }
        for (int strip = 0; strip < 12; strip++) {
            Due.due("in order", x.strip(strip, 1), strip);
        }
        fault(text + "strip bean 1 1;", text.length(), 3);
        fault(text + " strip", text.length() + 1, 3);
    }

    // ground: fence { pond } { strip }
    private static void pondsAheadOfStrips() {
        FenceYards x = new FenceYards();
        Due.due("a pond, a strip", Due.read(x, FENCE + POND + STRIP), 1);
        fault(FENCE + STRIP + POND, 24, 1);
        fault(FENCE + POND + STRIP + POND, 33, 1);
        fault(FENCE + STRIP + FENCE, 24, 1);
        fault(POND + FENCE, 0, 1);
        fault(STRIP + FENCE, 0, 1);
    }

    // 1 it cannot stand there, or is none
    private static void eachTokenAtEachPlace() {
        tokensAt("", "fence");
        tokensAt("fence ", "number");
        tokensAt("fence 3 ", "number");
        tokensAt("fence 3 4 ", ";");
        tokensAt(FENCE, "pond strip end");
        tokensAt(FENCE + "pond ", "number");
        tokensAt(FENCE + "pond 0 ", "number");
        tokensAt(FENCE + "pond 0 5 ", ";");
        tokensAt(FENCE + POND, "pond strip end");
        tokensAt(FENCE + "strip ", "bean apple rye grass clover");
        tokensAt(FENCE + "strip rye ", "number");
        tokensAt(FENCE + "strip rye 7 ", "number");
        tokensAt(FENCE + "strip rye 7 8 ", ";");
        tokensAt(FENCE + STRIP, "strip end");
        tokensAt(FENCE + POND + STRIP, "strip end");
    }

    private static void tokensAt(String ahead, String can) {
        for (String token : TOKENS) {
            boolean number = token.matches("[0-9]{1,3}");
            String sort = token.isEmpty() ? "end" : number ? "number" : token;
            FenceYards x = new FenceYards();
            int got = Due.read(x, ahead + token);
            boolean here = got == -1000100 - ahead.length() && x.fault() == 1;
            boolean stands = java.util.List.of(can.split(" ")).contains(sort);
            Due.holds("'" + token + "' behind '" + ahead + "' has FAULT 1: " + !stands,
                here != stands);
        }
    }

    // 1 it cannot stand there .. (the end: how many bytes there are)
    private static void theEnd() {
        String text = FENCE + POND + STRIP;
        for (int bytes = 0; bytes < text.length(); bytes++) {
            String cut = text.substring(0, bytes);
            boolean whole = bytes == 10 || bytes == 19;
            boolean inWord = cut.matches("(.*;)?[a-z]*") && !cut.endsWith(";")
                && !cut.matches("(.*;)?(fence|pond|strip)");
            if (!whole && !inWord && !cut.endsWith(" r") && !cut.endsWith(" ry")) {
                fault(cut, bytes, 1);
                fault(cut + " ", bytes + 1, 1);
                fault(cut + "\n \n", bytes + 3, 1);
            }
        }
        fault("   ", 3, 1);
    }

    // FAULTS, the first TOKEN that has one (its first byte)
    private static void theFirstTokenThatHasOne() {
        fault("fence 13 {", 6, 2);
        fault("fence { 13;", 6, 1);
        fault(FENCE + "pond 2 13;", 15, 2);
        fault(FENCE + "pond 0 3 {", 17, 2);
        fault(FENCE + "pond 0 13 pond", 17, 2);
        fault(FENCE + "strip oat 100 12;", 16, 1);
        fault(FENCE + "strip rye 100 {", 20, 2);
        fault(FENCE + "strip rye 7 12", 22, 2);
        fault(FENCE + "strip rye 7 8 strip", 24, 1);
        fault(FENCE + "\n\n  oat", 14, 1);
    }

    // of one TOKEN the least
    private static void ofOneTokenTheLeast() {
        fault("fence 1000 4;", 6, 1);
        fault(FENCE + "pond 0 1000;", 17, 1);
        String six = FENCE + POND.repeat(6);
        fault(six + STRIP + POND, six.length() + STRIP.length(), 1);
        String twelve = FENCE + "strip rye 7 8;".repeat(12);
        fault(twelve + POND, twelve.length(), 1);
        fault(six + STRIP.repeat(12) + POND, six.length() + 12 * STRIP.length(), 1);
        fault(six + STRIP.repeat(12) + STRIP, six.length() + 12 * STRIP.length(), 3);
    }

    // 3 a pond, a strip more than there is room for (its word)
    private static void noRoomIsToldAtTheWord() {
        String six = FENCE + POND.repeat(6);
        fault(six + "pond", six.length(), 3);
        fault(six + "pond 9 99", six.length(), 3);
        fault(six + "pond {", six.length(), 3);
        fault(six + "ponds 0 5;", six.length(), 1);
        String twelve = FENCE + STRIP.repeat(12);
        fault(twelve + "strip oat", twelve.length(), 3);
        fault(twelve + "strip", twelve.length(), 3);
        fault(twelve + "strips rye 1 1;", twelve.length(), 1);
    }

    // all but the tape, and what fault() tells, stays
    private static void aFaultLeavesAllElse() {
        Stays.faulted(Past::rich, "fence 1 2", 9, 1);
        Stays.faulted(Past::rich, "fence 1 13;", 8, 2);
        Stays.faulted(Past::rich, "fence 12 0;pond 0 1;pond 1 1;pond 1 0;", 36, 2);
        Stays.faulted(Past::rich, "fence 9 9;" + "pond 0 1;".repeat(7), 64, 3);
        Stays.faulted(Past::rich, "fence 9 9;" + "strip bean 1 1;".repeat(13), 190, 3);
        Stays.faulted(Past::rich, "fence 9 9;" + "strip bean 1 1;".repeat(12) + ";", 190, 1);
        Stays.faulted(Past::lastDay, "fence 9 9;strip rye 1 1", 23, 1);
        Stays.faulted(Past::firstDay, "fence 0 0;strip rye 1 12;", 22, 2);
        Stays.faulted(Past::fresh, "fence 0 0;strip rye 1 12;", 22, 2);
        Stays.faulted(Past::fresh, "fence 3 4", 9, 1);
    }

    // The number of the latest FAULT; 0 before one.
    private static void theLatestFault() {
        FenceYards x = new FenceYards();
        Due.due("fault() before one", x.fault(), 0);
        Due.read(x, FENCE);
        Due.due("fault() behind a GROUND without one", x.fault(), 0);
        Due.read(x, FENCE + "pond 0 5;".repeat(7));
        Due.due("fault()", x.fault(), 3);
        Due.due("fault() again", x.fault(), 3);
        Due.read(x, FENCE);
        Due.due("fault() behind a GROUND", x.fault(), 3);
        Due.read(x, "fence 13");
        Due.due("fault()", x.fault(), 2);
        Due.read(x, "fence 12");
        Due.due("fault()", x.fault(), 1);
        x.image(0);
        x.restore(0);
        x.row(0, 0, -1);
        Due.due("fault() behind other calls", x.fault(), 1);
    }

    // A GROUND that is read stands in place of the one before: DAY 0; nothing was reaped
    private static void inPlaceOfTheOneBefore() {
        String text = "fence 6 2;pond 1 4;strip clover 50 3;strip apple 9 0;";
        // IMAGES, ROWS and THE TRACE are those of the object, not of the GROUND.
        Stays.alike("a GROUND behind another", () -> asked(text), () -> {
            FenceYards x = Due.groundOf(Past.ALL_SORTS);
            x.day(1, 1);
            x.day(1, 0);
            x.day(0, 1);
            Due.read(x, text);
            x.ask(0, 0);
            return x;
        });
        Stays.alike("a GROUND behind twelve DAYS", () -> asked(text), () -> {
            FenceYards x = Due.groundOf("fence 0 0;" + "strip rye 99 0;".repeat(12));
            for (int d = 0; d < 12; d++) {
                x.day(1, 1);
            }
            Due.read(x, text);
            x.ask(0, 0);
            return x;
        });
        FenceYards x = Past.lastDay();
        Due.due("no DAY is left", x.count(2), 12);
        Due.due("the next GROUND", Due.read(x, text), 2);
        Due.due("DAY 0", x.count(2), 0);
        Due.due("nothing was reaped", x.reaped(0, 0), 0);
        Due.due("nothing was reaped", x.reaped(1, 0), 0);
        Due.due("none can be undone", x.undo(), Due.STATE);
    }

    /** Of GROUNDS before this one no STRIP is left. */
    private static void fewerStripsThanBefore() {
        FenceYards x = new FenceYards();
        for (int i = 0; i < 3; i++) {
            Due.due("twelve", Due.read(x, FENCE + STRIP.repeat(12)), 12);
            Due.due("twelve", Due.read(x, FENCE + STRIP.repeat(12)), 12);
            Due.due("five", Due.read(x, FENCE + STRIP.repeat(5)), 5);
            Due.due("the fifth", x.kind(4), 3);
            Due.due("strip(5, 0)", x.strip(5, 0), Due.BAD);
            Due.due("crop(5, 8)", x.crop(5, 8), Due.BAD);
            Due.due("kind(5)", x.kind(5), Due.BAD);
            Due.due("as(5, 0)", x.as(5, 0), Due.BAD);
            Due.due("ask(5, 0)", x.ask(5, 0), Due.BAD);
            Due.due("sow of 5", x.sow(5, 0, 0, 0, 1, 0), Due.BAD);
        }
        Due.read(x, "fence 12 12;pond 0 11;pond 1 11;" + STRIP);
        for (int d = 0; d < 9; d++) {
            x.day(0, 0);
        }
        Due.due("just STRIP 0 is reaped", x.reaped(0, 0), 7);
    }

    private static FenceYards asked(String text) {
        FenceYards x = Due.groundOf(text);
        x.ask(0, 0);
        return x;
    }

    // IMAGES and ROWS stay
    private static void imagesAndRowsStay() {
        FenceYards x = Past.rich();
        Due.due("ROWS", x.count(0), 4);
        Due.due("a GROUND", Due.read(x, "fence 0 0;"), 0);
        Due.due("ROWS stay", x.count(0), 4);
        Due.due("status() stays", x.status(), 2);
        Due.due("THE TRACE stays", x.trace(0), 12);
        Due.due("an ITEM stays", x.best(1, 5, 0), Due.BAD);
        Due.due("no IMAGE came", x.restore(1), Due.STATE);
        Due.due("the IMAGE stays", x.restore(0), 1);
        Due.due("its STRIPS", x.count(1), 2);
        Due.due("its DAY", x.count(2), 1);
        Due.due("its A", x.count(3), 3);
        Due.due("drop(2)", x.drop(2), 40);
    }

    // what is not told is bare: WORTH 0
    private static void bareGround() {
        FenceYards x = Due.groundOf("fence 12 12;");
        for (int d = 0; d < 12; d++) {
            Due.due("all of it brings nothing", x.unseen(0, 1, 0), 4);
            x.day(0, 0);
        }
        Due.due("the LEFT man's", x.reaped(0, 0), 0);
        Due.due("the RIGHT man's", x.reaped(1, 0), 0);
        FenceYards y = Due.groundOf("fence 12 12;strip rye 30 0;");
        Due.due("STRIP 0 alone brings something", y.game(12, 0), 60);
    }

    // how many STRIPS were told
    private static void howManyWereTold() {
        for (int strips = 0; strips <= 12; strips++) {
            FenceYards x = new FenceYards();
            Due.due("ground", Due.read(x, FENCE + POND + STRIP.repeat(strips)), strips);
            Due.due("count(1)", x.count(1), strips);
        }
    }
}
