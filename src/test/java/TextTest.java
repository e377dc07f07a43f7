/** Promises 1 (a new object), 6 (feed), 7 (ground), 8 (fault), and the bytes of count() (26). */
public final class TextTest {
    private static final String FENCE = "fence 3 4;";

    private TextTest() {
    }

    public static void main(String[] args) {
        newObject();
        feeding();
        grounds();
        blanks();
        tokens();
        whatThereWasOnTheTape();
        misplaced();
        wrongNumbers();
        noRoom();
        whatAFaultLeaves();
        whatAGroundReplaces();
        Due.end();
    }

    private static void newObject() {
        FenceYards x = new FenceYards();
        for (int what = 0; what <= 6; what++) {
            Due.due("count(" + what + ") of a new object", x.count(what), 0);
        }
        Due.due("fault() of a new object", x.fault(), 0);
        Due.due("day(5, 5): STATE is ahead of BAD", x.day(5, 5), Due.STATE);
        Due.due("reaped(5, 5)", x.reaped(5, 5), Due.STATE);
        Due.due("best(9, 0, -9)", x.best(9, 0, -9), Due.STATE);
        Due.due("game(0, 9)", x.game(0, 9), Due.STATE);
        Due.due("treaty(0, 9)", x.treaty(0, 9), Due.STATE);
        Due.due("unseen(-1, 0, 9)", x.unseen(-1, 0, 9), Due.STATE);
        Due.due("sure(0)", x.sure(0), Due.STATE);
        Due.due("undo()", x.undo(), Due.STATE);
        Due.due("strip(0, 0)", x.strip(0, 0), Due.BAD);
        Due.due("trace(0)", x.trace(0), Due.NONE);
    }

    private static void feeding() {
        FenceYards x = new FenceYards();
        Due.due("feed(0, 0)", x.feed(0L, 0), Due.BAD);
        Due.due("feed(0, 9)", x.feed(0L, 9), Due.BAD);
        Due.due("feed(0, -1)", x.feed(0L, -1), Due.BAD);
        for (int i = 1; i <= 49; i++) {
            Due.due("feed " + i, x.feed(-1L, 8), 8 * i);
        }
        Due.due("feed 7", x.feed(0L, 7), 399);
        Due.due("feed 2: FULL", x.feed(0L, 2), Due.FULL);
        Due.due("none came", x.count(6), 399);
        Due.due("feed 9: BAD is ahead of FULL", x.feed(0L, 9), Due.BAD);
        Due.due("feed 1", x.feed(0L, 1), 400);
        Due.due("feed 1: FULL", x.feed(0L, 1), Due.FULL);
        Due.due("400 bytes are read", x.ground(), -1000100);
        Due.due("the tape is empty", x.count(6), 0);
        // Above the lowest n bytes there may be anything.
        x.feed(0x7a7a66656e636520L, 6);
        x.feed(0x7a30203B20302030L, 1);
        x.feed(0xffffff2033203bL, 4);
        Due.due("the lowest bytes come, the highest first", x.ground(), 0);
        Due.due("A", x.count(3), 0);
        Due.due("B", x.count(4), 3);
    }

    private static void grounds() {
        FenceYards x = new FenceYards();
        String text = "fence 0 12;pond 0 1;pond 1 11;pond 0 12;pond 1 0;pond 0 5;pond 0 5;"
            + "strip bean 0 0;strip apple 99 11;strip rye 1 2;strip grass 3 4;strip clover 5 6;";
        Due.due("ground", Due.read(x, text), 5);
        Due.due("STRIPS", x.count(1), 5);
        Due.due("A", x.count(3), 0);
        Due.due("B", x.count(4), 12);
        Due.due("ponds told, like ones too", x.count(5), 6);
        Due.due("fault()", x.fault(), 0);
        for (int strip = 0; strip < 5; strip++) {
            Due.due("kind", x.kind(strip), strip + 1);
        }
        Due.due("worth", x.strip(1, 0), 99);
        Due.due("ripe", x.strip(1, 1), 11);
        Due.due("ripe", x.strip(4, 1), 6);
        // A pond may be where the end on the OTHER rim is.
        Due.due("ponds across", Due.read(x, "fence 3 4;pond 0 4;pond 1 3;"), 0);
    }

    private static void blanks() {
        FenceYards x = new FenceYards();
        Due.due("blanks", Due.read(x, " \n fence\n3  4\n;\n strip \n bean 1 2 ;\n\n"), 1);
        Due.due("no blanks", Due.read(x, "fence3 4;pond0 2;strip rye7 8;"), 1);
        Due.due("worth", x.strip(0, 0), 7);
        Due.due("a tab is none", Due.read(x, "fence\t3 4;"), -1000105);
        Due.due("byte 13 is none", Due.read(x, "fence 3 4;\r\n"), -1000110);
        Due.due("byte 0 is none", Due.read(x, "fence 3 4;\0"), -1000110);
    }

    private static void tokens() {
        FenceYards x = new FenceYards();
        Due.due("leading zeros", Due.read(x, "fence 012 003;"), 0);
        Due.due("A", x.count(3), 12);
        Due.due("B", x.count(4), 3);
        fault(x, "fence 0003 4;", 6, 1);
        fault(x, "fence 3 00000000000000000004;", 8, 1);
        fault(x, "fence 3 4;strip bean 1 99999999999;", 23, 1);
        fault(x, "fences 3 4;", 0, 1);
        fault(x, "fencez 3 4;", 0, 1);
        fault(x, "afence 3 4;", 0, 1);
        fault(x, "gence 3 4;", 0, 1);
        fault(x, "fenc 3 4;", 0, 1);
        fault(x, "Fence 3 4;", 0, 1);
        fault(x, "fencE 3 4;", 0, 1);
        fault(x, "fence 3 34", 8, 2);
        fault(x, "fence 34;", 6, 2);
        fault(x, "fence 3x4;", 7, 1);
        fault(x, "fence -3 4;", 6, 1);
        fault(x, "fence 3 4:", 9, 1);
        fault(x, "fence 3 4" + (char) 0xbb, 9, 1);
        fault(x, FENCE + "striprye 1 1;", 10, 1);
        fault(x, FENCE + "strip ryegrass 1 1;", 16, 1);
        fault(x, FENCE + "strip rye 1 1;{", 24, 1);
        fault(x, FENCE + "strip rye 1 1;`", 24, 1);
        fault(x, FENCE + "strip rye /1 1;", 20, 1);
    }

    /** Bytes of a text before, behind the end of this one, are none of it. */
    private static void whatThereWasOnTheTape() {
        FenceYards x = new FenceYards();
        Due.due("a longer one", Due.read(x, "fence 1 12;"), 0);
        fault(x, "fence 1 1", 9, 1);
        fault(x, "fences", 0, 1);
        fault(x, "fence", 5, 1);
        fault(x, "fence ", 6, 1);
        fault(x, "fence", 5, 1);
        Due.due("a longer one", Due.read(x, "fence 1 2;strip rye 1 1;"), 1);
        Due.due("a shorter one", Due.read(x, "fence 1 2;"), 0);
    }

    private static void misplaced() {
        FenceYards x = new FenceYards();
        fault(x, "", 0, 1);
        fault(x, "  \n", 3, 1);
        fault(x, "fence", 5, 1);
        fault(x, "fence 1 ", 8, 1);
        fault(x, "fence ;", 6, 1);
        fault(x, "fence a 1;", 6, 1);
        fault(x, "fence 1 2 3;", 10, 1);
        fault(x, "fence 1 2 pond 0 0;", 10, 1);
        fault(x, "; fence 1 2;", 0, 1);
        fault(x, "12", 0, 1);
        fault(x, FENCE + FENCE, 10, 1);
        fault(x, FENCE + " 1", 11, 1);
        fault(x, FENCE + "bean 1 1;", 10, 1);
        fault(x, FENCE + "strip 1 1;", 16, 1);
        fault(x, FENCE + "strip strip 1 1;", 16, 1);
        fault(x, FENCE + "strip bean;", 20, 1);
        fault(x, FENCE + "strip bean 1;", 22, 1);
        fault(x, FENCE + "strip bean 1 1 1;", 25, 1);
        fault(x, FENCE + "strip bean 1 1;pond 0 1;", 25, 1);
        fault(x, FENCE + "pond;", 14, 1);
        fault(x, FENCE + "pond 1;", 16, 1);
        fault(x, FENCE + "pond 1 1", 18, 1);
    }

    private static void wrongNumbers() {
        FenceYards x = new FenceYards();
        fault(x, "fence 13 4;", 6, 2);
        fault(x, "fence 3 13;", 8, 2);
        fault(x, "fence 3 999;", 8, 2);
        fault(x, "fence 13 A;", 6, 2);
        fault(x, FENCE + "pond 2 1;", 15, 2);
        fault(x, FENCE + "pond 0 13;", 17, 2);
        fault(x, FENCE + "pond 0 3;", 17, 2);
        fault(x, FENCE + "pond 1 4;", 17, 2);
        fault(x, FENCE + "pond 1 04;", 17, 2);
        fault(x, FENCE + "strip bean 100 1;", 21, 2);
        fault(x, FENCE + "strip bean 99 12;", 24, 2);
    }

    private static void noRoom() {
        FenceYards x = new FenceYards();
        String ponds = "pond 0 0;".repeat(6);
        String strips = "strip bean 1 1;".repeat(12);
        Due.due("6 ponds, 12 strips", Due.read(x, FENCE + ponds + strips), 12);
        Due.due("ponds", x.count(5), 6);
        fault(x, FENCE + ponds + " pond 9", 65, 3);
        fault(x, FENCE + strips + "strip oat", 190, 3);
        fault(x, FENCE + ponds + strips + "pond 0 0;", 244, 1);
    }

    private static void whatAFaultLeaves() {
        FenceYards x = Due.groundOf("fence 6 6;pond 0 1;strip bean 10 0;strip bean 20 1;");
        x.day(0, 0);
        x.row(2, 0, 3);
        x.image(1);
        x.ask(0, 1);
        fault(x, "fence 1 2;pond 1 1;pond 1 1;strip rye 5 5;strip oat", 48, 1);
        Due.due("STRIPS stay", x.count(1), 2);
        Due.due("the DAY stays", x.count(2), 1);
        Due.due("A stays", x.count(3), 6);
        Due.due("ponds stay", x.count(5), 1);
        Due.due("the tape is empty", x.count(6), 0);
        Due.due("what was reaped stays", x.reaped(0, 0), 10);
        Due.due("THE TRACE stays", x.trace(0), 21);
        Due.due("undo()", x.undo(), 0);
        fault(x, "fence 1 99;", 8, 2);
        Due.due("a GROUND", Due.read(x, "fence 1 9;"), 0);
        Due.due("fault() is the latest one's", x.fault(), 2);
    }

    private static void whatAGroundReplaces() {
        FenceYards x = Due.groundOf("fence 6 6;pond 0 5;strip bean 10 0;strip bean 20 1;");
        x.day(0, 1);
        x.row(2, 0, 3);
        x.image(0);
        x.set(2, 9, 9);
        Due.due("the next ground", Due.read(x, "fence 6 2;strip rye 7 3;"), 1);
        Due.due("STRIPS", x.count(1), 1);
        Due.due("DAY 0", x.count(2), 0);
        Due.due("A", x.count(3), 6);
        Due.due("B", x.count(4), 2);
        Due.due("ponds", x.count(5), 0);
        Due.due("ROWS stay", x.count(0), 1);
        Due.due("status() stays", x.status(), 2);
        Due.due("nothing was reaped", x.reaped(0, 0), 0);
        Due.due("nothing can be undone", x.undo(), Due.STATE);
        Due.due("the old pond is gone", x.day(-1, 0), 5 * 13 + 2);
        Due.read(x, "fence 6 2;");
        Due.due("no STRIP of the one before", x.strip(0, 0), Due.BAD);
        Due.due("nor of the one ahead of that", x.strip(1, 0), Due.BAD);
        Due.due("nothing of them is reaped", x.unseen(0, 1, 0), 9);
        Due.due("IMAGES stay", x.restore(0), 1);
        Due.due("STRIPS", x.count(1), 2);
        Due.due("the DAY", x.count(2), 1);
    }

    private static void fault(FenceYards x, String text, int place, int number) {
        Due.due("ground of '" + text + "'", Due.read(x, text), -1000100 - place);
        Due.due("fault of '" + text + "'", x.fault(), number);
    }
}
