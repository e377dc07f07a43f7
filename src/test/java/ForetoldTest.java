/** Promises 14 (best), 15 (game), 16 (treaty), 17 (sow), 18 (unseen), 19 (sure). */
public final class ForetoldTest {
    private static final String TWELVE = "fence 7 5;pond 0 11;pond 1 2;pond 1 9;strip rye 60 0;"
        + "strip bean 20 3;strip apple 33 4;strip clover 17 2;strip grass 40 1;strip bean 80 5;"
        + "strip apple 50 6;strip rye 99 4;strip clover 23 7;strip grass 31 0;strip bean 64 8;"
        + "strip rye 45 9;";

    private ForetoldTest() {
    }

    public static void main(String[] args) {
        bestMoves();
        bestWhereHeCannot();
        bestOfLikeOnes();
        bestTillTheLastDay();
        bestRefused();
        games();
        gameOfLikeMoves();
        treaties();
        sowing();
        unseenDays();
        sureGround();
        nothingChanges();
        Due.end();
    }

    private static void bestMoves() {
        FenceYards x = Due.groundOf("fence 1 2;strip bean 0 0;strip bean 0 0;strip bean 12 1;");
        x.row(0, 1, 3);
        x.set(0, 0, 1);
        x.set(0, 1, -1);
        // B is at 3, 2, 2; A at 3 behind DAY 1: half of STRIP 2.
        Due.fraction("best", x.best(0, 3, -2), x.best(0, 3, -1), 6, 1);
        Due.due("move 0", x.best(0, 3, 0), 1);
        Due.due("move 1", x.best(0, 3, 1), 1);
        Due.due("move 2", x.best(0, 3, 2), -1);
        Due.due("move 3", x.best(0, 3, 3), Due.NONE);
        Due.due("move MAX", x.best(0, 3, Integer.MAX_VALUE), Due.NONE);
        Due.fraction("best of DAY 0", x.best(0, 1, -2), x.best(0, 1, -1), 0, 1);
    }

    private static void bestWhereHeCannot() {
        FenceYards x = Due.groundOf("fence 0 1;pond 1 3;pond 0 1;strip bean 0 0;strip bean 40 2;");
        x.row(0, 0, 3);
        for (int i = 0; i < 3; i++) {
            x.set(0, i, 1);
        }
        // B comes to 2 and stays there: a fourth of STRIP 1; A cannot leave 0.
        Due.fraction("best", x.best(0, 3, -2), x.best(0, 3, -1), 10, 1);
        Due.due("move 0", x.best(0, 3, 0), 0);
        Due.due("move 1", x.best(0, 3, 1), 0);
        x.row(0, 0, 3);
        for (int i = 0; i < 2; i++) {
            x.set(0, i, -1);
        }
        x.set(0, 2, 1);
        // B is at 0, 0, 1.
        Due.fraction("best", x.best(0, 3, -2), x.best(0, 3, -1), 0, 1);
    }

    private static void bestOfLikeOnes() {
        FenceYards x = Due.groundOf("fence 5 5;strip bean 9 2;");
        x.row(0, 0, 4);
        // Wherever A goes, STRIP 0 is the LEFT man's: the first row of moves.
        for (int k = 0; k < 4; k++) {
            Due.due("move " + k, x.best(0, 4, k), -1);
        }
        FenceYards y = Due.groundOf("fence 1 1;pond 0 0;strip bean 9 2;");
        y.row(0, 0, 2);
        Due.due("move 0", y.best(0, 2, 0), 0);
        Due.due("move 1", y.best(0, 2, 1), 0);
    }

    private static void bestTillTheLastDay() {
        FenceYards x = Due.groundOf("fence 0 0;strip bean 8 11;");
        for (int d = 0; d < 10; d++) {
            x.day(0, 0);
        }
        x.row(0, 0, 12);
        Due.fraction("best", x.best(0, 12, -2), x.best(0, 12, -1), 6, 1);
        Due.due("move 0", x.best(0, 12, 0), 1);
        Due.due("move 1", x.best(0, 12, 1), 1);
        Due.due("move 2", x.best(0, 12, 2), Due.NONE);
        Due.fraction("best of one", x.best(0, 1, -2), x.best(0, 1, -1), 0, 1);
        x.set(0, 11, 2);
        Due.due("an ITEM of a DAY that is none", x.best(0, 12, -2), Due.BAD);
        Due.due("without it", x.best(0, 11, -2), 6);
    }

    private static void bestRefused() {
        FenceYards x = Due.groundOf("fence 0 0;strip bean 8 11;");
        x.row(0, 2, 5);
        Due.due("best(8, 1, 0)", x.best(8, 1, 0), Due.BAD);
        Due.due("best(-1, 1, 0)", x.best(-1, 1, 0), Due.BAD);
        Due.due("best(0, 0, 0)", x.best(0, 0, 0), Due.BAD);
        Due.due("best(0, 13, 0)", x.best(0, 13, 0), Due.BAD);
        Due.due("best(0, 1, -3)", x.best(0, 1, -3), Due.BAD);
        Due.due("best(1, 13, 0): BAD is ahead of NULL", x.best(1, 13, 0), Due.BAD);
        Due.due("status()", x.status(), 0);
        Due.due("best(1, 1, 0)", x.best(1, 1, 0), Due.NULL);
        Due.due("status()", x.status(), 1);
        Due.due("best(0, 6, 0)", x.best(0, 6, 0), Due.PLACE);
        Due.due("status()", x.status(), 2);
        x.set(0, 4, 2);
        Due.due("best(0, 6, 0): PLACE is ahead of an ITEM", x.best(0, 6, 0), Due.PLACE);
        Due.due("best(0, 5, 0)", x.best(0, 5, 0), Due.BAD);
        Due.due("status() stays", x.status(), 2);
        x.set(0, 4, -2);
        Due.due("best(0, 5, 9)", x.best(0, 5, 9), Due.BAD);
        Due.due("best(0, 4, 9)", x.best(0, 4, 9), Due.NONE);
        x.set(0, 0, 2);
        Due.due("the first ITEM is no move", x.best(0, 4, 9), Due.BAD);
        x.set(0, 0, 1);
        x.best(0, 4, -2);
        Due.due("status()", x.status(), 0);
    }

    private static void games() {
        FenceYards x = Due.groundOf(TWELVE);
        Due.fraction("game 1", x.game(1, 0), x.game(1, 1), 60, 1);
        Due.fraction("game 3", x.game(3, 0), x.game(3, 1), 2531, 14);
        Due.fraction("game 12", x.game(12, 0), x.game(12, 1), 8457, 14);
        Due.due("first move", x.game(12, 2), 1);
        Due.due("game(0, 0)", x.game(0, 0), Due.BAD);
        Due.due("game(13, 0)", x.game(13, 0), Due.BAD);
        Due.due("game(1, 3)", x.game(1, 3), Due.BAD);
        Due.due("game(1, -1)", x.game(1, -1), Due.BAD);
        for (int d = 0; d < 9; d++) {
            x.day(0, 0);
        }
        Due.due("beyond DAY 11", x.game(12, 0), x.game(3, 0));
    }

    private static void gameOfLikeMoves() {
        Due.due("-1 is the first", Due.groundOf("fence 6 6;").game(3, 2), -1);
        Due.due("0, where -1 cannot be", Due.groundOf("fence 0 6;").game(3, 2), 0);
        Due.due("0, as a pond is there", Due.groundOf("fence 6 6;pond 0 5;").game(3, 2), 0);
        // Only with A moved to 2 the LEFT man keeps a part of STRIP 1, as B goes away.
        FenceYards x = Due.groundOf("fence 1 1;strip bean 0 0;strip bean 8 0;");
        Due.fraction("game", x.game(1, 0), x.game(1, 1), 2, 1);
        Due.due("1, which brings more", x.game(1, 2), 1);
    }

    private static void treaties() {
        FenceYards x = Due.groundOf(TWELVE);
        Due.fraction("treaty 3", x.treaty(3, 0), x.treaty(3, 1), 87, 14);
        Due.fraction("treaty 12", x.treaty(12, 0), x.treaty(12, 1), -2339, 14);
        FenceYards y = Due.groundOf("fence 1 1;strip bean 9 0;strip bean 8 1;");
        // Resting: 9. The GAME: STRIP 0 whole on DAY 0 needs both ends from 1 on.
        Due.fraction("treaty 1", y.treaty(1, 0), y.treaty(1, 1), 9, 4);
        Due.due("treaty(0, 0)", y.treaty(0, 0), Due.BAD);
        Due.due("treaty(13, 0)", y.treaty(13, 0), Due.BAD);
        Due.due("treaty(1, 2)", y.treaty(1, 2), Due.BAD);
        Due.due("treaty(1, -1)", y.treaty(1, -1), Due.BAD);
    }

    private static void sowing() {
        FenceYards x = Due.groundOf(TWELVE);
        Due.fraction("an apple", x.sow(5, 1, 99, 2, 6, 0), x.sow(5, 1, 99, 2, 6, 1), 333, 7);
        Due.fraction("less", x.sow(0, 4, 0, 0, 12, 0), x.sow(0, 4, 0, 0, 12, 1), -210, 1);
        Due.fraction("the same", x.sow(0, 2, 60, 0, 12, 0), x.sow(0, 2, 60, 0, 12, 1), 0, 1);
        sowEachSort();
        Due.due("strip -1", x.sow(-1, 0, 0, 0, 1, 0), Due.BAD);
        Due.due("strip 12", x.sow(12, 0, 0, 0, 1, 0), Due.BAD);
        Due.due("sort -1", x.sow(0, -1, 0, 0, 1, 0), Due.BAD);
        Due.due("sort 5", x.sow(0, 5, 0, 0, 1, 0), Due.BAD);
        Due.due("worth -1", x.sow(0, 0, -1, 0, 1, 0), Due.BAD);
        Due.due("worth 100", x.sow(0, 0, 100, 0, 1, 0), Due.BAD);
        Due.due("ripe -1", x.sow(0, 0, 0, -1, 1, 0), Due.BAD);
        Due.due("ripe 12", x.sow(0, 0, 0, 12, 1, 0), Due.BAD);
        Due.due("n 0", x.sow(0, 0, 0, 0, 0, 0), Due.BAD);
        Due.due("n 13", x.sow(0, 0, 0, 0, 13, 0), Due.BAD);
        Due.due("what -1", x.sow(0, 0, 0, 0, 1, -1), Due.BAD);
        Due.due("what 2", x.sow(0, 0, 0, 0, 1, 2), Due.BAD);
        Due.due("a bare STRIP", Due.groundOf("fence 1 1;").sow(0, 0, 0, 0, 1, 0), Due.BAD);
    }

    /** Both ends shut in by ponds: STRIP 0 is the LEFT man's, three fourths of 1, a fourth of 2. */
    private static void sowEachSort() {
        FenceYards x = Due.groundOf("fence 1 3;pond 0 0;pond 0 2;pond 1 2;pond 1 4;"
            + "strip bean 4 0;strip bean 4 0;strip bean 4 0;");
        Due.due("bean", x.sow(0, 0, 50, 1, 12, 0), 46);
        Due.due("rye: 50, 40, .. 10", x.sow(0, 2, 50, 1, 12, 0), 146);
        Due.due("grass: four times 25", x.sow(0, 3, 51, 1, 12, 0), 96);
        Due.due("clover: twice 50", x.sow(0, 4, 50, 1, 12, 0), 96);
        Due.due("apple: all of it", x.sow(1, 1, 50, 1, 12, 0), 47);
        Due.due("apple: nothing of it", x.sow(2, 1, 50, 1, 12, 0), -1);
    }

    private static void unseenDays() {
        FenceYards x = Due.groundOf("fence 2 3;strip bean 1 0;strip bean 8 0;strip bean 12 0;");
        // Just A at 1 and B at 2 bring 1 and a half of 8.
        Due.due("5: how many", x.unseen(5, 1, 0), 1);
        Due.due("5: the first", x.unseen(5, 1, 1), 0);
        Due.due("10 by 2", x.unseen(10, 2, 1), 0);
        Due.due("15, with A at 2, B at 3 and the other way: how many", x.unseen(15, 1, 0), 2);
        Due.due("15: the first", x.unseen(15, 1, 1), 4);
        Due.due("21, with A at 3, B at 3 or 4: how many", x.unseen(21, 1, 0), 2);
        Due.due("no such", x.unseen(3, 1, 0), 0);
        Due.due("no such", x.unseen(3, 1, 1), Due.NONE);
        Due.due("up -1", x.unseen(-1, 1, 0), Due.BAD);
        Due.due("up 10000", x.unseen(10000, 1, 0), Due.BAD);
        Due.due("up 9999", x.unseen(9999, 99, 0), 0);
        Due.due("down 0", x.unseen(1, 0, 0), Due.BAD);
        Due.due("down 100", x.unseen(1, 100, 0), Due.BAD);
        Due.due("what 2", x.unseen(1, 1, 2), Due.BAD);
        Due.due("what -1", x.unseen(1, 1, -1), Due.BAD);
        FenceYards y = Due.groundOf("fence 12 12;strip bean 99 0;".concat(
            "strip bean 99 0;".repeat(11)));
        Due.due("12 times 99", y.unseen(1188, 1, 1), 4);
        Due.due("12 times 99, by 8", y.unseen(9504, 8, 0), 1);
        Due.due("moves that cannot be do not count", y.unseen(1188, 1, 0), 1);
        Due.due("of the DAY", Due.groundOf("fence 6 6;strip bean 9 1;").unseen(0, 1, 0), 9);
        Due.due("ponds", Due.groundOf("fence 6 6;pond 0 5;pond 1 7;").unseen(0, 7, 0), 4);
        Due.due("ponds", Due.groundOf("fence 6 6;pond 0 5;pond 1 7;").unseen(0, 7, 1), 3);
    }

    private static void sureGround() {
        FenceYards x = Due.groundOf("fence 12 10;pond 1 7;");
        Due.due("sure(1)", x.sure(1), (1 << 9) - 1);
        Due.due("sure(2)", x.sure(2), (1 << 8) - 1);
        Due.due("sure(4): a pond", x.sure(4), (1 << 8) - 1);
        Due.due("sure(5)", x.sure(5), (1 << 7) - 1);
        Due.due("sure(11)", x.sure(11), 1);
        Due.due("sure(12)", x.sure(12), 0);
        Due.due("sure(0)", x.sure(0), Due.BAD);
        Due.due("sure(13)", x.sure(13), Due.BAD);
        FenceYards y = Due.groundOf("fence 12 12;pond 0 11;pond 1 11;");
        Due.due("all", y.sure(12), 4095);
        for (int d = 0; d < 11; d++) {
            x.day(0, 0);
        }
        Due.due("beyond DAY 11", x.sure(5), (1 << 7) - 1);
    }

    private static void nothingChanges() {
        FenceYards x = Due.groundOf(TWELVE);
        x.day(1, -1);
        x.row(0, 0, 5);
        x.image(0);
        int above = x.reaped(0, 0);
        x.best(0, 5, -2);
        x.game(7, 0);
        x.treaty(7, 0);
        x.sow(3, 2, 88, 1, 7, 0);
        x.unseen(5, 1, 0);
        x.sure(4);
        Due.due("the DAY", x.count(2), 1);
        Due.due("A", x.count(3), 8);
        Due.due("B", x.count(4), 4);
        Due.due("WORTH", x.strip(3, 0), 17);
        Due.due("KIND", x.kind(3), 5);
        Due.due("reaped", x.reaped(0, 0), above);
        Due.due("undo()", x.undo(), 0);
    }
}
