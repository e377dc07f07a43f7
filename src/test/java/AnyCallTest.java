/** No call throws or answers twice differently, for any numbers in any state. */
public final class AnyCallTest {
    private static final int[] NUMBERS = {Integer.MIN_VALUE, Integer.MIN_VALUE + 1, -1000000, -129,
        -3, -2, -1, -1, 0, 0, 0, 1, 1, 1, 2, 2, 3, 4, 5, 6, 7, 8, 9, 10, 11, 12, 13, 15, 16, 39, 40,
        41, 99, 100, 128, 399, 400, 9999, 10000, Integer.MAX_VALUE - 1, Integer.MAX_VALUE};
    private static final String[] WORDS = {"fence ", "pond ", "strip ", "bean ", "apple ", "rye ",
        "grass ", "clover ", "0 ", "1 ", "2;", "12;", "13 ", ";", "0000 ", "\n", "{", "\u00ff"};
    private static final String[] GROUNDS = {"fence 0 12;", "fence 12 0;strip apple 9 0;",
        "fence 6 6;pond 0 5;pond 0 7;pond 1 5;pond 1 7;strip rye 99 0;strip grass 7 2;",
        "fence 3 9;pond 0 0;" + "strip clover 50 5;".repeat(12)};
    private static long seed = 99;

    private AnyCallTest() {
    }

    public static void main(String[] args) {
        for (int run = 0; run < 1200; run++) {
            long begin = seed;
            int[] first = answers();
            seed = begin;
            int[] second = answers();
            for (int i = 0; i < first.length; i++) {
                Due.due("run " + run + ", call " + i + " once more", second[i], first[i]);
            }
        }
        Due.end();
    }

    private static int pick(int bound) {
        seed = seed * 6364136223846793005L + 1442695040888963407L;
        return (int) ((seed >>> 33) % bound);
    }

    private static int any() {
        return NUMBERS[pick(NUMBERS.length)];
    }

    private static int small() {
        return pick(3) == 0 ? any() : pick(13);
    }

    private static int[] answers() {
        FenceYards x = new FenceYards();
        int[] answers = new int[120];
        for (int i = 0; i < answers.length; i++) {
            answers[i] = pick(3) == 0 ? steer(x) : pick(2) == 0 ? anyCall(x) : anyAsk(x);
        }
        return answers;
    }

    private static int steer(FenceYards x) {
        switch (pick(7)) {
            case 0: return Due.read(x, GROUNDS[pick(GROUNDS.length)]);
            case 1: return Due.read(x, anyText());
            case 2: return x.undo();
            case 3: return x.row(pick(8), pick(3), pick(41));
            case 4: return x.image(pick(2));
            case 5: return x.restore(pick(2));
            default: return x.day(pick(3) - 1, pick(3) - 1);
        }
    }

    private static String anyText() {
        StringBuilder text = new StringBuilder(pick(2) == 0 ? "fence 4 4;" : "");
        for (int i = pick(20); i > 0; i--) {
            text.append(WORDS[pick(WORDS.length)]);
        }
        return text.toString();
    }

    private static int anyCall(FenceYards x) {
        switch (pick(14)) {
            case 0: return x.row(small(), any(), any());
            case 1: return x.set(small(), any(), any());
            case 2: return x.copy(small(), any(), small(), any(), any());
            case 3: return x.drop(any());
            case 4: return x.feed((long) any() * any(), any());
            case 5: return x.ground();
            case 6: return x.day(any(), any());
            case 7: return x.best(small(), small(), any());
            case 8: return x.game(small(), small());
            case 9: return x.treaty(small(), small());
            case 10: return x.sow(small(), small(), small(), small(), small(), pick(2));
            case 11: return x.unseen(any(), any(), pick(3));
            case 12: return x.image(any());
            default: return x.restore(any());
        }
    }

    private static int anyAsk(FenceYards x) {
        switch (pick(11)) {
            case 0: return x.strip(small(), small());
            case 1: return x.crop(small(), any());
            case 2: return x.reaped(any(), any());
            case 3: return x.sure(any());
            case 4: return x.kind(any());
            case 5: return x.as(small(), small());
            case 6: return x.ask(small(), pick(3));
            case 7: return x.trace(any());
            case 8: return x.count(any());
            case 9: return x.fault();
            default: return x.status();
        }
    }
}
