import java.util.ArrayDeque;
import java.util.ArrayList;
import java.util.Deque;
import java.util.HashSet;
import java.util.List;
import java.util.Set;

/** Many grounds, moved about, beside a model: promises 7, 9 to 19 on inputs nobody thought of. */
public final class ModelTest {
    private static final String[] SORTS = {"bean", "apple", "rye", "grass", "clover"};
    private static long seed = 12345;

    private ModelTest() {
    }

    public static void main(String[] args) {
        for (int run = 0; run < 300; run++) {
            oneGround(run);
        }
        Due.end();
    }

    /** Numbers that look strewn, the same in each run of the test. */
    private static int pick(int bound) {
        seed = seed * 6364136223846793005L + 1442695040888963407L;
        return (int) ((seed >>> 33) % bound);
    }

    private static void oneGround(int run) {
        int a = pick(13);
        int b = pick(13);
        StringBuilder text = new StringBuilder("fence " + a + " " + b + ";");
        List<Set<Integer>> ponds = List.of(new HashSet<>(), new HashSet<>());
        for (int i = pick(7); i > 0; i--) {
            int rim = pick(2);
            int x = pick(13);
            if (x != (rim == 0 ? a : b)) {
                ponds.get(rim).add(x);
                text.append("pond " + rim + " " + x + ";");
            }
        }
        Model model = new Model(a, b, ponds.get(0), ponds.get(1));
        for (int i = pick(13); i > 0; i--) {
            Model.Strip strip = anyStrip();
            model.strips.add(strip);
            text.append("strip " + SORTS[strip.sort()] + " " + strip.worth() + " " + strip.ripe() + ";");
        }
        FenceYards x = Due.groundOf(text.toString());
        manyDays("run " + run + ", " + text, x, model);
    }

    private static Model.Strip anyStrip() {
        return new Model.Strip(pick(5), pick(100), pick(12));
    }

    private static void manyDays(String name, FenceYards x, Model model) {
        Deque<int[]> ends = new ArrayDeque<>();
        Deque<Model.Ratio> lefts = new ArrayDeque<>();
        Model.Ratio left = Model.ZERO;
        int looks = 0;
        for (int i = 0; i < 18; i++) {
            String call = name + " step " + i;
            if (pick(4) == 0 && model.day > 0) {
                model.day--;
                model.a = ends.peek()[0];
                model.b = ends.pop()[1];
                left = lefts.pop();
                Due.due(call + " undo", x.undo(), model.day);
            } else {
                int toA = model.a + pick(3) - 1;
                int toB = model.b + pick(3) - 1;
                boolean can = model.day < 12 && model.canBe(0, toA) && model.canBe(1, toB);
                int due = can ? 13 * toA + toB : Due.STATE;
                Due.due(call + " day", x.day(toA - model.a, toB - model.b), due);
                if (can) {
                    ends.push(new int[] {model.a, model.b});
                    lefts.push(left);
                    left = left.plus(model.leftReaps(model.day, toA, toB));
                    model.a = toA;
                    model.b = toB;
                    model.day++;
                }
            }
            // Eight looks at most: an object is used for 512 calls.
            if (looks < 8 && pick(2) == 0) {
                looks++;
                reaped(call, x, model, left);
                foretold(call, x, model);
            }
        }
    }

    private static void reaped(String call, FenceYards x, Model model, Model.Ratio left) {
        Model.Ratio all = Model.ZERO;
        for (int d = 0; d < model.day; d++) {
            all = all.plus(model.allReaps(d));
        }
        same(call + " left", x.reaped(0, 0), x.reaped(0, 1), left);
        same(call + " right", x.reaped(1, 0), x.reaped(1, 1), all.minus(left));
        for (int strip = 0; strip < model.strips.size(); strip++) {
            same(call + " share", x.strip(strip, 2), x.strip(strip, 3),
                Model.share(model.a, model.b, strip));
        }
    }

    private static void foretold(String call, FenceYards x, Model model) {
        int n = 1 + pick(12);
        same(call + " game " + n, x.game(n, 0), x.game(n, 1), model.game(n));
        Due.due(call + " first move " + n, x.game(n, 2), model.firstMove(n));
        same(call + " treaty " + n, x.treaty(n, 0), x.treaty(n, 1), model.treaty(n));
        Due.due(call + " sure " + n, x.sure(n), model.sure(n));
        if (!model.strips.isEmpty()) {
            int at = pick(model.strips.size());
            Model.Strip sown = anyStrip();
            same(call + " sow",
                x.sow(at, sown.sort(), sown.worth(), sown.ripe(), n, 0),
                x.sow(at, sown.sort(), sown.worth(), sown.ripe(), n, 1),
                model.sow(at, sown, n));
        }
        best(call, x, model);
        unseen(call, x, model);
    }

    private static void best(String call, FenceYards x, Model model) {
        int n = 1 + pick(5);
        int[] told = new int[n];
        x.row(0, pick(3), n);
        for (int i = 0; i < n; i++) {
            told[i] = pick(3) - 1;
            x.set(0, i, told[i]);
        }
        List<Integer> moves = new ArrayList<>();
        Model.Ratio most = model.best(told, n, moves);
        same(call + " best", x.best(0, n, -2), x.best(0, n, -1), most);
        for (int k = 0; k <= n; k++) {
            int due = k < moves.size() ? moves.get(k) : Due.NONE;
            Due.due(call + " best's move " + k, x.best(0, n, k), due);
        }
    }

    /** What some pair of moves brings, if it can be told, and a number that is likely not brought. */
    private static void unseen(String call, FenceYards x, Model model) {
        Model.Ratio some = model.leftReaps(Math.min(11, model.day), model.a, model.b);
        if (some.above() <= 9999 && some.below() <= 99) {
            unseenFraction(call, x, model, (int) some.above(), (int) some.below());
        }
        unseenFraction(call, x, model, pick(60), 1 + pick(4));
    }

    private static void unseenFraction(String call, FenceYards x, Model model, int up, int down) {
        List<Integer> pairs = model.unseen(up, down);
        int first = pairs.isEmpty() ? Due.NONE : pairs.get(0);
        Due.due(call + " unseen " + up + " by " + down, x.unseen(up, down, 0), pairs.size());
        Due.due(call + " unseen, the first", x.unseen(up, down, 1), first);
    }

    private static void same(String call, int above, int below, Model.Ratio due) {
        Due.fraction(call, above, below, (int) due.above(), (int) due.below());
    }
}
