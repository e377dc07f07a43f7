import java.util.ArrayList;
import java.util.HashMap;
import java.util.List;
import java.util.Map;
import java.util.Set;

/** The ground once more, as plainly as the document tells it and as slowly: for ModelTest. */
final class Model {
    /** A fraction in lowest terms. */
    record Ratio(long above, long below) {
        static Ratio of(long above, long below) {
            long x = Math.abs(above);
            long y = below;
            while (y != 0) {
                long rest = x % y;
                x = y;
                y = rest;
            }
            return new Ratio(above / x, below / x);
        }

        Ratio plus(Ratio other) {
            return of(above * other.below + other.above * below, below * other.below);
        }

        Ratio times(long n) {
            return of(above * n, below);
        }

        Ratio minus(Ratio other) {
            return plus(other.times(-1));
        }

        boolean isMoreThan(Ratio other) {
            return above * other.below > other.above * below;
        }
    }

    record Strip(int sort, int worth, int ripe) {
        int crop(int day) {
            int since = day - ripe;
            return switch (sort) {
                case 2 -> since < 0 ? 0 : Math.max(0, worth - 10 * since);
                case 3 -> Set.of(0, 3, 6, 9).contains(since) ? worth / 2 : 0;
                case 4 -> since == 0 || since == 1 ? worth : 0;
                default -> since == 0 ? worth : 0;
            };
        }
    }

    static final Ratio ZERO = new Ratio(0, 1);

    int a;
    int b;
    int day = 0;
    final List<Strip> strips = new ArrayList<>();
    final List<Set<Integer>> ponds;
    private final Map<List<Integer>, Ratio> known = new HashMap<>();

    Model(int a, int b, Set<Integer> upperPonds, Set<Integer> lowerPonds) {
        this.a = a;
        this.b = b;
        ponds = List.of(upperPonds, lowerPonds);
    }

    boolean canBe(int rim, int x) {
        return x >= 0 && x <= 12 && !ponds.get(rim).contains(x);
    }

    static Ratio share(int a, int b, int x) {
        if (a == b) {
            return a > x ? Ratio.of(1, 1) : ZERO;
        }
        long halves = 0;
        for (int yard = Math.min(a, b); yard < Math.max(a, b); yard++) {
            halves += yard >= x + 1 ? 2 : yard == x ? 1 : 0;
        }
        return Ratio.of(halves, 2L * Math.abs(a - b));
    }

    Ratio leftReaps(int d, int upper, int lower) {
        Ratio sum = ZERO;
        for (int x = 0; x < strips.size(); x++) {
            Ratio share = share(upper, lower, x);
            if (strips.get(x).sort == 1) {
                share = share.isMoreThan(Ratio.of(1, 2)) ? Ratio.of(1, 1) : ZERO;
            }
            sum = sum.plus(share.times(strips.get(x).crop(d)));
        }
        return sum;
    }

    Ratio allReaps(int d) {
        return Ratio.of(strips.stream().mapToInt(s -> s.crop(d)).sum(), 1);
    }

    Ratio game(int n) {
        known.clear();
        return game(day, Math.min(12, day + n), a, b);
    }

    private Ratio game(int d, int end, int upper, int lower) {
        if (d >= end) {
            return ZERO;
        }
        List<Integer> key = List.of(d, upper, lower);
        if (!known.containsKey(key)) {
            Ratio most = null;
            for (int move = -1; move <= 1; move++) {
                Ratio least = canBe(0, upper + move) ? least(d, end, upper + move, lower) : null;
                most = least != null && (most == null || least.isMoreThan(most)) ? least : most;
            }
            known.put(key, most);
        }
        return known.get(key);
    }

    private Ratio least(int d, int end, int upper, int lower) {
        Ratio least = null;
        for (int to = lower - 1; to <= lower + 1; to++) {
            if (canBe(1, to)) {
                Ratio sum = leftReaps(d, upper, to).plus(game(d + 1, end, upper, to));
                least = least == null || least.isMoreThan(sum) ? sum : least;
            }
        }
        return least;
    }

    int firstMove(int n) {
        Ratio value = game(n);
        for (int move = -1; move <= 1 && day < 12; move++) {
            int end = Math.min(12, day + n);
            if (canBe(0, a + move) && least(day, end, a + move, b).equals(value)) {
                return move;
            }
        }
        return Due.NONE;
    }

    Ratio treaty(int n) {
        Ratio sum = ZERO;
        for (int d = day; d < Math.min(12, day + n); d++) {
            sum = sum.plus(leftReaps(d, a, b));
        }
        return sum.minus(game(n));
    }

    Ratio sow(int strip, Strip sown, int n) {
        Ratio before = game(n);
        Strip old = strips.set(strip, sown);
        Ratio then = game(n);
        strips.set(strip, old);
        return then.minus(before);
    }

    /** The most, and the first row of moves that brings it, by going through all rows. */
    Ratio best(int[] told, int n, List<Integer> moves) {
        int days = Math.min(n, 12 - day);
        return best(told, 0, days, a, b, moves);
    }

    private Ratio best(int[] told, int i, int days, int upper, int lower, List<Integer> moves) {
        moves.clear();
        if (i >= days) {
            return ZERO;
        }
        int to = canBe(1, lower + told[i]) ? lower + told[i] : lower;
        Ratio most = null;
        for (int move = -1; move <= 1; move++) {
            if (canBe(0, upper + move)) {
                List<Integer> later = new ArrayList<>();
                Ratio sum = leftReaps(day + i, upper + move, to)
                    .plus(best(told, i + 1, days, upper + move, to, later));
                if (most == null || sum.isMoreThan(most)) {
                    most = sum;
                    moves.clear();
                    moves.add(move);
                    moves.addAll(later);
                }
            }
        }
        return most;
    }

    /** All pairs of moves that bring this, coded, the first ahead. */
    List<Integer> unseen(int up, int down) {
        List<Integer> pairs = new ArrayList<>();
        for (int code = 0; code < 9 && day < 12; code++) {
            int upper = a + code / 3 - 1;
            int lower = b + code % 3 - 1;
            boolean can = canBe(0, upper) && canBe(1, lower);
            if (can && leftReaps(day, upper, lower).equals(Ratio.of(up, down))) {
                pairs.add(code);
            }
        }
        return pairs;
    }

    int sure(int n) {
        boolean[] upper = reach(0, a, n);
        boolean[] lower = reach(1, b, n);
        int sure = 0;
        for (int x = 0; x < 12; x++) {
            boolean always = true;
            for (int at = 0; at < 169; at++) {
                boolean can = upper[at / 13] && lower[at % 13];
                always &= !can || share(at / 13, at % 13, x).equals(Ratio.of(1, 1));
            }
            sure |= always ? 1 << x : 0;
        }
        return sure;
    }

    private boolean[] reach(int rim, int from, int n) {
        boolean[] can = new boolean[13];
        can[from] = true;
        for (int i = 0; i < n; i++) {
            boolean[] next = can.clone();
            for (int x = 0; x <= 12; x++) {
                next[x] |= canBe(rim, x) && (x > 0 && can[x - 1] || x < 12 && can[x + 1]);
            }
            can = next;
        }
        return can;
    }
}
