import java.util.ArrayList;
import java.util.List;
import java.util.function.Supplier;

/**
 * "What is refused, or found, changes nothing but status()": an object that had such a call is
 * compared with one that had not, by all that calls can show (also those that change what they
 * show: each look is taken at objects of its own, none of which has more than 512 calls).
 */
final class Stays {
    interface Call {
        int on(FenceYards x);
    }

    private interface Look {
        void at(FenceYards x, List<String> shown);
    }

    private static final List<Look> LOOKS = List.of(Stays::counted, Stays::cropped,
        Stays::foretold, Stays::undone, Stays::moved, Stays::rowed, Stays::imaged, Stays::read);

    private Stays() {
    }

    /** The call answers as due; status() tells its FINDING, or stays; all the rest stays. */
    static void refused(String name, Supplier<FenceYards> past, Call call, int want) {
        FenceYards x = past.get();
        int status = x.status();
        int fault = x.fault();
        Due.due(name, call.on(x), want);
        boolean found = want <= Due.NULL && want >= Due.STORE;
        Due.due("status() behind " + name, x.status(), found ? -1000010 - want : status);
        Due.due("fault() behind " + name, x.fault(), fault);
        alike("behind " + name, past, () -> with(past, call));
    }

    /** A FAULT is told, and "all but the tape, and what fault() tells, stays". */
    static void faulted(Supplier<FenceYards> past, String text, int place, int number) {
        FenceYards x = past.get();
        int status = x.status();
        Due.due("ground of '" + text + "'", Due.read(x, text), -1000100 - place);
        Due.due("fault of '" + text + "'", x.fault(), number);
        Due.due("the tape behind '" + text + "'", x.count(6), 0);
        Due.due("status() behind '" + text + "'", x.status(), status);
        alike("behind '" + text + "'", past, () -> with(past, y -> Due.read(y, text)));
    }

    /** Both show the same in all but status() and fault(). */
    static void alike(String name, Supplier<FenceYards> one, Supplier<FenceYards> other) {
        for (Look look : LOOKS) {
            List<String> want = new ArrayList<>();
            List<String> got = new ArrayList<>();
            look.at(one.get(), want);
            look.at(other.get(), got);
            for (int i = 0; i < want.size(); i++) {
                Due.holds(name + ": " + got.get(i) + ", but it was " + want.get(i),
                    got.get(i).equals(want.get(i)));
            }
        }
    }

    private static FenceYards with(Supplier<FenceYards> past, Call call) {
        FenceYards x = past.get();
        call.on(x);
        return x;
    }

    private static void say(List<String> shown, String call, int answer) {
        shown.add(call + " is " + answer);
    }

    private static void counted(FenceYards x, List<String> shown) {
        for (int i = 0; i <= 16; i++) {
            say(shown, "trace(" + i + ")", x.trace(i));
        }
        whereAndWhat(x, shown);
        for (int strip = 0; strip < 12; strip++) {
            say(shown, "kind(" + strip + ")", x.kind(strip));
            for (int what = 0; what <= 3; what++) {
                say(shown, "strip(" + strip + ", " + what + ")", x.strip(strip, what));
            }
        }
    }

    private static void whereAndWhat(FenceYards x, List<String> shown) {
        for (int what = 0; what <= 6; what++) {
            say(shown, "count(" + what + ")", x.count(what));
        }
        for (int i = 0; i < 4; i++) {
            say(shown, "reaped(" + i / 2 + ", " + i % 2 + ")", x.reaped(i / 2, i % 2));
        }
    }

    private static void cropped(FenceYards x, List<String> shown) {
        for (int i = 0; i < 144; i++) {
            say(shown, "crop(" + i / 12 + ", " + i % 12 + ")", x.crop(i / 12, i % 12));
        }
    }

    private static void foretold(FenceYards x, List<String> shown) {
        for (int n = 1; n <= 12; n++) {
            for (int what = 0; what <= 2; what++) {
                say(shown, "game(" + n + ", " + what + ")", x.game(n, what));
            }
            say(shown, "treaty(" + n + ", 0)", x.treaty(n, 0));
            say(shown, "treaty(" + n + ", 1)", x.treaty(n, 1));
            say(shown, "sow(1, 2, 70, 1, " + n + ", 0)", x.sow(1, 2, 70, 1, n, 0));
            say(shown, "sure(" + n + ")", x.sure(n));
        }
        for (int k = -2; k <= 12; k++) {
            say(shown, "best(0, 12, " + k + ")", x.best(0, 12, k));
            say(shown, "best(0, 4, " + k + ")", x.best(0, 4, k));
            say(shown, "game(12, 0)", x.game(12, 0));
        }
        for (int up = 0; up < 100; up++) {
            say(shown, "unseen(" + up + ", 1, 0)", x.unseen(up, 1, 0));
        }
    }

    private static void undone(FenceYards x, List<String> shown) {
        for (int i = 0; i < 13; i++) {
            say(shown, "undo()", x.undo());
            whereAndWhat(x, shown);
        }
    }

    private static void moved(FenceYards x, List<String> shown) {
        for (int i = 0; i < 9; i++) {
            int answer = x.day(i / 3 - 1, i % 3 - 1);
            say(shown, "day(" + (i / 3 - 1) + ", " + (i % 3 - 1) + ")", answer);
            whereAndWhat(x, shown);
            if (answer >= 0) {
                say(shown, "undo()", x.undo());
            }
        }
    }

    /** Of ITEMS it can be shown which of -1, 0, 1 they are, or that they are none of these. */
    private static void rowed(FenceYards x, List<String> shown) {
        x.ground();
        Due.read(x, "fence 5 6;strip bean 0 0;strip bean 0 0;strip bean 0 0;strip bean 7 0;"
            + "strip rye 20 0;strip rye 97 0;strip rye 50 0;strip rye 30 0;strip rye 80 3;");
        for (int row = 0; row < 8; row++) {
            for (int n = 1; n <= 12; n++) {
                say(shown, "best(" + row + ", " + n + ", -2)", x.best(row, n, -2));
            }
            for (int from = 12; from < 40; from += 7) {
                int answer = x.copy(row, from, row, 0, 7);
                say(shown, "copy(" + row + ", " + from + ", " + row + ", 0, 7)", answer);
                say(shown, "best(" + row + ", 7, -2)", x.best(row, 7, -2));
            }
            say(shown, "set(" + row + ", 0, 70000)", x.set(row, 0, 70000));
            say(shown, "drop(" + row + ")", x.drop(row));
        }
    }

    private static void imaged(FenceYards x, List<String> shown) {
        for (int k = 0; k <= 1; k++) {
            say(shown, "restore(" + k + ")", x.restore(k));
            for (int strip = 0; strip < 12; strip++) {
                say(shown, "kind(" + strip + ")", x.kind(strip));
                say(shown, "strip(" + strip + ", 0)", x.strip(strip, 0));
            }
            say(shown, "day(-1, 0)", x.day(-1, 0));
            say(shown, "day(0, 1)", x.day(0, 1));
            undone(x, shown);
        }
    }

    private static void read(FenceYards x, List<String> shown) {
        int answer = x.ground();
        say(shown, "ground()", answer);
        if (answer < 0) {
            say(shown, "fault()", x.fault());
        }
        counted(x, shown);
        say(shown, "ground() again", x.ground());
    }
}
