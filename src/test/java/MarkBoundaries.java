import java.util.Set;
import java.util.TreeSet;

/** The boundaries of MARKS, of PATHS told back and of STEPS DRAWN: promises 25 to 32. */
final class MarkBoundaries extends Boundaries {
    private static final int UP = 0;
    private static final int LEFT = 2;
    private static final int RIGHT = 5;
    private static final int MARKED = 7;

    private MarkBoundaries() {
    }

    static void tests() {
        marks();
        marking();
        unmarking();
        marked();
        near();
        jumping();
        told();
        drawing();
        drawn();
    }

    /** With MARKS at 1 by 1, 1 by 2 and so on, standing at the last one. */
    private static MarkovTree withMarks(int n) {
        MarkovTree x = new MarkovTree();
        for (int i = 0; i < n; i++) {
            if (i > 0) {
                x.left();
            }
            x.mark();
        }
        return x;
    }

    private static void marks() {
        test(TERMS, "PLACES that were MARKED, by their NUMBERS (no two PLACES that can be have alike ones), 16 at most", x -> {
            Set<Long> numbers = new TreeSet<>();
            atEach((y, p, q) -> due("the NUMBER of " + p + " by " + q + " is a new one", numbers.add(y.triple(2)), true));
            due("PLACES", numbers.size(), 149);
            for (int n = 0; n <= 16; n++) {
                due("now(7)", withMarks(n).now(7), n);
            }
            due("now(7) after a seventeenth", withMarks(17).now(7), 16);
        });
    }

    private static void marking() {
        test("Promise 25", "The PLACE is MARKED: 0; 1: it is", x -> {
            due("mark", x.mark(), 0);
            due("mark again", x.mark(), 1);
            due("now(7)", x.now(7), 1);
            x.unmark();
            due("mark after unmark", x.mark(), 0);
            MarkovTree full = withMarks(16);
            due("mark where it is, with 16", full.mark(), 1);
            due("now(7)", full.now(7), 16);
        });
        test("Promise 25", "NONE: there are 16", x -> {
            MarkovTree y = withMarks(15);
            y.left();
            due("mark a sixteenth", y.mark(), 0);
            y.left();
            due("mark a seventeenth", y.mark(), NONE);
            due("now(7)", y.now(7), 16);
            due("near the seventeenth", y.near(y.triple(2), true), NONE);
            y.jump(3);
            due("unmark one", y.unmark(), 0);
            y.go(21, 1);
            due("mark a sixteenth again", y.mark(), 0);
            y.go(20, 1);
            due("mark a seventeenth again", y.mark(), NONE);
        });
    }

    private static void unmarking() {
        test("Promise 26", "Its MARK goes: 0; 1: it has none", x -> {
            due("unmark without MARKS", x.unmark(), 1);
            x.mark();
            due("unmark", x.unmark(), 0);
            due("unmark again", x.unmark(), 1);
            due("now(7)", x.now(7), 0);
            MarkovTree y = withMarks(3);
            y.left();
            due("unmark where there is none, with others", y.unmark(), 1);
            due("now(7)", y.now(7), 3);
            // the first, the middle and the last one of them
            for (int q = 1; q <= 3; q++) {
                MarkovTree z = withMarks(3);
                z.go(1, q);
                due("unmark 1 by " + q, z.unmark(), 0);
                due("the first that is left", z.marked(0, 2), q == 1 ? 2 : 1);
                due("the second that is left", z.marked(1, 2), q == 3 ? 2 : 3);
                due("behind them", z.marked(2, 2), NONE);
            }
        });
    }

    private static void marked() {
        test("Promise 27", "The i-th MARK (from 0, the least NUMBER first): its NUMBER (0), p (1), q (2)", x -> {
            for (int[] f : new int[][] {{3, 2}, {21, 1}, {1, 1}, {1, 2}, {2, 1}, {2, 3}}) {
                x.go(f[0], f[1]);
                x.mark();
            }
            long[][] want = {{5, 1, 1}, {13, 1, 2}, {29, 2, 1}, {194, 2, 3}, {433, 3, 2}, {pell(43), 21, 1}};
            for (int i = 0; i < want.length; i++) {
                for (int what = 0; what < 3; what++) {
                    due("marked(" + i + ", " + what + ")", x.marked(i, what), want[i][what]);
                }
            }
        });
        test("Promise 27", "NONE: none such, another what", x -> {
            due("marked(0, 0) without MARKS", x.marked(0, 0), NONE);
            MarkovTree full = withMarks(16);
            for (int what = 0; what < 3; what++) {
                due("marked(-1, " + what + ")", full.marked(-1, what), NONE);
                due("marked(0, " + what + ")", full.marked(0, what), what == 0 ? 5 : 1);
                due("marked(15, " + what + ")", full.marked(15, what), what == 0 ? fibonacci(35) : what == 1 ? 1 : 16);
                due("marked(16, " + what + ")", full.marked(16, what), NONE);
                due("marked(MIN, " + what + ")", full.marked(MIN, what), NONE);
                due("marked(MAX, " + what + ")", full.marked(MAX, what), NONE);
            }
            for (int what : new int[] {-1, 3, MIN, MAX}) {
                due("marked(0, " + what + ")", full.marked(0, what), NONE);
                due("marked(16, " + what + ")", full.marked(16, what), NONE);
            }
            full.unmark();
            due("marked(15, 0) with 15", full.marked(15, 0), NONE);
            due("marked(14, 0) with 15", full.marked(14, 0), fibonacci(33));
        });
    }

    private static void near() {
        test("Promise 28", "The greatest MARK's NUMBER that is n or less (is false)", x -> {
            MarkovTree y = withMarks(3);
            long[][] want = {{4, NONE}, {5, 5}, {6, 5}, {12, 5}, {13, 13}, {14, 13}, {33, 13}, {34, 34}, {35, 34}, {Long.MAX_VALUE, 34}};
            for (long[] w : want) {
                due("near(" + w[0] + ", false)", y.near(w[0], false), w[1]);
            }
        });
        test("Promise 28", "the least that is n or more (is true)", x -> {
            MarkovTree y = withMarks(3);
            long[][] want = {{Long.MIN_VALUE, 5}, {0, 5}, {4, 5}, {5, 5}, {6, 13}, {13, 13}, {14, 34}, {33, 34}, {34, 34}, {35, NONE}};
            for (long[] w : want) {
                due("near(" + w[0] + ", true)", y.near(w[0], true), w[1]);
            }
        });
        test("Promise 28", "NONE: there is none", x -> {
            due("near(5, false) without MARKS", x.near(5, false), NONE);
            due("near(5, true) without MARKS", x.near(5, true), NONE);
            x.mark();
            due("near(4, false)", x.near(4, false), NONE);
            due("near(5, false)", x.near(5, false), 5);
            due("near(5, true)", x.near(5, true), 5);
            due("near(6, true)", x.near(6, true), NONE);
            due("near(MIN, false)", x.near(Long.MIN_VALUE, false), NONE);
            due("near(MAX, true)", x.near(Long.MAX_VALUE, true), NONE);
            // as an int it would be 5
            due("near(2 to the 32nd and 5, true)", x.near((1L << 32) + 5, true), NONE);
            MarkovTree full = withMarks(16);
            due("near the greatest of 16", full.near(fibonacci(35), true), fibonacci(35));
            due("near 1 above it", full.near(fibonacci(35) + 1, true), NONE);
            due("near 1 above it", full.near(fibonacci(35) + 1, false), fibonacci(35));
        });
    }

    private static void jumping() {
        test("Promise 29", "The PLACE becomes that of the i-th MARK: how many STEPS it is from 1 by 1", x -> {
            MarkovTree y = withMarks(16);
            due("jump(0)", y.jump(0), 0);
            duePlace(y, 1, 1);
            due("jump(15)", y.jump(15), 15);
            duePlace(y, 1, 16);
            due("now(6)", y.now(6), 15);
            due("now(5)", y.now(5), 15);
            due("jump(1)", y.jump(1), 1);
            duePlace(y, 1, 2);
            due("MARKS stay", y.now(7), 16);
        });
        test("Promise 29", "NONE: none such, it is there", x -> {
            due("jump(0) without MARKS", x.jump(0), NONE);
            MarkovTree y = withMarks(16);
            for (int i : new int[] {-1, 16, 17, MIN, MAX}) {
                due("jump(" + i + ")", y.jump(i), NONE);
            }
            due("jump(15) where it is", y.jump(15), NONE);
            due("jump(14)", y.jump(14), 14);
            due("jump(14) where it is", y.jump(14), NONE);
            due("jump(15)", y.jump(15), 15);
            y.unmark();
            due("jump(15) with 15", y.jump(15), NONE);
            duePlace(y, 1, 16);
        });
    }

    private static void told() {
        test("Promise 30", "l and r, each as long as it goes on once, with how often behind it, if that is more than once: how many bytes", x -> {
            dueTold(x, "at 1 by 1", "");
            for (String path : new String[] {"l", "r", "l2", "r2", "l9", "l10", "r9", "r10", "l20", "r20", "lr", "rl", "lrl", "l2r2", "rlrl2", "lr9", "rl9",
                "l9r", "r5l2", "lrlrl", "l3r"}) {
                MarkovTree y = new MarkovTree();
                due("path of " + path + " has no FAULT", pathOf(y, path) > 0, true);
                dueTold(y, "after " + path, path);
            }
        });
        test("Promise 30", "The PATH from 1 by 1 to the PLACE is told back", x -> atEach((y, p, q) -> {
            int length = y.told();
            StringBuilder path = new StringBuilder();
            for (int i = 0; i < length; i++) {
                path.append((char) y.byteAt(i));
            }
            MarkovTree z = new MarkovTree();
            due("STEPS of the PATH to " + p + " by " + q, pathOf(z, path.toString()), y.now(6));
            duePlace(z, p, q);
        }));
        test("Promise 31", "Byte i of the latest told()", x -> {
            x.go(2, 5);
            x.told();
            x.go(21, 1);
            due("byteAt(0) of the latest told()", x.byteAt(0), 'l');
            due("byteAt(1)", x.byteAt(1), '2');
            due("byteAt(2)", x.byteAt(2), 'r');
            x.told();
            due("byteAt(0) of the next one", x.byteAt(0), 'r');
            due("byteAt(2)", x.byteAt(2), '0');
        });
        test("Promise 31", "NONE: none such, or ahead of any", x -> {
            x.go(2, 5);
            due("byteAt(0) ahead of any", x.byteAt(0), NONE);
            due("byteAt(-1) ahead of any", x.byteAt(-1), NONE);
            x.told();
            due("byteAt(-1)", x.byteAt(-1), NONE);
            due("byteAt(0)", x.byteAt(0), 'l');
            due("byteAt(2)", x.byteAt(2), 'r');
            due("byteAt(3)", x.byteAt(3), NONE);
            due("byteAt(MIN)", x.byteAt(MIN), NONE);
            due("byteAt(MAX)", x.byteAt(MAX), NONE);
            // a shorter one leaves nothing of the longer one
            x.go(2, 1);
            x.told();
            due("byteAt(0)", x.byteAt(0), 'r');
            due("byteAt(1)", x.byteAt(1), NONE);
            x.go(1, 1);
            due("told at 1 by 1", x.told(), 0);
            due("byteAt(0)", x.byteAt(0), NONE);
        });
    }

    private static void drawing() {
        test(TERMS, "s becomes s * 1103515245 + 12345 (an int, wrapping), the draw is (s >>> 8) % n", x -> {
            // by long numbers, cut to 32 bits by hand
            for (int seed : new int[] {0, 1, 2, 3, -1, -2, 1000, 123456789, -123456789, MIN, MAX, MIN + 1, MAX - 1}) {
                long s = Math.floorMod((long) seed, 1L << 32);
                MarkovTree y = at(2, 3);
                MarkovTree z = at(2, 3);
                int done = 0;
                for (int i = 0; i < 60; i++) {
                    s = Math.floorMod(s * 1103515245L + 12345L, 1L << 32);
                    done += doOne(z, (int) (s / 256 % 8)) ? 1 : 0;
                }
                due("drawn(60, " + seed + ")", y.drawn(60, seed), done);
                dueAlike(y, z);
            }
        });
        test(TERMS, "0: UP, 1 to 3: LEFT, 4 to 6: RIGHT, 7: MARKED", x -> {
            for (int draw = 0; draw < 8; draw++) {
                MarkovTree y = at(3, 2);
                due("drawn by the draw " + draw, y.drawn(1, seedFor(draw)), 1);
                int[] place = draw == UP ? new int[] {2, 1} : draw <= 3 ? new int[] {4, 3} : draw <= 6 ? new int[] {5, 3} : new int[] {3, 2};
                duePlace(y, place[0], place[1]);
                due("now(7)", y.now(7), draw == MARKED ? 1 : 0);
            }
        });
        test(TERMS, "What can't be, or is so, is left", x -> {
            due("UP from 1 by 1", x.drawn(1, seedFor(UP)), 0);
            due("UP from 1 by 2", at(1, 2).drawn(1, seedFor(UP)), 1);
            due("LEFT beyond 22", at(1, 21).drawn(1, seedFor(LEFT)), 0);
            due("LEFT to 22", at(1, 20).drawn(1, seedFor(LEFT)), 1);
            due("RIGHT beyond 22", at(21, 1).drawn(1, seedFor(RIGHT)), 0);
            due("RIGHT to 22", at(20, 1).drawn(1, seedFor(RIGHT)), 1);
            due("MARKED", x.drawn(1, seedFor(MARKED)), 1);
            due("MARKED what is so", x.drawn(1, seedFor(MARKED)), 0);
            MarkovTree y = withMarks(15);
            y.left();
            due("MARKED a sixteenth", y.drawn(1, seedFor(MARKED)), 1);
            y.left();
            due("MARKED a seventeenth", y.drawn(1, seedFor(MARKED)), 0);
            due("now(7)", y.now(7), 16);
            // those behind what is left are done all the same
            due("UP from 1 by 1, then another", new MarkovTree().drawn(2, seedFor(UP, LEFT)), 1);
            due("LEFT beyond 22, then UP", at(1, 21).drawn(2, seedFor(LEFT, UP)), 1);
        });
    }

    private static boolean doOne(MarkovTree x, int draw) {
        if (draw == MARKED) {
            return x.mark() == 0;
        }
        return (draw == UP ? x.up() : draw <= 3 ? x.left() : x.right()) != NONE;
    }

    private static void dueAlike(MarkovTree x, MarkovTree y) {
        for (int what = 0; what <= 7; what++) {
            due("now(" + what + ")", x.now(what), y.now(what));
        }
        for (int i = 0; i < y.now(7); i++) {
            due("marked(" + i + ", 0)", x.marked(i, 0), y.marked(i, 0));
        }
    }

    /** A seed whose first two draws are these. */
    private static int seedFor(int first, int second) {
        int seed = -1000;
        while (drawBy(seed * 1103515245 + 12345) != first || drawBy((seed * 1103515245 + 12345) * 1103515245 + 12345) != second) {
            seed++;
        }
        return seed;
    }

    private static int drawBy(int s) {
        return (s >>> 8) % 8;
    }

    private static void drawn() {
        test("Promise 32", "n (1 to 60) STEPS DRAWN by a seed: how many were done", x -> {
            due("drawn(1, ..)", x.drawn(1, seedFor(LEFT)), 1);
            duePlace(x, 1, 2);
            // n STEPS are as many as n times the first of them, each with the s behind the one ahead
            for (int n : new int[] {1, 2, 59, 60}) {
                MarkovTree y = new MarkovTree();
                MarkovTree z = new MarkovTree();
                int s = 77;
                int done = 0;
                for (int i = 0; i < n; i++) {
                    done += z.drawn(1, s);
                    s = s * 1103515245 + 12345;
                }
                due("drawn(" + n + ", 77)", y.drawn(n, 77), done);
                dueAlike(y, z);
            }
        });
        test("Promise 32", "NONE: not as told", x -> {
            for (int n : new int[] {0, -1, 61, 62, MIN, MAX}) {
                due("drawn(" + n + ", 1)", x.drawn(n, seedFor(LEFT)), NONE);
                duePlace(x, 1, 1);
                due("acts", x.now(8), 0);
            }
            due("drawn(1, ..)", x.drawn(1, seedFor(LEFT)), 1);
            due("drawn(60, ..) is as told", x.drawn(60, seedFor(LEFT)) >= 0, true);
        });
    }
}
