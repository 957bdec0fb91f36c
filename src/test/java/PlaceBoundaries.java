/** The boundaries of the PLACE and of the ways to it: promises 1 and 6 to 10. */
final class PlaceBoundaries extends Boundaries {
    private PlaceBoundaries() {
    }

    static void tests() {
        fractions();
        ways();
        newObject();
        told();
        steps();
        going();
    }

    private static void fractions() {
        test(TERMS, "p, q 1 or more", x -> {
            x.go(2, 3);
            due("go(1, 1)", x.go(1, 1), 0);
            due("go(0, 1)", x.go(0, 1), NONE);
            due("go(1, 0)", x.go(1, 0), NONE);
            due("go(0, 0)", x.go(0, 0), NONE);
            due("go(-1, 2)", x.go(-1, 2), NONE);
            due("go(2, -1)", x.go(2, -1), NONE);
            due("go(-2, -3)", x.go(-2, -3), NONE);
            duePlace(x, 1, 1);
        });
        test(TERMS, "nothing in common", x -> {
            due("go(3, 5)", x.go(3, 5), 3);
            for (int[] f : new int[][] {{2, 2}, {2, 4}, {3, 6}, {6, 9}, {15, 5}, {11, 11}, {7, 14}, {10, 12}, {20, 2}}) {
                due("go(" + f[0] + ", " + f[1] + ")", x.go(f[0], f[1]), NONE);
            }
            duePlace(x, 3, 5);
            due("go(9, 10)", x.go(9, 10), 9);
            due("go(11, 10)", x.go(11, 10), 10);
        });
        test(TERMS, "p and q together 22 at most", x -> {
            due("go(1, 21)", x.go(1, 21), 20);
            due("go(1, 22)", x.go(1, 22), NONE);
            due("go(21, 1)", x.go(21, 1), 20);
            due("go(22, 1)", x.go(22, 1), NONE);
            due("go(9, 13)", x.go(9, 13), 6);
            due("go(10, 13)", x.go(10, 13), NONE);
            due("go(9, 14)", x.go(9, 14), NONE);
            due("go(11, 12)", x.go(11, 12), NONE);
            duePlace(x, 9, 13);
            due("go of two that wrap round", x.go(MAX, MAX), NONE);
            due("go of two that wrap round", x.go(MIN, MIN), NONE);
            due("go of two that wrap round", x.go(MAX, MIN), NONE);
            due("go(MAX, 1)", x.go(MAX, 1), NONE);
            due("go(1, MAX)", x.go(1, MAX), NONE);
        });
    }

    private static void ways() {
        test(TERMS, "at first 1 by 1, its LEFT one 0 by 1, its RIGHT one 1 by 0", x -> dueHere(x, new int[] {1, 1, 0, 1, 1, 0}));
        test(TERMS, "Going LEFT: the PLACE becomes the RIGHT one", x -> {
            x.left();
            dueHere(x, new int[] {1, 2, 0, 1, 1, 1});
            x.left();
            dueHere(x, new int[] {1, 3, 0, 1, 1, 2});
        });
        test(TERMS, "going RIGHT likewise (the PLACE becomes the LEFT one)", x -> {
            x.right();
            dueHere(x, new int[] {2, 1, 1, 1, 1, 0});
            x.left();
            dueHere(x, new int[] {3, 2, 1, 1, 2, 1});
            x.right();
            dueHere(x, new int[] {5, 3, 3, 2, 2, 1});
        });
        test(TERMS, "Going UP undoes the latest of these that led to it from 1 by 1", x -> {
            // not the latest call, but the latest STEP of the way to the PLACE
            x.go(5, 3);
            x.up();
            dueHere(x, new int[] {3, 2, 1, 1, 2, 1});
            x.up();
            dueHere(x, new int[] {2, 1, 1, 1, 1, 0});
            x.left();
            x.up();
            dueHere(x, new int[] {2, 1, 1, 1, 1, 0});
            x.up();
            dueHere(x, new int[] {1, 1, 0, 1, 1, 0});
            atEach((y, p, q) -> dueUpAndBack(y));
        });
    }

    private static void dueHere(MarkovTree x, int[] want) {
        for (int i = 0; i < want.length; i++) {
            due("now(" + i + ")", x.now(i), want[i]);
        }
    }

    /** UP, then the one way back that there is. */
    private static void dueUpAndBack(MarkovTree x) {
        int p = x.now(0);
        int q = x.now(1);
        int steps = x.now(6);
        boolean cameLeft = x.now(4) + x.now(5) > x.now(2) + x.now(3);
        if (steps == 0) {
            return;
        }
        int together = x.up();
        due("p and q together above " + p + " by " + q, together, x.now(0) + x.now(1));
        due("now(6) above " + p + " by " + q, x.now(6), steps - 1);
        due("back", cameLeft ? x.left() : x.right(), p + q);
        duePlace(x, p, q);
    }

    private static void newObject() {
        test("Promise 1", "At 1 by 1; no MARKS; an empty tape", x -> {
            duePlace(x, 1, 1);
            due("now(6)", x.now(6), 0);
            due("now(7)", x.now(7), 0);
            due("now(8)", x.now(8), 0);
            due("now(9)", x.now(9), 0);
            due("unmark", x.unmark(), 1);
            due("marked(0, 0)", x.marked(0, 0), NONE);
            due("undo", x.undo(), NONE);
            due("path", x.path(), 0);
            // whatever was done with another object
            MarkovTree other = at(2, 3);
            other.mark();
            other.image(0);
            feedText(other, "l0");
            other.path();
            feedText(other, "l");
            other.told();
            duePlace(new MarkovTree(), 1, 1);
            due("now(7) of a third one", new MarkovTree().now(7), 0);
            due("now(9) of a third one", new MarkovTree().now(9), 0);
            due("fault of a third one", new MarkovTree().fault(), 0);
            due("byteAt(0) of a third one", new MarkovTree().byteAt(0), NONE);
            due("restore(0) of a third one", new MarkovTree().restore(0), false);
            duePlace(x, 1, 1);
        });
        test(TERMS, "`HIDDEN = -1000000000000000000L`: What is told for none where NONE could be so.", x -> {
            due("HIDDEN", MarkovTree.HIDDEN, -1000000000000000000L);
            due("NONE", MarkovTree.NONE, -1);
            due("value(1000, 0)", x.value(1000, 0), MarkovTree.HIDDEN);
        });
    }

    private static void told() {
        test("Promise 6", "0 p, 1 q of the PLACE, 2, 3 of the LEFT one, 4, 5 of the RIGHT one", x -> {
            dueHere(x, new int[] {1, 1, 0, 1, 1, 0});
            x.go(1, 21);
            dueHere(x, new int[] {1, 21, 0, 1, 1, 20});
            x.go(21, 1);
            dueHere(x, new int[] {21, 1, 20, 1, 1, 0});
            x.go(8, 13);
            dueHere(x, new int[] {8, 13, 3, 5, 5, 8});
        });
        test("Promise 6", "6 how many STEPS it is from 1 by 1", x -> {
            due("now(6) at 1 by 1", x.now(6), 0);
            x.left();
            due("now(6) after left()", x.now(6), 1);
            x.up();
            due("now(6) after up()", x.now(6), 0);
            x.up();
            due("now(6) after up() that was NONE", x.now(6), 0);
            x.go(21, 1);
            due("now(6) at 21 by 1", x.now(6), 20);
            x.right();
            due("now(6) after right() that was NONE", x.now(6), 20);
            pathOf(x, "h");
            due("now(6) after h", x.now(6), 0);
        });
        test("Promise 6", "7 MARKS, 8 acts that can be undone, 9 bytes of the tape", x -> {
            for (int q = 1; q <= 17; q++) {
                due("now(7)", x.now(7), q - 1);
                x.mark();
                x.left();
                due("now(8)", x.now(8), Math.min(2 * q, 8));
            }
            due("now(7)", x.now(7), 16);
            for (int i = 0; i < 13; i++) {
                due("now(9)", x.now(9), Math.min(20 * i, 240));
                x.feed(0, 0, 0, 0, 0);
            }
            due("now(9)", x.now(9), 240);
        });
        test("Promise 6", "NONE for another what", x -> {
            for (int what : new int[] {-1, -2, 10, 11, MIN, MAX}) {
                due("now(" + what + ")", x.now(what), NONE);
            }
            due("now(0)", x.now(0), 1);
            due("now(9)", x.now(9), 0);
        });
    }

    private static void steps() {
        test("Promise 7", "LEFT: p and q together then; NONE: that would be above 22", x -> {
            for (int together = 3; together <= 22; together++) {
                due("left to " + together, x.left(), together);
            }
            due("left to 23", x.left(), NONE);
            dueHere(x, new int[] {1, 21, 0, 1, 1, 20});
            dueLeft(3, 10, 22);
            dueLeft(13, 2, 22);
            dueLeft(4, 9, 23);
            dueLeft(11, 3, 23);
            atEach((y, p, q) -> dueLeft(p, q, p + q + y.now(2) + y.now(3)));
        });
        test("Promise 8", "RIGHT: likewise", x -> {
            for (int together = 3; together <= 22; together++) {
                due("right to " + together, x.right(), together);
            }
            due("right to 23", x.right(), NONE);
            dueHere(x, new int[] {21, 1, 20, 1, 1, 0});
            dueRight(10, 3, 22);
            dueRight(2, 13, 22);
            dueRight(9, 4, 23);
            dueRight(3, 11, 23);
            atEach((y, p, q) -> dueRight(p, q, p + q + y.now(4) + y.now(5)));
        });
        test("Promise 9", "UP: likewise; NONE: it is 1 by 1", x -> {
            due("up from 1 by 1", x.up(), NONE);
            duePlace(x, 1, 1);
            x.left();
            due("up from 1 by 2", x.up(), 2);
            due("up from 1 by 1", x.up(), NONE);
            x.go(21, 1);
            for (int together = 21; together >= 2; together--) {
                due("up to " + together, x.up(), together);
            }
            due("up from 1 by 1", x.up(), NONE);
            duePlace(x, 1, 1);
            x.go(8, 13);
            due("up from 8 by 13", x.up(), 13);
        });
    }

    private static void dueLeft(int p, int q, int together) {
        MarkovTree x = at(p, q);
        boolean can = together <= 22;
        due("left from " + p + " by " + q, x.left(), can ? together : NONE);
        due("p and q together then", x.now(0) + x.now(1), can ? together : p + q);
    }

    private static void dueRight(int p, int q, int together) {
        MarkovTree x = at(p, q);
        boolean can = together <= 22;
        due("right from " + p + " by " + q, x.right(), can ? together : NONE);
        due("p and q together then", x.now(0) + x.now(1), can ? together : p + q);
    }

    private static void going() {
        test("Promise 10", "The PLACE is p by q: how many STEPS it is from 1 by 1", x -> {
            x.go(2, 3);
            due("go(1, 1)", x.go(1, 1), 0);
            due("go(1, 2)", x.go(1, 2), 1);
            due("go(2, 1)", x.go(2, 1), 1);
            due("go(21, 1)", x.go(21, 1), 20);
            due("go(1, 21)", x.go(1, 21), 20);
            due("go(13, 8)", x.go(13, 8), 5);
            dueHere(x, new int[] {13, 8, 8, 5, 5, 3, 5});
        });
        test("Promise 10", "NONE: there is no such one, it is there", x -> {
            due("go(1, 1) at 1 by 1", x.go(1, 1), NONE);
            for (int p = -1; p <= 23; p++) {
                for (int q = -1; q <= 23; q++) {
                    dueGo(p, q);
                }
            }
            due("acts", x.now(8), 0);
        });
    }

    private static void dueGo(int p, int q) {
        MarkovTree x = at(3, 2);
        boolean goes = isPlace(p, q) && !(p == 3 && q == 2);
        due("go(" + p + ", " + q + ")", x.go(p, q) != NONE, goes);
        duePlace(x, goes ? p : 3, goes ? q : 2);
        due("acts after go(" + p + ", " + q + ")", x.now(8), goes ? 2 : 1);
        due("go(" + p + ", " + q + ") again", x.go(p, q), NONE);
    }
}
