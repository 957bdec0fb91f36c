import java.util.ArrayList;
import java.util.List;

/** The boundaries of acts undone and of images, and what holds for all calls: promises 33 to 35. */
final class ActBoundaries extends Boundaries {
    private ActBoundaries() {
    }

    static void tests() {
        allCalls();
        whichActs();
        undone();
        howMany();
        images();
        restored();
    }

    interface Act {
        long answer(MarkovTree x);
    }

    private static void allCalls() {
        test("What it is", "An object is used for at most 512 calls after it has been made", x -> {
            // 511 calls, the last of them at 1 by 2, then the 512th
            for (int i = 0; i < 511; i++) {
                due("call " + (i + 1), i % 2 == 0 ? x.left() : x.up(), i % 2 == 0 ? 3 : 2);
            }
            due("call 512", x.undo(), 7);
            MarkovTree y = new MarkovTree();
            for (int i = 0; i < 511; i++) {
                due("call " + (i + 1), i % 2 == 0 ? y.mark() : y.unmark(), 0);
            }
            due("call 512", y.marked(0, 0), 5);
        });
        test(TERMS, "A call that throws changes nothing.", x -> {
            dueSameAfter(y -> y.triple(-1));
            dueSameAfter(y -> y.triple(3));
            dueSameAfter(y -> y.matrix(2, 0));
            dueSameAfter(y -> y.matrix(0, -1));
            dueSameAfter(y -> y.form(3));
            dueSameAfter(y -> y.form(0));
        });
    }

    /** A state in which all that can be asked for is there; its NUMBER is too great for a FORM. */
    private static MarkovTree full() {
        MarkovTree x = at(2, 3);
        x.mark();
        x.image(0);
        pathOf(x, "l0");
        x.told();
        x.go(13, 9);
        x.mark();
        feedText(x, "u2");
        return x;
    }

    private static void dueSameAfter(Act act) {
        MarkovTree x = full();
        dueNoSuch("the call", () -> act.answer(x));
        List<Long> got = allAnswers(x);
        List<Long> want = allAnswers(full());
        for (int i = 0; i < want.size(); i++) {
            due("answer " + i + " after it", got.get(i), want.get(i));
        }
    }

    private static List<Long> allAnswers(MarkovTree x) {
        List<Long> all = new ArrayList<>();
        for (int what = 0; what <= 9; what++) {
            all.add((long) x.now(what));
        }
        for (int i = 0; i < 3; i++) {
            all.add(x.triple(i));
            all.add(x.marked(i, 0));
            all.add((long) x.byteAt(i));
        }
        all.add(x.matrix(1, 1));
        all.add((long) x.fault());
        all.add((long) x.path());
        all.add((long) x.told());
        for (int i = 0; i < 6; i++) {
            all.add((long) x.undo());
            all.add(x.triple(2));
            all.add((long) x.now(7));
        }
        all.add(x.restore(0) ? 1L : 0L);
        all.add(x.triple(2));
        return all;
    }

    // ---- undo

    private static void whichActs() {
        test("Promise 33", "The latest path(), drawn() above 0", x -> {
            dueAct("path of l", 1, true, y -> pathOf(y, "l"));
            dueAct("path of lu", 2, true, y -> pathOf(y, "lu"));
            dueAct("path of h at 1 by 1", 1, true, y -> pathOf(y, "h"));
            dueAct("path of l, which then can't go on", 1, true, y -> pathOf(y, "lu2") - 1);
            dueAct("path of an empty tape", 0, false, y -> y.path());
            dueAct("path of blanks", 0, false, y -> pathOf(y, "  "));
            dueAct("path of u at 1 by 1", 0, false, y -> pathOf(y, "u"));
            dueAct("path of x", -1000, false, y -> pathOf(y, "x"));
            dueAct("path of l0", -1001, false, y -> pathOf(y, "l0"));
            dueAct("drawn of LEFT", 1, true, y -> y.drawn(1, seedFor(2)));
            dueAct("drawn of MARKED", 1, true, y -> y.drawn(1, seedFor(7)));
            dueAct("drawn of UP at 1 by 1", 0, false, y -> y.drawn(1, seedFor(0)));
            dueAct("drawn(0, 1)", NONE, false, y -> y.drawn(0, 1));
            dueAct("drawn(61, 1)", NONE, false, y -> y.drawn(61, 1));
        });
        test("Promise 33", "left(), right(), up(), go(), jump() that was not NONE", x -> {
            dueAct("left()", 3, true, y -> y.left());
            dueAct("right()", 3, true, y -> y.right());
            dueAct("up()", NONE, false, y -> y.up());
            dueAct("go(2, 1)", 1, true, y -> y.go(2, 1));
            dueAct("go(1, 1) at 1 by 1", NONE, false, y -> y.go(1, 1));
            dueAct("go(2, 2)", NONE, false, y -> y.go(2, 2));
            dueAct("jump(1) with one MARK", NONE, false, y -> y.jump(1));
            dueActAt(1, 21, "left() beyond 22", NONE, false, y -> y.left());
            dueActAt(21, 1, "right() beyond 22", NONE, false, y -> y.right());
            dueActAt(1, 2, "up()", 2, true, y -> y.up());
            dueActAt(1, 2, "go(1, 1), which answers 0", 0, true, y -> y.go(1, 1));
            dueActAt(1, 2, "jump(0)", 2, true, y -> y.jump(0));
            MarkovTree y = new MarkovTree();
            y.mark();
            due("jump(0) where it is", y.jump(0), NONE);
            due("now(8)", y.now(8), 1);
            y.left();
            due("jump(0), which answers 0", y.jump(0), 0);
            due("now(8)", y.now(8), 3);
            due("undo", y.undo(), 2);
            duePlace(y, 1, 2);
        });
        test("Promise 33", "mark(), unmark() that was 0 is undone", x -> {
            dueAct("mark()", 0, true, y -> y.mark());
            dueAct("unmark() where there is no MARK", 1, false, y -> y.unmark());
            x.mark();
            due("mark again", x.mark(), 1);
            due("now(8)", x.now(8), 1);
            due("unmark", x.unmark(), 0);
            due("now(8)", x.now(8), 2);
            due("unmark again", x.unmark(), 1);
            due("now(8)", x.now(8), 2);
            due("undo of unmark", x.undo(), 1);
            due("now(7)", x.now(7), 1);
            due("undo of mark", x.undo(), 0);
            due("now(7)", x.now(7), 0);
        });
        test("Promise 33", "NONE: none is", x -> {
            due("undo of a new object", x.undo(), NONE);
            x.left();
            due("undo", x.undo(), 0);
            due("undo of what was undone", x.undo(), NONE);
            duePlace(x, 1, 1);
            // none of these is an act
            feedText(x, "l");
            x.end(0);
            x.told();
            x.image(0);
            x.upTo(5);
            x.triple(0);
            due("undo", x.undo(), NONE);
            x.left();
            x.restore(0);
            due("undo after restore", x.undo(), NONE);
        });
    }

    private static void dueAct(String call, long answer, boolean isAct, Act act) {
        dueActAt(1, 1, call, answer, isAct, act);
    }

    /** A call at a PLACE, with a MARK at 2 by 3: what it answers, whether it can be undone, and that the PLACE is as it was then. */
    private static void dueActAt(int p, int q, String call, long answer, boolean isAct, Act act) {
        MarkovTree x = at(2, 3);
        x.mark();
        x.go(p, q);
        due(call, act.answer(x), answer);
        due("now(8) after " + call, x.now(8), isAct ? 4 : 3);
        if (isAct) {
            due("undo of " + call, x.undo(), 3);
        }
        duePlace(x, p, q);
        due("now(7) then", x.now(7), 1);
        due("marked(0, 0) then", x.marked(0, 0), 194);
    }

    private static void undone() {
        test("Promise 33", "(PLACE and MARKS)", x -> {
            MarkovTree y = full();
            // the tape has u2; what stands there is gone, not brought back
            due("path", y.path(), 2);
            feedText(y, "l");
            due("undo of the path", y.undo(), 4);
            duePlace(y, 13, 9);
            due("now(6)", y.now(6), 6);
            due("now(7)", y.now(7), 2);
            due("now(9) stays", y.now(9), 1);
            due("fault() stays", y.fault(), 0);
            due("byteAt(0) stays", y.byteAt(0), 'l');
            due("undo of mark()", y.undo(), 3);
            duePlace(y, 13, 9);
            due("now(7)", y.now(7), 1);
            due("undo of go()", y.undo(), 2);
            duePlace(y, 2, 3);
            pathOf(y, "x");
            y.undo();
            due("now(7)", y.now(7), 0);
            due("fault() stays", y.fault(), 1);
            // PLACE and MARKS of one act together
            MarkovTree z = at(3, 2);
            due("drawn", z.drawn(60, 11) > 0, true);
            due("MARKS were drawn", z.now(7) > 0, true);
            due("undo of drawn()", z.undo(), 1);
            duePlace(z, 3, 2);
            due("now(7)", z.now(7), 0);
        });
    }

    private static void howMany() {
        test("Promise 33", "how many more can be (8 at most are kept)", x -> {
            for (int acts : new int[] {1, 7, 8, 9, 10, 17, 20}) {
                MarkovTree y = new MarkovTree();
                for (int i = 1; i <= acts; i++) {
                    y.left();
                    due("now(8) after " + i + " acts", y.now(8), Math.min(i, 8));
                }
                int kept = Math.min(acts, 8);
                for (int more = kept - 1; more >= 0; more--) {
                    due("undo after " + acts + " acts", y.undo(), more);
                    due("now(6)", y.now(6), acts - kept + more);
                }
                due("undo of no more", y.undo(), NONE);
                due("now(6)", y.now(6), acts - kept);
            }
            // what was undone makes room again
            for (int i = 0; i < 12; i++) {
                x.left();
            }
            due("undo", x.undo(), 7);
            due("undo", x.undo(), 6);
            x.mark();
            due("now(8)", x.now(8), 7);
            x.left();
            due("now(8)", x.now(8), 8);
            x.left();
            due("now(8)", x.now(8), 8);
            for (int more = 7; more >= 0; more--) {
                due("undo", x.undo(), more);
            }
            due("now(6)", x.now(6), 5);
            due("undo of no more", x.undo(), NONE);
        });
        test("Promise 33", "8 at most are kept", x -> {
            // what comes to nothing takes the room of none of the eight
            MarkovTree y = new MarkovTree();
            for (int i = 0; i < 20; i++) {
                y.left();
            }
            y.left();
            y.right();
            y.go(1, 21);
            y.jump(0);
            y.unmark();
            pathOf(y, "l");
            pathOf(y, "x");
            y.drawn(1, seedFor(2));
            y.drawn(61, 2);
            due("now(8)", y.now(8), 8);
            for (int more = 7; more >= 0; more--) {
                due("undo", y.undo(), more);
                due("now(6)", y.now(6), 12 + more);
            }
            due("undo of no more", y.undo(), NONE);
        });
    }

    // ---- images

    private static void images() {
        test("Promise 34", "PLACE and MARKS are kept in place k (0, 1): true", x -> {
            due("image(0)", x.image(0), true);
            x.go(2, 3);
            x.mark();
            due("image(1)", x.image(1), true);
            due("acts after it", x.now(8), 2);
            x.go(5, 7);
            x.mark();
            // what is kept is not what comes later
            due("restore(0)", x.restore(0), true);
            duePlace(x, 1, 1);
            due("now(7)", x.now(7), 0);
            due("restore(1)", x.restore(1), true);
            duePlace(x, 2, 3);
            due("now(7)", x.now(7), 1);
            due("marked(0, 0)", x.marked(0, 0), 194);
            // with fewer MARKS than now, and others
            x.go(1, 1);
            x.mark();
            x.restore(1);
            due("marked(0, 0)", x.marked(0, 0), 194);
            due("marked(1, 0)", x.marked(1, 0), NONE);
            // it is kept anew over what was kept
            x.left();
            due("image(1)", x.image(1), true);
            x.go(1, 1);
            due("restore(1)", x.restore(1), true);
            duePlace(x, 3, 5);
            // a full set of MARKS
            MarkovTree y = new MarkovTree();
            for (int i = 0; i < 16; i++) {
                y.mark();
                y.left();
            }
            y.image(0);
            y.jump(7);
            y.unmark();
            y.restore(0);
            due("now(7)", y.now(7), 16);
            due("marked(7, 2)", y.marked(7, 2), 8);
            due("marked(15, 2)", y.marked(15, 2), 16);
        });
        test("Promise 34", "false: no such one", x -> {
            for (int k : new int[] {-1, 2, 3, MIN, MAX}) {
                due("image(" + k + ")", x.image(k), false);
            }
            due("restore(0)", x.restore(0), false);
            due("restore(1)", x.restore(1), false);
            due("image(0)", x.image(0), true);
            due("image(1)", x.image(1), true);
        });
    }

    private static void restored() {
        test("Promise 35", "They are as kept in place k (the tape, what fault(), told() told, stays; nothing can be undone): true", x -> {
            x.go(2, 3);
            x.mark();
            x.image(1);
            x.go(2, 5);
            x.mark();
            pathOf(x, "r0");
            feedText(x, "u2");
            x.told();
            due("acts ahead of it", x.now(8), 4);
            due("restore(1)", x.restore(1), true);
            duePlace(x, 2, 3);
            due("now(2)", x.now(2), 1);
            due("now(6)", x.now(6), 2);
            due("now(7)", x.now(7), 1);
            due("now(8)", x.now(8), 0);
            due("undo", x.undo(), NONE);
            due("now(9) stays", x.now(9), 2);
            due("fault() stays", x.fault(), 2);
            due("byteAt(0) stays", x.byteAt(0), 'l');
            due("byteAt(2) stays", x.byteAt(2), 'r');
            due("the tape stays", x.path(), 2);
            duePlace(x, 1, 1);
            // what is done after it can be undone, and only that
            due("undo", x.undo(), 0);
            duePlace(x, 2, 3);
            due("undo", x.undo(), NONE);
            due("restore(1) again", x.restore(1), true);
        });
        test("Promise 35", "false: no such one, or nothing is kept there", x -> {
            x.left();
            for (int k : new int[] {-1, 0, 1, 2, MIN, MAX}) {
                due("restore(" + k + ")", x.restore(k), false);
            }
            duePlace(x, 1, 2);
            due("acts stay", x.now(8), 1);
            x.image(1);
            due("restore(0), where nothing is kept", x.restore(0), false);
            due("acts stay", x.now(8), 1);
            due("restore(-1)", x.restore(-1), false);
            due("restore(2)", x.restore(2), false);
            due("restore(1)", x.restore(1), true);
            MarkovTree y = new MarkovTree();
            y.image(0);
            due("restore(1), where nothing is kept", y.restore(1), false);
            due("restore(0)", y.restore(0), true);
        });
    }
}
