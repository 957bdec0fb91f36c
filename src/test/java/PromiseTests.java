import java.math.BigInteger;

/** For each promise of the document: ordinary inputs, the edges that it names, wrong inputs. */
public final class PromiseTests extends Checks {
    public static void main(String[] args) {
        newObject();
        tape();
        pathSteps();
        pathNumbersAndBlanks();
        pathBrackets();
        pathLimits();
        pathFaults();
        faultKinds();
        now();
        leftRightUp();
        go();
        triple();
        letterAndCut();
        matrix();
        form();
        value();
        roundAndLeast();
        upToMarkovRank();
        triplesAndWith();
        spread();
        marking();
        markedAndNear();
        jump();
        told();
        drawn();
        undo();
        undoOfEachAct();
        imageAndRestore();
        throwingChangesNothing();
        tellAll();
    }

    // ---- the promises

    private static void newObject() {
        about = "promise 1";
        MarkovTree x = new MarkovTree();
        int[] want = {1, 1, 0, 1, 1, 0, 0, 0, 0, 0};
        for (int i = 0; i < want.length; i++) {
            due("now(" + i + ")", x.now(i), want[i]);
        }
        due("NONE", MarkovTree.NONE, -1);
        due("HIDDEN", MarkovTree.HIDDEN, -1000000000000000000L);
        MarkovTree other = new MarkovTree();
        x.left();
        x.mark();
        duePlace(other, 1, 1);
        due("now(7) of another object", other.now(7), 0);
    }

    private static void tape() {
        about = "promise 2";
        MarkovTree x = new MarkovTree();
        for (int i = 1; i <= 12; i++) {
            due("feed " + i, x.feed(0, 0, 0, 0, 0), 20 * i);
        }
        due("feed beyond 240", x.feed(0, 0, 0, 0, 0), -1);
        due("now(9)", x.now(9), 240);
        about = "promise 3";
        due("end(241)", x.end(241), false);
        due("end(-1)", x.end(-1), false);
        due("end(MIN)", x.end(Integer.MIN_VALUE), false);
        due("end(MAX)", x.end(Integer.MAX_VALUE), false);
        due("now(9)", x.now(9), 240);
        due("end(240)", x.end(240), true);
        due("end(221)", x.end(221), true);
        about = "promise 2";
        due("feed to 241", x.feed(0, 0, 0, 0, 0), -1);
        due("now(9)", x.now(9), 221);
        x.end(220);
        due("feed to 240", x.feed(0, 0, 0, 0, 0), 240);
        about = "promise 3";
        due("end(0)", x.end(0), true);
        due("end(1) of an empty tape", x.end(1), false);
        due("end(0) of an empty tape", x.end(0), true);
        about = "promise 2";
        // the order of the bytes: l r u r l, then 15 blanks
        x.feed(0x6c727572, 0x6c202020, 0x20202020, 0x20202020, 0x20202020);
        due("path", x.path(), 5);
        duePlace(x, 3, 5);
        // of all five numbers: [ r l u ] 2 and blanks between
        x.go(1, 1);
        x.feed(0x2020205b, 0x20202072, 0x2020206c, 0x20202075, 0x20205d32);
        due("path", x.path(), 6);
        // a tape is fed behind what was there
        x.go(1, 1);
        feedText(x, "l");
        feedText(x, "2r");
        due("now(9)", x.now(9), 3);
        due("path", x.path(), 3);
        duePlace(x, 2, 5);
    }

    private static void pathSteps() {
        about = "promise 4";
        duePath("", 0, "");
        duePath("l", 1, "l");
        duePath("r", 1, "r");
        duePath("lr", 2, "lr");
        duePath("lrlu", 4, "lr");
        duePath("l3u2", 5, "l");
        duePath("rrhl", 4, "l");
        duePath("h", 1, "");
        duePath("hhh", 3, "");
        duePath("u", 0, "");
        duePath("lu", 2, "");
        duePath("luur", 2, "");
        duePath("u9l", 0, "");
        duePath("l2u3r", 4, "");
        MarkovTree x = new MarkovTree();
        x.go(1, 4);
        due("path from a PLACE", pathOf(x, "r"), 1);
        duePlace(x, 2, 7);
        due("tape", x.now(9), 0);
    }

    private static void pathNumbersAndBlanks() {
        about = "promise 4";
        duePath("l20", 20, "l20");
        duePath("l21", 20, "l20");
        duePath("r99", 20, "r20");
        duePath("l99r", 20, "l20");
        duePath("l01r02", 3, "lr2");
        duePath("   ", 0, "");
        duePath("  l  2  r  ", 3, "l2r");
        duePath("l 2r 3", 5, "l2r3");
        duePath("[ l r ] 2", 4, "lrlr");
        duePath("l1l1", 2, "l2");
    }

    private static void pathBrackets() {
        about = "promise 4";
        duePath("[]", 0, "");
        duePath("[]5l", 1, "l");
        duePath("[ ]5l", 1, "l");
        duePath("[[[]99]99]99l", 1, "l");
        duePath("[l]", 1, "l");
        duePath("[l]3", 3, "l3");
        duePath("[l2]3", 6, "l6");
        duePath("[[lu]2r]2", 10, "r2");
        duePath("[[[l]2]2]2", 8, "l8");
        duePath("[[l]2u]2", 6, "l2");
        duePath("[l[]9r]2", 4, "lrlr");
        duePath("[l][r][l]", 3, "lrl");
        duePath("[[l]2[u]2]3r", 13, "r");
        duePath("[lh]3r2", 8, "r2");
        duePath("[u]9l", 0, "");
        duePath("[l[r]9]2l", 10, "lr9");
        duePath("[[[]]]l[[]][][]r", 2, "lr");
        // a bracket is gone through as often each time that one round it comes to it
        duePath("[[ru]3l]3", 21, "l3");
    }

    private static void pathLimits() {
        about = "promise 4";
        duePath("[lu]99[lu]99[lu]52", 500, "");
        duePath("[lu]99[lu]99[lu]53", 500, "");
        duePath("[lu]99[lu]99[lu]51h", 499, "");
        duePath("[lu]99[lu]99[lu]51hhl", 500, "");
        duePath("[lu]99[lu]99[lu]51l", 499, "l");
        duePath("[lu]99[lu]99[lu]51l9", 500, "l2");
        duePath("[[[lu]99]99]99", 500, "");
        // at 1 by 11 RIGHT would come to 23
        duePath("[[[rul]99]99]99", 30, "l10");
        duePath("lu".repeat(100), 200, "");
        MarkovTree x = new MarkovTree();
        x.left();
        due("path of 200 bytes", pathOf(x, " ".repeat(199) + "l"), 1);
        due("path of 200 letters h", pathOf(x, "h".repeat(200)), 200);
        // nothing of one path is left for the next one
        due("path that ends within a bracket", pathOf(x, "[l]99"), 20);
        due("path with a bracket", pathOf(x, "[u]3"), 3);
        due("path that a number could follow", pathOf(x, "l"), 1);
        due("path of a number alone", pathOf(x, "2"), -1000);
        feedText(x, "hl123");
        x.end(3);
        due("path of a tape that was cut within a number", x.path(), 2);
        feedText(x, "h[l]");
        x.end(3);
        due("path of a tape that was cut within a bracket", x.path(), -1003);
    }

    private static void pathFaults() {
        about = "promise 4";
        dueFault("x", 0, 1);
        dueFault("lrx", 2, 1);
        dueFault("L", 0, 1);
        dueFault("l\tr", 1, 1);
        dueFault("l\u00ec", 1, 1);
        dueFault("\u00ff", 0, 1);
        dueFault("\u0000", 0, 1);
        dueFault("2", 0, 1);
        dueFault(" 2", 1, 1);
        dueFault("h2", 1, 1);
        dueFault("h 2", 2, 1);
        dueFault("lh2", 2, 1);
        dueFault("h100", 1, 1);
        dueFault("h0", 1, 1);
        dueFault("l2 2", 3, 1);
        dueFault("l 3 2", 4, 1);
        dueFault("l2 0", 3, 1);
        dueFault("l2 100", 3, 1);
        dueFault("[2l]", 1, 1);
        dueFault("l[2]", 2, 1);
        dueFault("]", 0, 1);
        dueFault("l]", 1, 1);
        dueFault("[l]]", 3, 1);
        dueFault("[", 1, 1);
        dueFault("[l", 2, 1);
        dueFault("[l  ", 4, 1);
        dueFault("[[l]2", 5, 1);
        dueFault("[]2 2", 4, 1);
    }

    private static void faultKinds() {
        about = "promise 5";
        due("fault ahead of any path", new MarkovTree().fault(), 0);
        dueFault("l0", 1, 2);
        dueFault("l00", 1, 2);
        dueFault("l000", 1, 2);
        dueFault("l100", 1, 2);
        dueFault("l007", 1, 2);
        dueFault("l 100", 2, 2);
        dueFault("l12345678901234567890", 1, 2);
        dueFault("l4294967297", 1, 2);
        dueFault("[l]0", 3, 2);
        dueFault("[]100x", 2, 2);
        dueFault("l100x", 1, 2);
        dueFault("lx100", 1, 1);
        dueFault("l0[[[[", 1, 2);
        dueFault("[[[[", 3, 3);
        dueFault("[ [ [ [", 6, 3);
        dueFault("[[[]]][[[[", 9, 3);
        dueFault("[[[l[", 4, 3);
        dueFault("[[[x[", 3, 1);
        dueFault(" ".repeat(200) + " ", 200, 1);
        dueFault("x" + " ".repeat(200), 200, 1);
        dueFault("l".repeat(220), 200, 1);
        dueFault("l".repeat(240), 200, 1);
        dueFault(" ".repeat(199) + "[", 200, 1);
        dueFault(" ".repeat(199) + "x", 199, 1);
        MarkovTree x = new MarkovTree();
        pathOf(x, "l0");
        due("fault", x.fault(), 2);
        due("fault again", x.fault(), 2);
        x.left();
        x.undo();
        due("fault after acts", x.fault(), 2);
        pathOf(x, "l");
        due("fault after a path without", x.fault(), 0);
        pathOf(x, "[[[[");
        due("fault", x.fault(), 3);
        pathOf(x, "");
        due("fault after an empty path", x.fault(), 0);
    }

    private static void now() {
        about = "promise 6";
        MarkovTree x = new MarkovTree();
        x.go(5, 7);
        x.mark();
        x.feed(1, 2, 3, 4, 5);
        int[] want = {5, 7, 2, 3, 3, 4, 4, 1, 2, 20};
        for (int i = 0; i < want.length; i++) {
            due("now(" + i + ")", x.now(i), want[i]);
        }
        for (int what : new int[] {-1, 10, 11, Integer.MIN_VALUE, Integer.MAX_VALUE}) {
            due("now(" + what + ")", x.now(what), -1);
        }
    }

    private static void leftRightUp() {
        about = "promise 7";
        MarkovTree x = new MarkovTree();
        for (int i = 3; i <= 22; i++) {
            due("left to " + i, x.left(), i);
        }
        due("left beyond 22", x.left(), -1);
        duePlace(x, 1, 21);
        due("acts", x.now(8), 8);
        x = new MarkovTree();
        x.go(7, 8);
        due("left to 13 by 15", x.left(), -1);
        about = "promise 8";
        due("right to 8 by 9", x.right(), 17);
        x = new MarkovTree();
        for (int i = 3; i <= 22; i++) {
            due("right to " + i, x.right(), i);
        }
        due("right beyond 22", x.right(), -1);
        duePlace(x, 21, 1);
        x = new MarkovTree();
        x.left();
        due("right after left", x.right(), 5);
        duePlace(x, 2, 3);
        due("now(2)", x.now(2), 1);
        due("now(3)", x.now(3), 2);
        due("now(4)", x.now(4), 1);
        due("now(5)", x.now(5), 1);
        about = "promise 9";
        x.left();
        due("up", x.up(), 5);
        due("up", x.up(), 3);
        due("up", x.up(), 2);
        due("up from 1 by 1", x.up(), -1);
        duePlace(x, 1, 1);
        x.go(8, 13);
        int[] sums = {13, 8, 5, 3, 2, -1};
        for (int sum : sums) {
            due("up from 8 by 13 on", x.up(), sum);
        }
    }

    private static void go() {
        about = "promise 10";
        MarkovTree x = new MarkovTree();
        int[][] none = {{1, 1}, {0, 1}, {1, 0}, {0, 0}, {2, 2}, {3, 6}, {22, 1}, {1, 22}, {12, 11}, {-1, 2}, {2, -1}, {-1, -1},
            {Integer.MAX_VALUE, 1}, {1, Integer.MAX_VALUE}, {Integer.MAX_VALUE, Integer.MAX_VALUE}, {Integer.MIN_VALUE, 3},
            {3, Integer.MIN_VALUE}, {11, 11}, {21, 2}, {1073741824, -1073741823}, {Integer.MIN_VALUE, Integer.MIN_VALUE}};
        for (int[] f : none) {
            due("go(" + f[0] + ", " + f[1] + ")", x.go(f[0], f[1]), -1);
        }
        duePlace(x, 1, 1);
        due("acts", x.now(8), 0);
        int[][] some = {{1, 2, 1}, {2, 1, 1}, {21, 1, 20}, {1, 21, 20}, {8, 13, 5}, {13, 9, 6}, {5, 7, 4}, {1, 1, 0}, {3, 19, 8}};
        for (int[] f : some) {
            due("go(" + f[0] + ", " + f[1] + ")", x.go(f[0], f[1]), f[2]);
            duePlace(x, f[0], f[1]);
            due("now(6)", x.now(6), f[2]);
            due("go(" + f[0] + ", " + f[1] + ") again", x.go(f[0], f[1]), -1);
        }
        due("p of the two beside", x.now(2) + x.now(4), 3);
        due("q of the two beside", x.now(3) + x.now(5), 19);
        due("of the two beside", x.now(4) * x.now(3) - x.now(2) * x.now(5), 1);
    }

    private static void triple() {
        about = "promise 11";
        MarkovTree x = new MarkovTree();
        long[][] want = {{1, 1, 1, 2, 5}, {1, 2, 1, 5, 13}, {2, 1, 5, 2, 29}, {2, 3, 13, 5, 194}, {3, 2, 5, 29, 433}, {1, 3, 1, 13, 34},
            {3, 1, 29, 2, 169}};
        for (int i = 0; i < want.length; i++) {
            x.go((int) want[i][0], (int) want[i][1]);
            for (int j = 0; j < 3; j++) {
                due("triple(" + j + ") of " + want[i][0] + " by " + want[i][1], x.triple(j), want[i][2 + j]);
            }
        }
        // far from 1 by 1: Fibonacci's and Pell's numbers
        x.go(1, 21);
        due("triple(2) of 1 by 21", x.triple(2), fibonacci(45));
        x.go(21, 1);
        due("triple(0) of 21 by 1", x.triple(0), pell(41));
        due("triple(1) of 21 by 1", x.triple(1), 2);
        due("triple(2) of 21 by 1", x.triple(2), pell(43));
        for (int what : new int[] {-1, 3, Integer.MIN_VALUE, Integer.MAX_VALUE}) {
            dueNoSuch("triple(" + what + ")", () -> x.triple(what));
        }
    }

    private static void letterAndCut() {
        dueWord(1, 1, "ab", 1);
        dueWord(1, 2, "aab", 1);
        dueWord(2, 1, "abb", 2);
        dueWord(2, 3, "aabab", 3);
        dueWord(3, 2, "ababb", 2);
        dueWord(1, 21, "aaaaaaaaaaaaaaaaaaaaab", 1);
        dueWord(21, 1, "abbbbbbbbbbbbbbbbbbbbb", 21);
        dueWord(5, 7, "aabab" + "aababab", 5);
    }

    private static void dueWord(int p, int q, String word, int cut) {
        about = "promise 12";
        MarkovTree x = new MarkovTree();
        x.go(p, q);
        for (int i = 1; i <= word.length(); i++) {
            due("letter(" + i + ") of " + p + " by " + q, x.letter(i), word.charAt(i - 1));
        }
        for (int i : new int[] {0, -1, word.length() + 1, Integer.MIN_VALUE, Integer.MAX_VALUE}) {
            due("letter(" + i + ") of " + p + " by " + q, x.letter(i), -1);
        }
        about = "promise 13";
        due("cut of " + p + " by " + q, x.cut(), cut);
    }

    private static void matrix() {
        about = "promise 14";
        MarkovTree x = new MarkovTree();
        dueMatrix(x, 12, 5, 7, 3);
        x.left();
        dueMatrix(x, 31, 13, 19, 8);
        x.go(2, 1);
        dueMatrix(x, 70, 29, 41, 17);
        int[][] none = {{2, 0}, {0, 2}, {-1, 0}, {0, -1}, {2, 2}, {Integer.MIN_VALUE, 1}, {1, Integer.MAX_VALUE}};
        for (int[] ij : none) {
            dueNoSuch("matrix(" + ij[0] + ", " + ij[1] + ")", () -> x.matrix(ij[0], ij[1]));
        }
        atEach((y, p, q) -> {
            due("3 times the NUMBER at " + p + " by " + q, y.matrix(0, 0) + y.matrix(1, 1), 3 * y.triple(2));
            due("the NUMBER at " + p + " by " + q, y.matrix(0, 1), y.triple(2));
        });
    }

    private static void dueMatrix(MarkovTree x, long a, long b, long c, long d) {
        due("matrix(0, 0)", x.matrix(0, 0), a);
        due("matrix(0, 1)", x.matrix(0, 1), b);
        due("matrix(1, 0)", x.matrix(1, 0), c);
        due("matrix(1, 1)", x.matrix(1, 1), d);
    }

    private static void form() {
        about = "promise 15";
        MarkovTree x = new MarkovTree();
        dueForm(x, 5, 9, -7);
        x.left();
        dueForm(x, 13, 39 - 16, -19);
        x.go(2, 1);
        dueForm(x, 29, 87 - 34, -41);
        for (int what : new int[] {-1, 3, Integer.MIN_VALUE, Integer.MAX_VALUE}) {
            dueNoSuch("form(" + what + ")", () -> x.form(what));
        }
        x.go(7, 10);
        dueForm(x, 981277621L, 3 * 981277621L - 2 * 601909025L, -1436520169L);
        x.go(1, 21);
        for (int what = -1; what <= 3; what++) {
            int w = what;
            dueNoSuch("form(" + w + ") beyond the bound", () -> x.form(w));
        }
    }

    private static void dueForm(MarkovTree x, long a, long b, long c) {
        due("form(0)", x.form(0), a);
        due("form(1)", x.form(1), b);
        due("form(2)", x.form(2), c);
    }

    private static void value() {
        about = "promise 16";
        MarkovTree x = new MarkovTree();
        due("value(1, 0)", x.value(1, 0), 5);
        due("value(0, 1)", x.value(0, 1), -7);
        due("value(1, 1)", x.value(1, 1), 7);
        due("value(-1, 1)", x.value(-1, 1), -11);
        due("value(3, -2)", x.value(3, -2), 45 - 54 - 28);
        due("value(999, 999)", x.value(999, 999), 7L * 998001);
        due("value(-999, 999)", x.value(-999, 999), -11L * 998001);
        int[][] hidden = {{1000, 0}, {-1000, 0}, {0, 1000}, {0, -1000}, {Integer.MIN_VALUE, 0}, {0, Integer.MIN_VALUE}, {Integer.MAX_VALUE, 1}};
        for (int[] xy : hidden) {
            due("value(" + xy[0] + ", " + xy[1] + ")", x.value(xy[0], xy[1]), MarkovTree.HIDDEN);
        }
        x.go(7, 10);
        long a = x.form(0);
        long b = x.form(1);
        long c = x.form(2);
        due("value(999, -999) of the greatest", x.value(999, -999), (a - b + c) * 998001);
        due("value(-999, -998) of the greatest", x.value(-999, -998), a * 998001 + b * 997002 + c * 996004);
        x.go(1, 21);
        due("value(1, 0) beyond the bound", x.value(1, 0), MarkovTree.HIDDEN);
        due("value(0, 0) beyond the bound", x.value(0, 0), MarkovTree.HIDDEN);
    }

    private static void roundAndLeast() {
        MarkovTree x = new MarkovTree();
        about = "promise 17";
        due("round of 1 by 1", x.round(), 4);
        about = "promise 18";
        due("least of 1 by 1", x.least(), 5);
        atEach((y, p, q) -> {
            boolean has = y.triple(2) <= 1000000000L;
            about = "promise 17";
            // each letter of the WORD has two partial quotients, each one a form
            due("round of " + p + " by " + q, y.round(), has ? 2 * (p + q) : -1);
            about = "promise 18";
            due("least of " + p + " by " + q, y.least(), has ? y.triple(2) : -1);
        });
        due("least without a round ahead of it", new MarkovTree().least(), 5);
        about = "promise 15";
        dueForm(x, 5, 9, -7);
        x.round();
        dueForm(x, 5, 9, -7);
    }

    private static void upToMarkovRank() {
        MarkovTree x = new MarkovTree();
        long[] numbers = {1, 2, 5, 13, 29, 34, 89, 169, 194, 233, 433, 610, 985, 1325, 1597, 2897, 4181, 5741, 6466, 7561, 9077, 10946,
            14701, 28657, 33461, 37666, 43261, 51641, 62210, 75025, 96557};
        for (int i = 0; i < numbers.length; i++) {
            about = "promise 19";
            due("upTo(" + numbers[i] + ")", x.upTo(numbers[i]), i + 1);
            due("upTo(" + (numbers[i] - 1) + ")", x.upTo(numbers[i] - 1), i == 0 ? -1 : i);
            about = "promise 20";
            due("markov(" + i + ")", x.markov(i), numbers[i]);
            about = "promise 21";
            due("rank(" + numbers[i] + ")", x.rank(numbers[i]), i);
        }
        about = "promise 19";
        due("upTo(the bound)", x.upTo(BOUND), 152);
        due("upTo(the bound less 1)", x.upTo(BOUND - 1), 152);
        for (long n : new long[] {0, -1, BOUND + 1, Long.MIN_VALUE, Long.MAX_VALUE}) {
            due("upTo(" + n + ")", x.upTo(n), -1);
        }
        about = "promise 20";
        due("markov(151)", x.markov(151), 982145940029L);
        for (int rank : new int[] {152, -1, Integer.MIN_VALUE, Integer.MAX_VALUE}) {
            due("markov(" + rank + ")", x.markov(rank), -1);
        }
        about = "promise 21";
        due("rank(the last)", x.rank(982145940029L), 151);
        // the next MARKOV number behind the bound is none of those that have a RANK here
        for (long n : new long[] {0, -1, 3, 4, 6, 96556, BOUND, BOUND + 1, 1135 * BOUND, Long.MIN_VALUE, Long.MAX_VALUE, fibonacci(61), fibonacci(91)}) {
            due("rank(" + n + ")", x.rank(n), -1);
        }
        due("rank(Fibonacci's 57th)", x.rank(fibonacci(57)), x.upTo(fibonacci(57)) - 1);
    }

    private static void triplesAndWith() {
        MarkovTree x = new MarkovTree();
        about = "promise 22";
        due("triples(433) as the first call", new MarkovTree().triples(433), 1);
        for (int i = 2; i < 152; i++) {
            due("triples of rank " + i, x.triples(x.markov(i)), 1);
        }
        for (long n : new long[] {1, 2, 3, 0, -1, 6, BOUND, BOUND + 1, Long.MIN_VALUE, Long.MAX_VALUE, fibonacci(61)}) {
            due("triples(" + n + ")", x.triples(n), -1);
        }
        about = "promise 23";
        due("with(433, 1) as the first call", new MarkovTree().with(433, 1), 29);
        long[][] want = {{5, 1, 2, 2}, {13, 1, 5, 3}, {29, 2, 5, 3}, {34, 1, 13, 4}, {194, 5, 13, 4}, {433, 5, 29, 4}, {169, 2, 29, 4},
            {1325, 13, 34, 5}, {7561, 13, 194, 5}, {fibonacci(57), 1, fibonacci(55), 28}};
        for (long[] w : want) {
            for (int what = 0; what < 3; what++) {
                due("with(" + w[0] + ", " + what + ")", x.with(w[0], what), w[1 + what]);
            }
            for (int what : new int[] {-1, 3, Integer.MIN_VALUE, Integer.MAX_VALUE}) {
                due("with(" + w[0] + ", " + what + ")", x.with(w[0], what), -1);
            }
        }
        for (long n : new long[] {1, 2, 3, 0, -1, 6, BOUND, BOUND + 1, Long.MIN_VALUE, Long.MAX_VALUE, fibonacci(61)}) {
            for (int what = -1; what <= 3; what++) {
                due("with(" + n + ", " + what + ")", x.with(n, what), -1);
            }
        }
        for (int i = 2; i < 152; i++) {
            MarkovTree y = new MarkovTree();
            dueTripleOf(y, y.markov(i));
        }
    }

    private static void dueTripleOf(MarkovTree x, long z) {
        long a = x.with(z, 0);
        long b = x.with(z, 1);
        due("the order of the triple of " + z, a < b && b < z, true);
        due("the squares of the triple of " + z, square(a).add(square(b)).add(square(z)).equals(
            BigInteger.valueOf(3).multiply(BigInteger.valueOf(a)).multiply(BigInteger.valueOf(b)).multiply(BigInteger.valueOf(z))), true);
        due("steps down of " + z, x.with(z, 2), stepsDown(a, b, z));
    }

    private static BigInteger square(long a) {
        return BigInteger.valueOf(a).pow(2);
    }

    private static long stepsDown(long a, long b, long c) {
        long greatest = Math.max(a, Math.max(b, c));
        if (greatest == 1) {
            return 0;
        }
        if (greatest == a) {
            return 1 + stepsDown(3 * b * c - a, b, c);
        }
        return 1 + (greatest == b ? stepsDown(a, 3 * a * c - b, c) : stepsDown(a, b, 3 * a * b - c));
    }

    private static void spread() {
        about = "promise 24";
        due("spread of 1 by 1", new MarkovTree().spread(), 1091399844);
        atEach((x, p, q) -> {
            float m = (float) x.triple(2);
            due("spread of " + p + " by " + q, x.spread(), Float.floatToIntBits(9.0f - 4.0f / (m * m)));
        });
    }

    private static void marking() {
        about = "promise 25";
        MarkovTree x = new MarkovTree();
        for (int q = 1; q <= 16; q++) {
            x.go(1, q);
            due("mark " + q, x.mark(), 0);
            due("mark " + q + " again", x.mark(), 1);
            due("now(7)", x.now(7), q);
        }
        due("mark one that is, with 16", x.mark(), 1);
        x.go(1, 17);
        due("mark a seventeenth", x.mark(), -1);
        due("now(7)", x.now(7), 16);
        about = "promise 26";
        due("unmark one that has none", x.unmark(), 1);
        x.go(1, 5);
        due("unmark", x.unmark(), 0);
        due("now(7)", x.now(7), 15);
        due("unmark again", x.unmark(), 1);
        due("the one ahead of it", x.marked(3, 2), 4);
        due("the one behind it", x.marked(4, 2), 6);
        due("the last one", x.marked(14, 2), 16);
        due("behind the last one", x.marked(15, 2), -1);
        about = "promise 25";
        x.go(1, 17);
        due("mark a sixteenth", x.mark(), 0);
        due("the last one", x.marked(15, 2), 17);
        about = "promise 26";
        x.go(1, 1);
        due("unmark the first", x.unmark(), 0);
        due("the first one", x.marked(0, 2), 2);
    }

    private static void markedAndNear() {
        about = "promise 27";
        MarkovTree x = new MarkovTree();
        int[][] places = {{3, 2}, {1, 2}, {2, 3}, {2, 1}, {21, 1}};
        for (int[] f : places) {
            x.go(f[0], f[1]);
            x.mark();
        }
        long[][] want = {{13, 1, 2}, {29, 2, 1}, {194, 2, 3}, {433, 3, 2}, {pell(43), 21, 1}};
        for (int i = 0; i < want.length; i++) {
            for (int what = 0; what < 3; what++) {
                due("marked(" + i + ", " + what + ")", x.marked(i, what), want[i][what]);
            }
            for (int what : new int[] {-1, 3, Integer.MIN_VALUE, Integer.MAX_VALUE}) {
                due("marked(" + i + ", " + what + ")", x.marked(i, what), -1);
            }
        }
        for (int i : new int[] {-1, 5, 16, Integer.MIN_VALUE, Integer.MAX_VALUE}) {
            for (int what = -1; what <= 3; what++) {
                due("marked(" + i + ", " + what + ")", x.marked(i, what), -1);
            }
        }
        about = "promise 28";
        long[][] nears = {{12, -1, 13}, {13, 13, 13}, {14, 13, 29}, {193, 29, 194}, {194, 194, 194}, {195, 194, 433}, {433, 433, 433},
            {434, 433, pell(43)}, {pell(43), pell(43), pell(43)}, {pell(43) + 1, pell(43), -1}, {0, -1, 13}, {-5, -1, 13},
            {Long.MIN_VALUE, -1, 13}, {Long.MAX_VALUE, pell(43), -1}};
        for (long[] n : nears) {
            due("near(" + n[0] + ", false)", x.near(n[0], false), n[1]);
            due("near(" + n[0] + ", true)", x.near(n[0], true), n[2]);
        }
        x.unmark();
        due("near(434, true) without the last MARK", x.near(434, true), -1);
        due("near(434, false) without the last MARK", x.near(Long.MAX_VALUE, false), 433);
        MarkovTree empty = new MarkovTree();
        due("near(5, true) without MARKS", empty.near(5, true), -1);
        due("near(5, false) without MARKS", empty.near(5, false), -1);
    }

    private static void jump() {
        about = "promise 29";
        MarkovTree x = new MarkovTree();
        due("jump(0) without MARKS", x.jump(0), -1);
        x.mark();
        due("jump(0) to where it is", x.jump(0), -1);
        x.go(5, 7);
        x.mark();
        due("jump(0)", x.jump(0), 0);
        duePlace(x, 1, 1);
        due("acts", x.now(8), 4);
        due("jump(1)", x.jump(1), 4);
        duePlace(x, 5, 7);
        due("now(6)", x.now(6), 4);
        due("p of the two beside", x.now(2), 2);
        for (int i : new int[] {2, -1, 16, Integer.MIN_VALUE, Integer.MAX_VALUE}) {
            due("jump(" + i + ")", x.jump(i), -1);
        }
        due("jump(1) to where it is", x.jump(1), -1);
        due("acts", x.now(8), 5);
    }

    private static void told() {
        about = "promise 30";
        MarkovTree x = new MarkovTree();
        due("byteAt(0) ahead of any", x.byteAt(0), -1);
        dueTold(x, "at 1 by 1", "");
        String[] paths = {"l", "r", "l2", "l20", "r20", "r9", "l10", "r18", "l19", "lr", "rlrlr", "l2r", "l6r2", "rl9", "l3r4", "r2lr"};
        for (String p : paths) {
            pathOf(x, "h" + p);
            dueTold(x, "after " + p, p);
        }
        about = "promise 31";
        pathOf(x, "hl2r");
        x.told();
        x.go(1, 1);
        x.mark();
        x.undo();
        due("byteAt(0) of the latest told", x.byteAt(0), 'l');
        due("byteAt(2) of the latest told", x.byteAt(2), 'r');
        for (int i : new int[] {3, -1, Integer.MIN_VALUE, Integer.MAX_VALUE}) {
            due("byteAt(" + i + ")", x.byteAt(i), -1);
        }
        x.told();
        due("byteAt(0) of an empty one", x.byteAt(0), -1);
    }

    private static void drawn() {
        about = "promise 32";
        MarkovTree x = new MarkovTree();
        for (int n : new int[] {0, 61, -1, Integer.MIN_VALUE, Integer.MAX_VALUE}) {
            due("drawn(" + n + ", 1)", x.drawn(n, 1), -1);
        }
        for (int seed : new int[] {0, 1, 11, -4, 77, Integer.MIN_VALUE, Integer.MAX_VALUE}) {
            for (int n : new int[] {1, 7, 60}) {
                dueDrawn(n, seed);
            }
        }
        // one draw each, by seeds that were looked for: UP from 1 by 1 can't be, MARKED is once
        due("drawn UP at 1 by 1", x.drawn(1, seedFor(0)), 0);
        due("acts", x.now(8), 0);
        due("drawn MARKED", x.drawn(1, seedFor(7)), 1);
        due("now(7)", x.now(7), 1);
        due("drawn MARKED again", x.drawn(1, seedFor(7)), 0);
        due("acts", x.now(8), 1);
        for (int draw = 1; draw <= 6; draw++) {
            x.go(1, 1);
            due("drawn " + draw, x.drawn(1, seedFor(draw)), 1);
            duePlace(x, draw <= 3 ? 1 : 2, draw <= 3 ? 2 : 1);
            due("drawn UP", x.drawn(1, seedFor(0)), 1);
            duePlace(x, 1, 1);
        }
        x.go(1, 21);
        due("drawn LEFT beyond 22", x.drawn(1, seedFor(2)), 0);
        x = new MarkovTree();
        for (int q = 1; q <= 16; q++) {
            x.go(1, q);
            x.mark();
        }
        x.go(2, 3);
        due("drawn MARKED with 16", x.drawn(1, seedFor(7)), 0);
        due("now(7)", x.now(7), 16);
    }

    private static void dueDrawn(int n, int seed) {
        MarkovTree x = new MarkovTree();
        MarkovTree y = new MarkovTree();
        int s = seed;
        int done = 0;
        for (int i = 0; i < n; i++) {
            s = s * 1103515245 + 12345;
            int draw = (s >>> 8) % 8;
            int answer = draw == 0 ? y.up() : draw <= 3 ? y.left() : draw <= 6 ? y.right() : y.mark();
            done += draw == 7 ? answer == 0 ? 1 : 0 : answer == -1 ? 0 : 1;
        }
        String call = "drawn(" + n + ", " + seed + ")";
        due(call, x.drawn(n, seed), done);
        duePlace(x, y.now(0), y.now(1));
        due("now(6) after " + call, x.now(6), y.now(6));
        due("now(7) after " + call, x.now(7), y.now(7));
        for (int i = 0; i < y.now(7); i++) {
            due("marked(" + i + ", 0) after " + call, x.marked(i, 0), y.marked(i, 0));
        }
        due("acts after " + call, x.now(8), done > 0 ? 1 : 0);
    }

    private static void undo() {
        about = "promise 33";
        MarkovTree x = new MarkovTree();
        due("undo of nothing", x.undo(), -1);
        for (int i = 0; i < 11; i++) {
            x.left();
        }
        due("now(8)", x.now(8), 8);
        for (int i = 7; i >= 0; i--) {
            due("undo", x.undo(), i);
            due("now(6)", x.now(6), 3 + i);
        }
        due("undo of no more", x.undo(), -1);
        due("now(6)", x.now(6), 3);
        // acts that come to nothing spoil none of those that are kept
        for (int i = 0; i < 17; i++) {
            x.left();
        }
        due("left", x.left(), -1);
        due("right", x.right(), -1);
        due("unmark", x.unmark(), 1);
        due("go", x.go(2, 2), -1);
        due("jump", x.jump(0), -1);
        pathOf(x, "x");
        pathOf(x, "l");
        pathOf(x, "");
        x.drawn(1, seedFor(2));
        x.drawn(0, 0);
        for (int i = 7; i >= 0; i--) {
            due("undo", x.undo(), i);
            due("now(6)", x.now(6), 12 + i);
        }
        due("undo of no more", x.undo(), -1);
        // after an undo new acts are kept again
        x.up();
        due("now(8)", x.now(8), 1);
        due("undo", x.undo(), 0);
        due("now(6)", x.now(6), 12);
    }

    private static void undoOfEachAct() {
        about = "promise 33";
        dueUndone("left()", x -> x.left());
        dueUndone("right()", x -> x.right());
        dueUndone("up()", x -> x.up());
        dueUndone("go(1, 1)", x -> x.go(1, 1));
        dueUndone("jump(0)", x -> x.jump(0));
        dueUndone("unmark()", x -> x.unmark());
        dueUndone("drawn(60, 5)", x -> x.drawn(60, 5));
        dueUndone("path of lr", x -> goOnTape(x, "lr"));
        dueUndone("path of lu", x -> goOnTape(x, "lu"));
        dueUndone("path of h", x -> goOnTape(x, "h"));
        dueUndone("path of l99", x -> goOnTape(x, "l99"));
        // the one ahead, mark(), is undone there too
    }

    private interface Act {
        long answer(MarkovTree x);
    }

    private static long goOnTape(MarkovTree x, String text) {
        x.end(0);
        long answer = pathOf(x, text);
        x.feed(0, 0, 0, 0, 0);
        return answer;
    }

    /** An act from a PLACE and MARKS that no act ahead of it had noted. */
    private static void dueUndone(String call, Act act) {
        MarkovTree x = new MarkovTree();
        x.go(2, 3);
        x.mark();
        x.go(3, 2);
        x.feed(0, 0, 0, 0, 0);
        x.told();
        x.mark();
        due(call + " is done", act.answer(x) >= 0, true);
        due("now(8) after " + call, x.now(8), 5);
        due("undo of " + call, x.undo(), 4);
        duePlace(x, 3, 2);
        due("now(6)", x.now(6), 2);
        due("now(2)", x.now(2), 1);
        due("now(7) after undo of " + call, x.now(7), 2);
        due("marked(0, 0)", x.marked(0, 0), 194);
        due("marked(1, 0)", x.marked(1, 0), 433);
        due("now(9)", x.now(9), 20);
        due("byteAt(0)", x.byteAt(0), 'r');
        due("undo of mark()", x.undo(), 3);
        due("now(7)", x.now(7), 1);
        duePlace(x, 3, 2);
        due("undo of the act ahead", x.undo(), 2);
        duePlace(x, 2, 3);
        due("undo of the act ahead", x.undo(), 1);
        due("now(7)", x.now(7), 0);
        due("undo of the first act", x.undo(), 0);
        duePlace(x, 1, 1);
        due("undo of no more", x.undo(), -1);
    }

    private static void imageAndRestore() {
        about = "promise 34";
        MarkovTree x = new MarkovTree();
        for (int k : new int[] {-1, 2, Integer.MIN_VALUE, Integer.MAX_VALUE}) {
            due("image(" + k + ")", x.image(k), false);
            due("restore(" + k + ")", x.restore(k), false);
        }
        about = "promise 35";
        due("restore(0) of nothing", x.restore(0), false);
        due("restore(1) of nothing", x.restore(1), false);
        x.go(2, 3);
        x.mark();
        due("image(0)", x.image(0), true);
        due("restore(1) of nothing", x.restore(1), false);
        due("acts stay after an image and a restore that is not", x.now(8), 2);
        x.unmark();
        x.go(5, 7);
        x.mark();
        x.left();
        due("image(1)", x.image(1), true);
        x.go(1, 1);
        pathOf(x, "l0");
        x.feed(1, 2, 3, 4, 5);
        x.go(1, 3);
        x.told();
        due("restore(0)", x.restore(0), true);
        dueKept(x, 2, 3, 2, 194);
        due("restore(1)", x.restore(1), true);
        dueKept(x, 7, 10, 5, 1686049);
        x.left();
        x.mark();
        due("restore(1) again", x.restore(1), true);
        dueKept(x, 7, 10, 5, 1686049);
        x.go(1, 1);
        due("image(0) anew", x.image(0), true);
        due("acts after an image", x.now(8), 1);
        x.go(1, 2);
        due("restore(0)", x.restore(0), true);
        dueKept(x, 1, 1, 0, 1686049);
    }

    private static void dueKept(MarkovTree x, int p, int q, int steps, long marked) {
        duePlace(x, p, q);
        due("now(6)", x.now(6), steps);
        due("now(7)", x.now(7), 1);
        due("marked(0, 0)", x.marked(0, 0), marked);
        due("now(8)", x.now(8), 0);
        due("undo", x.undo(), -1);
        due("fault stays", x.fault(), 2);
        due("the tape stays", x.now(9), 20);
        due("byteAt(0) stays", x.byteAt(0), 'l');
        due("byteAt(1) stays", x.byteAt(1), '2');
    }

    private static void throwingChangesNothing() {
        about = "promise 11, 14, 15";
        MarkovTree x = new MarkovTree();
        x.go(13, 9);
        x.mark();
        x.feed(1, 2, 3, 4, 5);
        dueNoSuch("triple(3)", () -> x.triple(3));
        dueNoSuch("matrix(2, 2)", () -> x.matrix(2, 2));
        dueNoSuch("form(0)", () -> x.form(0));
        int[] want = {13, 9, 10, 7, 3, 2, 6, 1, 2, 20};
        for (int i = 0; i < want.length; i++) {
            due("now(" + i + ")", x.now(i), want[i]);
        }
    }
}
