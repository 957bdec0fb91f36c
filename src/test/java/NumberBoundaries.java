import java.math.BigInteger;
import java.util.ArrayList;
import java.util.Arrays;
import java.util.List;

/** The boundaries of what is told of a PLACE and of all MARKOV numbers: promises 11 to 24. */
final class NumberBoundaries extends Boundaries {
    /** The PLACE with the greatest NUMBER that has a FORM, and the one with the least NUMBER that has none. */
    private static final int[] LAST_WITH_FORM = {7, 10};
    private static final int[] FIRST_WITHOUT = {1, 21};
    private static final long LAST_NUMBER_WITH_FORM = 981277621L;
    private static final long FIRST_NUMBER_WITHOUT = 1134903170L;

    /** The last MARKOV number up to the bound, its RANK, and the first one beyond it. */
    private static final long LAST = 982145940029L;
    private static final int LAST_RANK = 151;
    private static final long FIRST_BEYOND = 1070710724173L;

    private NumberBoundaries() {
    }

    static void tests() {
        words();
        cuts();
        triples();
        matrices();
        forms();
        values();
        rounds();
        markovNumbers();
        counted();
        ranks();
        greatest();
        greatestWith();
        spreads();
    }

    private static MarkovTree lastWithForm() {
        return at(LAST_WITH_FORM[0], LAST_WITH_FORM[1]);
    }

    private static MarkovTree firstWithout() {
        return at(FIRST_WITHOUT[0], FIRST_WITHOUT[1]);
    }

    // ---- WORD, CUT, TRIPLE, MATRIX

    private static void words() {
        test(TERMS, "the i-th (from 1) is a, if i p modulo n is more than (i less 1) p modulo n, else b", x -> {
            dueWord(1, 1, "ab");
            dueWord(1, 2, "aab");
            dueWord(2, 1, "abb");
            dueWord(1, 21, "a".repeat(21) + "b");
            dueWord(21, 1, "a" + "b".repeat(21));
            dueWord(3, 4, "aababab");
            atEach((y, p, q) -> {
                // p letters are b, q are a
                int letters = 0;
                for (int i = 1; i <= p + q; i++) {
                    letters += y.letter(i) == 'b' ? 1 : 0;
                }
                due("letters b of " + p + " by " + q, letters, p);
                due("the first letter of " + p + " by " + q, y.letter(1), 'a');
                due("the last letter of " + p + " by " + q, y.letter(p + q), 'b');
            });
        });
        test("Promise 12", "The i-th letter (from 1) of the WORD, as a byte; NONE: none such", x -> {
            due("letter(0)", x.letter(0), NONE);
            due("letter(1)", x.letter(1), 97);
            due("letter(2)", x.letter(2), 98);
            due("letter(3)", x.letter(3), NONE);
            due("letter(-1)", x.letter(-1), NONE);
            due("letter(MIN)", x.letter(MIN), NONE);
            due("letter(MAX)", x.letter(MAX), NONE);
            x.go(21, 1);
            due("letter(0) of 21 by 1", x.letter(0), NONE);
            due("letter(22) of 21 by 1", x.letter(22), 98);
            due("letter(23) of 21 by 1", x.letter(23), NONE);
            x.up();
            due("letter(21) of 20 by 1", x.letter(21), 98);
            due("letter(22) of 20 by 1", x.letter(22), NONE);
        });
    }

    private static void dueWord(int p, int q, String word) {
        MarkovTree x = at(p, q);
        for (int i = 1; i <= word.length(); i++) {
            due("letter(" + i + ") of " + p + " by " + q, x.letter(i), word.charAt(i - 1));
        }
    }

    private static void cuts() {
        test(TERMS, "behind the i-th letter, for which i p modulo n is 1", x -> atEach((y, p, q) -> {
            int cut = y.cut();
            due("the cut of " + p + " by " + q + " is within the WORD", cut >= 1 && cut < p + q, true);
            due("i p modulo n at the cut of " + p + " by " + q, cut * p % (p + q), 1);
        }));
        test(TERMS, "what is ahead of it, what is behind it are the WORDS of two fractions", x -> atEach((y, p, q) -> {
            int cut = y.cut();
            dueSameLetters(y, 0, at(y.now(2), y.now(3)), cut, y.now(2) == 0 ? "a" : "");
            dueSameLetters(y, cut, at(y.now(4), y.now(5)), p + q - cut, y.now(5) == 0 ? "b" : "");
        }));
        test("Promise 13", "Behind which letter its CUT is", x -> {
            due("cut of 1 by 1", x.cut(), 1);
            due("cut of 1 by 21", at(1, 21).cut(), 1);
            due("cut of 21 by 1", at(21, 1).cut(), 21);
            due("cut of 5 by 7", at(5, 7).cut(), 5);
        });
    }

    /** The letters of a WORD behind some are those of another one, which may be only one letter. */
    private static void dueSameLetters(MarkovTree x, int behind, MarkovTree part, int length, String only) {
        for (int i = 1; i <= length; i++) {
            long want = only.isEmpty() ? part.letter(i) : only.charAt(0);
            due("letter " + (behind + i) + " of " + x.now(0) + " by " + x.now(1), x.letter(behind + i), want);
        }
        due("letters of the part", length, only.isEmpty() ? part.now(0) + part.now(1) : 1);
    }

    private static void triples() {
        test(TERMS, "(0 by 1 has the WORD a, 1 by 0 the WORD b.)", x -> {
            for (int n = 1; n <= 21; n++) {
                due("triple(0) of 1 by " + n, at(1, n).triple(0), 1);
                due("triple(1) of " + n + " by 1", at(n, 1).triple(1), 2);
            }
        });
        test(TERMS, "So it is 1, 2, 5 at first", x -> {
            due("triple(0)", x.triple(0), 1);
            due("triple(1)", x.triple(1), 2);
            due("triple(2)", x.triple(2), 5);
        });
        test("Promise 11", "The TRIPLE: LEFT (0), RIGHT (1), the PLACE (2)", x -> {
            dueTriple(1, 2, 1, 5, 13);
            dueTriple(2, 1, 5, 2, 29);
            dueTriple(2, 3, 13, 5, 194);
            dueTriple(1, 21, 1, fibonacci(43), fibonacci(45));
            dueTriple(21, 1, pell(41), 2, pell(43));
            atEach((y, p, q) -> {
                BigInteger a = BigInteger.valueOf(y.triple(0));
                BigInteger b = BigInteger.valueOf(y.triple(1));
                BigInteger c = BigInteger.valueOf(y.triple(2));
                BigInteger product = BigInteger.valueOf(3).multiply(a).multiply(b).multiply(c);
                due("the squares at " + p + " by " + q, a.pow(2).add(b.pow(2)).add(c.pow(2)).equals(product), true);
            });
        });
        test("Promise 11", "NoSuchElementException: another what", x -> {
            due("triple(0)", x.triple(0), 1);
            due("triple(2)", x.triple(2), 5);
            for (int what : new int[] {-1, 3, MIN, MAX}) {
                dueNoSuch("triple(" + what + ")", () -> x.triple(what));
            }
        });
    }

    private static void dueTriple(int p, int q, long left, long right, long here) {
        MarkovTree x = at(p, q);
        due("triple(0) of " + p + " by " + q, x.triple(0), left);
        due("triple(1) of " + p + " by " + q, x.triple(1), right);
        due("triple(2) of " + p + " by " + q, x.triple(2), here);
    }

    private static void matrices() {
        test(TERMS, "the MATRIX's two on the way from the first row's first one down come to 3 times the NUMBER", x -> atEach((y, p, q) -> {
            due("the two at " + p + " by " + q, y.matrix(0, 0) + y.matrix(1, 1), 3 * y.triple(2));
            due("the NUMBER at " + p + " by " + q, y.matrix(0, 1), y.triple(2));
        }));
        test("Promise 14", "The MATRIX: row i, column j (0, 1 each)", x -> {
            due("matrix(0, 0)", x.matrix(0, 0), 12);
            due("matrix(0, 1)", x.matrix(0, 1), 5);
            due("matrix(1, 0)", x.matrix(1, 0), 7);
            due("matrix(1, 1)", x.matrix(1, 1), 3);
            x.go(21, 1);
            due("matrix(0, 1) of 21 by 1", x.matrix(0, 1), pell(43));
            due("matrix(0, 0) of 21 by 1", x.matrix(0, 0), pell(44));
        });
        test("Promise 14", "NoSuchElementException: no such ones", x -> {
            for (int other : new int[] {-1, 2, MIN, MAX}) {
                for (int one = 0; one < 2; one++) {
                    int i = one;
                    dueNoSuch("matrix(" + i + ", " + other + ")", () -> x.matrix(i, other));
                    dueNoSuch("matrix(" + other + ", " + i + ")", () -> x.matrix(other, i));
                }
                dueNoSuch("matrix(" + other + ", " + other + ")", () -> x.matrix(other, other));
            }
            due("matrix(1, 1)", x.matrix(1, 1), 3);
        });
    }

    // ---- FORM, ROUND

    private static void forms() {
        test(TERMS, "l = (k k and 1) by m (a whole number)", x -> atEach((y, p, q) -> {
            long m = y.triple(2);
            BigInteger k = BigInteger.valueOf(y.matrix(1, 1));
            BigInteger[] l = k.pow(2).add(BigInteger.ONE).divideAndRemainder(BigInteger.valueOf(m));
            due("what is left of l at " + p + " by " + q, l[1].signum(), 0);
            if (m <= 1000000000L) {
                due("form(0) of " + p + " by " + q, y.form(0), m);
                due("form(1) of " + p + " by " + q, y.form(1), 3 * m - 2 * k.longValue());
                due("form(2) of " + p + " by " + q, y.form(2), l[0].longValue() - 3 * k.longValue());
            }
        }));
        test(TERMS, "FORMS are asked of PLACES with NUMBERS to 1,000,000,000 alone", x -> {
            int[] places = new int[2];
            atEach((y, p, q) -> {
                boolean has = y.triple(2) <= 1000000000L;
                places[has ? 1 : 0]++;
                due("round of " + p + " by " + q + " is NONE", y.round() == NONE, !has);
                due("least of " + p + " by " + q + " is NONE", y.least() == NONE, !has);
                due("value of " + p + " by " + q + " is HIDDEN", y.value(0, 0) == MarkovTree.HIDDEN, !has);
            });
            due("PLACES with a FORM", places[1], 86);
            due("PLACES without", places[0], 63);
        });
        test("Promise 15", "FORM: what stands at x x (0), x y (1), y y (2)", x -> {
            due("form(0)", x.form(0), 5);
            due("form(1)", x.form(1), 9);
            due("form(2)", x.form(2), -7);
        });
        test("Promise 15", "NoSuchElementException: the NUMBER is above 1,000,000,000", x -> {
            MarkovTree with = lastWithForm();
            due("the NUMBER", with.triple(2), LAST_NUMBER_WITH_FORM);
            due("form(0)", with.form(0), LAST_NUMBER_WITH_FORM);
            due("form(1)", with.form(1), 3 * LAST_NUMBER_WITH_FORM - 2 * 601909025L);
            due("form(2)", with.form(2), -1436520169L);
            MarkovTree without = firstWithout();
            due("the NUMBER", without.triple(2), FIRST_NUMBER_WITHOUT);
            for (int what = -1; what <= 3; what++) {
                int w = what;
                dueNoSuch("form(" + w + ") beyond", () -> without.form(w));
            }
        });
        test("Promise 15", "another what", x -> {
            for (int what : new int[] {-1, 3, MIN, MAX}) {
                dueNoSuch("form(" + what + ")", () -> x.form(what));
            }
            due("form(0)", x.form(0), 5);
            due("form(2)", x.form(2), -7);
        });
    }

    private static void values() {
        test("Promise 16", "The value of FORM at x, y (-999 to 999 each)", x -> {
            due("value(0, 0)", x.value(0, 0), 0);
            due("value(999, 0)", x.value(999, 0), 5L * 998001);
            due("value(-999, 0)", x.value(-999, 0), 5L * 998001);
            due("value(0, 999)", x.value(0, 999), -7L * 998001);
            due("value(0, -999)", x.value(0, -999), -7L * 998001);
            due("value(999, 999)", x.value(999, 999), 7L * 998001);
            due("value(999, -999)", x.value(999, -999), -11L * 998001);
            due("value(-999, 998)", x.value(-999, 998), 5L * 998001 - 9L * 997002 - 7L * 996004);
        });
        test("Promise 16", "HIDDEN: not as told", x -> {
            for (int other : new int[] {1000, -1000, 1001, MIN, MAX}) {
                due("value(" + other + ", 0)", x.value(other, 0), MarkovTree.HIDDEN);
                due("value(0, " + other + ")", x.value(0, other), MarkovTree.HIDDEN);
                due("value(" + other + ", " + other + ")", x.value(other, other), MarkovTree.HIDDEN);
                due("value(" + other + ", 999)", x.value(other, 999), MarkovTree.HIDDEN);
                due("value(-999, " + other + ")", x.value(-999, other), MarkovTree.HIDDEN);
            }
        });
        test("Promise 16", "the NUMBER is above 1,000,000,000", x -> {
            MarkovTree with = lastWithForm();
            due("value(1, 0)", with.value(1, 0), LAST_NUMBER_WITH_FORM);
            long b = 3 * LAST_NUMBER_WITH_FORM - 2 * 601909025L;
            due("value(-999, -999)", with.value(-999, -999), (LAST_NUMBER_WITH_FORM + b - 1436520169L) * 998001);
            due("value(999, -999)", with.value(999, -999), (LAST_NUMBER_WITH_FORM - b - 1436520169L) * 998001);
            MarkovTree without = firstWithout();
            due("value(1, 0) beyond", without.value(1, 0), MarkovTree.HIDDEN);
            due("value(0, 0) beyond", without.value(0, 0), MarkovTree.HIDDEN);
            due("value(1000, 0) beyond", without.value(1000, 0), MarkovTree.HIDDEN);
        });
    }

    private static void rounds() {
        test(TERMS, "r the greatest whole number whose square is not above D", x -> atEach((y, p, q) -> {
            if (y.triple(2) <= 1000000000L) {
                due("round of " + p + " by " + q, y.round(), goneRound(y, true));
            }
        }));
        test(TERMS, "with r - 2 |c| < b' and b' not above r", x -> {
            // by hand from 5 9 -7 (D 221, r 14): -7 5 7, 7 9 -5, -5 11 5, 5 9 -7
            due("round of 1 by 1", x.round(), 4);
            due("round of 1 by 2", at(1, 2).round(), 6);
        });
        test(TERMS, "From FORM on forms come back at last to one that was: those from it on, till it comes again, are the ROUND", x -> {
            due("round of 21 by 1 is NONE", at(21, 1).round(), NONE);
            due("round of 1 by 1", x.round(), 4);
            due("round of 1 by 1 asked again", x.round(), 4);
            due("form(0) is still that of the FORM", x.form(0), 5);
            due("value(1, 0) is still that of the FORM", x.value(1, 0), 5);
        });
        test(TERMS, "the least |a| in the ROUND. (It is the NUMBER.)", x -> atEach((y, p, q) -> {
            if (y.triple(2) <= 1000000000L) {
                due("least of " + p + " by " + q, y.least(), y.triple(2));
                due("least of " + p + " by " + q + " by the ROUND", y.least(), goneRound(y, false));
            }
        }));
        test("Promise 17", "NONE: the NUMBER is above 1,000,000,000", x -> {
            due("round of the last one with a FORM", lastWithForm().round(), 34);
            due("round of the first one without", firstWithout().round(), NONE);
            due("round of the greatest", at(21, 1).round(), NONE);
        });
        test("Promise 18", "LEAST; NONE: likewise", x -> {
            due("least of the first one", x.least(), 5);
            due("least of the last one with a FORM", lastWithForm().least(), LAST_NUMBER_WITH_FORM);
            due("least of the first one without", firstWithout().least(), NONE);
            due("least of the greatest", at(21, 1).least(), NONE);
        });
    }

    /** Goes from the FORM on by the document's words: how many forms the ROUND has, or the least |a| in it. */
    private static long goneRound(MarkovTree x, boolean size) {
        BigInteger a = BigInteger.valueOf(x.form(0));
        BigInteger b = BigInteger.valueOf(x.form(1));
        BigInteger c = BigInteger.valueOf(x.form(2));
        BigInteger four = BigInteger.valueOf(4);
        BigInteger d = b.multiply(b).subtract(four.multiply(a).multiply(c));
        BigInteger r = d.sqrt();
        List<String> were = new ArrayList<>();
        List<BigInteger> firsts = new ArrayList<>();
        while (!were.contains(a + " " + b + " " + c)) {
            were.add(a + " " + b + " " + c);
            firsts.add(a.abs());
            BigInteger width = c.abs().shiftLeft(1);
            BigInteger next = r.subtract(r.add(b).mod(width));
            a = c;
            c = next.multiply(next).subtract(d).divide(four.multiply(c));
            b = next;
        }
        int from = were.indexOf(a + " " + b + " " + c);
        BigInteger least = firsts.subList(from, firsts.size()).stream().reduce(BigInteger::min).orElseThrow();
        return size ? were.size() - from : least.longValue();
    }

    // ---- MARKOV numbers

    private static void markovNumbers() {
        test(TERMS, "1, 2, and NUMBERS of all fractions (p, q as great as you like)", x -> {
            due("rank(1)", x.rank(1), 0);
            due("rank(2)", x.rank(2), 1);
            due("rank(5)", x.rank(5), 2);
            // 1 by 21 is a PLACE, 1 by 22 to 1 by 27 and 13 by 1 and further are none
            due("rank of the NUMBER of 1 by 21", x.markov(x.rank(fibonacci(45))), fibonacci(45));
            for (int q = 22; q <= 27; q++) {
                due("rank of the NUMBER of 1 by " + q, x.markov(x.rank(fibonacci(2 * q + 3))), fibonacci(2 * q + 3));
            }
            due("rank of the NUMBER of 15 by 1", x.markov(x.rank(pell(31))), pell(31));
            due("the last one, which no PLACE has", x.rank(LAST), LAST_RANK);
        });
        test(TERMS, "each once; RANK: how many are less", x -> {
            for (int rank = 1; rank <= LAST_RANK; rank++) {
                due("markov(" + rank + ") is above the one ahead of it", x.markov(rank) > x.markov(rank - 1), true);
            }
            due("markov(0)", x.markov(0), 1);
            due("upTo(28), less than 29", x.upTo(28), x.rank(29));
            due("upTo(the last less 1)", x.upTo(LAST - 1), x.rank(LAST));
        });
        test(TERMS, "the greatest becomes 3 times the two others multiplied less itself, till all are 1: so many steps", x -> {
            due("steps from 1 2 5", x.with(5, 2), 2);
            due("steps from 1 5 13", x.with(13, 2), 3);
            due("steps from 2 5 29", x.with(29, 2), 3);
            for (int rank = 2; rank <= LAST_RANK; rank++) {
                MarkovTree y = new MarkovTree();
                long z = y.markov(rank);
                due("steps from " + z, y.with(z, 2), stepsDown(y.with(z, 0), y.with(z, 1), z));
            }
        });
    }

    private static long stepsDown(long a, long b, long c) {
        long steps = 0;
        long[] t = {a, b, c};
        Arrays.sort(t);
        while (t[2] > 1) {
            t[2] = 3 * t[0] * t[1] - t[2];
            Arrays.sort(t);
            steps++;
        }
        return steps;
    }

    private static void counted() {
        test("Promise 19", "How many MARKOV numbers there are up to n (1 to 1,000,000,000,000)", x -> {
            due("upTo(1)", x.upTo(1), 1);
            due("upTo(2)", x.upTo(2), 2);
            due("upTo(4)", x.upTo(4), 2);
            due("upTo(5)", x.upTo(5), 3);
            due("upTo(6)", x.upTo(6), 3);
            due("upTo(the last less 1)", x.upTo(LAST - 1), LAST_RANK);
            due("upTo(the last)", x.upTo(LAST), LAST_RANK + 1);
            due("upTo(the bound less 1)", x.upTo(BOUND - 1), LAST_RANK + 1);
            due("upTo(the bound)", x.upTo(BOUND), LAST_RANK + 1);
        });
        test("Promise 19", "NONE: not as told", x -> {
            for (long n : new long[] {0, -1, BOUND + 1, FIRST_BEYOND, Long.MIN_VALUE, Long.MAX_VALUE, 1L << 32, -5}) {
                boolean asTold = n >= 1 && n <= BOUND;
                due("upTo(" + n + ") is NONE", x.upTo(n) == NONE, !asTold);
            }
        });
    }

    private static void ranks() {
        test("Promise 20", "The MARKOV number of a RANK (up to 1,000,000,000,000); NONE: none such", x -> {
            due("markov(-1)", x.markov(-1), NONE);
            due("markov(0)", x.markov(0), 1);
            due("markov(1)", x.markov(1), 2);
            due("markov(2)", x.markov(2), 5);
            due("markov(150)", x.markov(150), 956722026041L);
            due("markov(151)", x.markov(151), LAST);
            due("markov(152)", x.markov(152), NONE);
            due("markov(153)", x.markov(153), NONE);
            due("markov(160)", x.markov(160), NONE);
            due("markov(MIN)", x.markov(MIN), NONE);
            due("markov(MAX)", x.markov(MAX), NONE);
        });
        test("Promise 21", "The RANK of a MARKOV number (up to that); NONE: it is none", x -> {
            due("rank(1)", x.rank(1), 0);
            due("rank(2)", x.rank(2), 1);
            due("rank(3)", x.rank(3), NONE);
            due("rank(4)", x.rank(4), NONE);
            due("rank(5)", x.rank(5), 2);
            due("rank(0)", x.rank(0), NONE);
            due("rank(-1)", x.rank(-1), NONE);
            due("rank(-5)", x.rank(-5), NONE);
            due("rank(the last)", x.rank(LAST), LAST_RANK);
            due("rank(the last less 1)", x.rank(LAST - 1), NONE);
            due("rank(the last and 1)", x.rank(LAST + 1), NONE);
            due("rank(the bound)", x.rank(BOUND), NONE);
            due("rank of the first one beyond", x.rank(FIRST_BEYOND), NONE);
            due("rank of one far beyond", x.rank(fibonacci(91)), NONE);
            // as an int it would be 5
            due("rank(2 to the 32nd and 5)", x.rank((1L << 32) + 5), NONE);
            due("rank(MIN)", x.rank(Long.MIN_VALUE), NONE);
            due("rank(MAX)", x.rank(Long.MAX_VALUE), NONE);
        });
    }

    private static void greatest() {
        test("Promise 22", "How many TRIPLES (in whatever order once) there are of which a MARKOV number (5 up to that) is the greatest", x -> {
            due("triples(5)", x.triples(5), 1);
            due("triples(13)", x.triples(13), 1);
            due("triples(the last)", x.triples(LAST), 1);
            for (int rank = 2; rank <= LAST_RANK; rank++) {
                due("triples of rank " + rank, x.triples(x.markov(rank)), 1);
            }
        });
        test("Promise 22", "NONE: it is none", x -> {
            for (long n : new long[] {1, 2, 3, 4, 6, 0, -1, -5, LAST - 1, LAST + 1, BOUND, BOUND + 1, FIRST_BEYOND, fibonacci(91), (1L << 32) + 5,
                Long.MIN_VALUE, Long.MAX_VALUE}) {
                due("triples(" + n + ")", x.triples(n), NONE);
            }
        });
    }

    private static void greatestWith() {
        test("Promise 23",
            "(5 up to 1,000,000,000,000; the one with the least least number) the least (0), the middle one (1), how many steps DOWN (2)", x -> {
            dueWith(x, 5, 1, 2, 2);
            dueWith(x, 13, 1, 5, 3);
            dueWith(x, 29, 2, 5, 3);
            dueWith(x, 433, 5, 29, 4);
            dueWith(x, fibonacci(57), 1, fibonacci(55), 28);
            dueWith(x, LAST, 34, 9629807441L, 10);
        });
        test("Promise 23", "NONE: there is none", x -> {
            for (long n : new long[] {1, 2, 3, 4, 6, 0, -1, LAST - 1, LAST + 1, BOUND, BOUND + 1, FIRST_BEYOND, fibonacci(91), (1L << 32) + 5,
                Long.MIN_VALUE, Long.MAX_VALUE}) {
                for (int what = -1; what <= 3; what++) {
                    due("with(" + n + ", " + what + ")", x.with(n, what), NONE);
                }
            }
        });
        test("Promise 23", "another what", x -> {
            for (int what : new int[] {-1, 3, MIN, MAX}) {
                due("with(5, " + what + ")", x.with(5, what), NONE);
                due("with(the last, " + what + ")", x.with(LAST, what), NONE);
            }
            due("with(5, 0)", x.with(5, 0), 1);
            due("with(5, 2)", x.with(5, 2), 2);
        });
    }

    private static void dueWith(MarkovTree x, long n, long least, long middle, long steps) {
        due("with(" + n + ", 0)", x.with(n, 0), least);
        due("with(" + n + ", 1)", x.with(n, 1), middle);
        due("with(" + n + ", 2)", x.with(n, 2), steps);
    }

    private static void spreads() {
        test(TERMS, "as floats, 9.0f less 4.0f by (m as a float, multiplied by itself), as bits", x -> atEach((y, p, q) -> {
            float m = (float) y.triple(2);
            due("spread of " + p + " by " + q, y.spread(), Float.floatToIntBits(9.0f - 4.0f / (m * m)));
        }));
        test("Promise 24", "SPREAD of the PLACE's NUMBER", x -> {
            due("spread of 5", x.spread(), 1091399844);
            due("spread of 13", at(1, 2).spread(), 1091542798);
            // from 2897 on the float is 9 itself, half a step below it is just not come to
            due("spread of 1597", at(1, 7).spread(), 1091567614);
            due("spread of 2897", at(3, 4).spread(), 1091567616);
            due("spread of the greatest", at(21, 1).spread(), 1091567616);
        });
    }
}
