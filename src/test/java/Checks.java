import java.util.NoSuchElementException;

/** What the tests are written with: answers that are due, texts put on the tape, numbers that are known elsewhere. */
class Checks {
    static final long BOUND = 1000000000000L;
    static final int NONE = -1;
    static final int MIN = Integer.MIN_VALUE;
    static final int MAX = Integer.MAX_VALUE;

    /** What is tested now, told with each wrong answer. */
    static String about = "";
    private static int checks = 0;
    private static int wrong = 0;

    interface Call {
        long answer();
    }

    static int checks() {
        return checks;
    }

    static void wrong(String words) {
        wrong++;
        System.out.println(about + ": " + words);
    }

    static void due(String call, long got, long want) {
        checks++;
        if (got != want) {
            wrong(call + " answered " + got + ", due is " + want);
        }
    }

    static void due(String call, boolean got, boolean want) {
        due(call, got ? 1 : 0, want ? 1 : 0);
    }

    static void dueNoSuch(String call, Call c) {
        checks++;
        try {
            wrong(call + " answered " + c.answer() + ", due is NoSuchElementException");
        } catch (NoSuchElementException e) {
            // as it should be
        }
    }

    /** How the tests went; ends with exit code 1 if an answer was wrong. */
    static void tellAll() {
        System.out.println(checks + " checks, " + wrong + " wrong");
        if (wrong != 0) {
            System.exit(1);
        }
    }

    // ---- the tape and what is read from it

    static void feedText(MarkovTree x, String text) {
        int before = x.now(9);
        for (int i = 0; i < text.length(); i += 20) {
            int[] n = new int[5];
            for (int j = 0; j < 20; j++) {
                int b = i + j < text.length() ? text.charAt(i + j) & 255 : 'x';
                n[j / 4] = n[j / 4] << 8 | b;
            }
            x.feed(n[0], n[1], n[2], n[3], n[4]);
        }
        x.end(before + text.length());
    }

    static int pathOf(MarkovTree x, String text) {
        feedText(x, text);
        return x.path();
    }

    /** A PATH without a FAULT from 1 by 1 on: how many STEPS are done, and how the PLACE is told then. */
    static void duePath(String text, int answer, String path) {
        MarkovTree x = new MarkovTree();
        due("path of " + text, pathOf(x, text), answer);
        due("fault of " + text, x.fault(), 0);
        dueTold(x, "after " + text, path);
    }

    static void dueTold(MarkovTree x, String when, String path) {
        due("told " + when, x.told(), path.length());
        for (int i = 0; i < path.length(); i++) {
            due("byteAt " + i + " " + when, x.byteAt(i), path.charAt(i));
        }
        due("byteAt behind the last " + when, x.byteAt(path.length()), NONE);
    }

    static void dueFault(String text, int place, int kind) {
        MarkovTree x = new MarkovTree();
        x.go(2, 3);
        due("path of " + text, pathOf(x, text), -1000 - place);
        due("fault of " + text, x.fault(), kind);
        due("tape after " + text, x.now(9), 0);
        due("p after " + text, x.now(0), 2);
        due("q after " + text, x.now(1), 3);
        due("acts after " + text, x.now(8), 1);
    }

    // ---- places

    static MarkovTree at(int p, int q) {
        MarkovTree x = new MarkovTree();
        x.go(p, q);
        return x;
    }

    static void duePlace(MarkovTree x, int p, int q) {
        due("now(0)", x.now(0), p);
        due("now(1)", x.now(1), q);
    }

    static boolean isPlace(int p, int q) {
        if (p < 1 || q < 1 || p + q > 22) {
            return false;
        }
        for (int d = 2; d <= p; d++) {
            if (p % d == 0 && q % d == 0) {
                return false;
            }
        }
        return true;
    }

    interface PlaceTest {
        void on(MarkovTree x, int p, int q);
    }

    /** A test at each one of the 149 PLACES, each time with a new object. */
    static void atEach(PlaceTest test) {
        for (int p = 1; p < 22; p++) {
            for (int q = 1; p + q <= 22; q++) {
                if (isPlace(p, q)) {
                    test.on(at(p, q), p, q);
                }
            }
        }
    }

    // ---- numbers

    static long pell(int n) {
        long a = 0;
        long b = 1;
        for (int i = 0; i < n; i++) {
            long next = 2 * b + a;
            a = b;
            b = next;
        }
        return a;
    }

    static long fibonacci(int n) {
        long a = 0;
        long b = 1;
        for (int i = 0; i < n; i++) {
            long next = a + b;
            a = b;
            b = next;
        }
        return a;
    }

    /** A seed whose first draw of 8 is this one. */
    static int seedFor(int draw) {
        int seed = -1000;
        while ((seed * 1103515245 + 12345 >>> 8) % 8 != draw) {
            seed++;
        }
        return seed;
    }
}
