import java.math.BigInteger;
import java.util.ArrayDeque;
import java.util.ArrayList;
import java.util.HashMap;
import java.util.List;
import java.util.Map;
import java.util.NoSuchElementException;
import java.util.Random;
import java.util.TreeMap;

/** Long runs of calls, each answer held against a second program that goes other ways to it. */
public final class ModelRuns {
    private static final int RUNS = 1000;
    private static final int CALLS = 512;

    public static void main(String[] args) {
        int wrong = 0;
        for (int run = 0; run < RUNS && wrong < 5; run++) {
            wrong += runOnce(run);
        }
        System.out.println(RUNS + " runs of " + CALLS + " calls, " + wrong + " went wrong");
        if (wrong != 0) {
            System.exit(1);
        }
    }

    private static int runOnce(int run) {
        Random random = new Random(run);
        MarkovTree x = new MarkovTree();
        Model m = new Model();
        List<String> calls = new ArrayList<>();
        Chooser chooser = new Chooser(random, m);
        for (int i = 0; i < CALLS; i++) {
            Call call = chooser.next();
            String got = answer(call, x);
            String want = call.model.get();
            calls.add(call.name + " -> " + got);
            if (!got.equals(want)) {
                System.out.println("run " + run + ", the latest calls:");
                calls.subList(Math.max(0, calls.size() - 12), calls.size()).forEach(c -> System.out.println("  " + c));
                System.out.println("  due is " + want);
                return 1;
            }
        }
        return 0;
    }

    private static String answer(Call call, MarkovTree x) {
        try {
            return call.real.on(x).toString();
        } catch (NoSuchElementException e) {
            return "NoSuchElementException";
        }
    }

    interface Real {
        Object on(MarkovTree x);
    }

    interface Wanted {
        String get();
    }

    static final class Call {
        final String name;
        final Real real;
        final Wanted model;

        Call(String name, Real real, Wanted model) {
            this.name = name;
            this.real = real;
            this.model = model;
        }
    }

    /** Chooses calls, most of them such that something comes of them. */
    static final class Chooser {
        private final Random random;
        private final Model m;
        private final ArrayDeque<Call> waiting = new ArrayDeque<>();

        Chooser(Random random, Model m) {
            this.random = random;
            this.m = m;
        }

        Call next() {
            if (!waiting.isEmpty()) {
                return waiting.poll();
            }
            int kind = random.nextInt(40);
            if (kind < 13) {
                return move(kind);
            }
            return kind < 25 ? look(kind) : number(kind);
        }

        private int any(int... usual) {
            int[] far = {Integer.MIN_VALUE, Integer.MAX_VALUE, -1, 0, 1 << 16};
            return random.nextInt(20) == 0 ? far[random.nextInt(far.length)] : usual[random.nextInt(usual.length)];
        }

        private int upTo(int n) {
            return random.nextInt(20) == 0 ? any(0) : random.nextInt(n + 1);
        }

        private Call move(int kind) {
            switch (kind) {
                case 0: return new Call("left()", x -> x.left(), () -> m.left());
                case 1: return new Call("right()", x -> x.right(), () -> m.right());
                case 2: return new Call("up()", x -> x.up(), () -> m.up());
                case 3: case 4: {
                    int p = upTo(random.nextBoolean() ? 8 : 22);
                    int q = upTo(random.nextBoolean() ? 8 : 22);
                    return new Call("go(" + p + ", " + q + ")", x -> x.go(p, q), () -> m.go(p, q));
                }
                case 5: return new Call("mark()", x -> x.mark(), () -> m.mark());
                case 6: return random.nextInt(3) == 0 ? new Call("unmark()", x -> x.unmark(), () -> m.unmark()) : move(5);
                case 7: {
                    int i = upTo(16);
                    return new Call("jump(" + i + ")", x -> x.jump(i), () -> m.jump(i));
                }
                case 8: {
                    int n = upTo(61);
                    int seed = random.nextInt();
                    return new Call("drawn(" + n + ", " + seed + ")", x -> x.drawn(n, seed), () -> m.drawn(n, seed));
                }
                case 9: return new Call("undo()", x -> x.undo(), () -> m.undo());
                case 10: {
                    int k = any(0, 1);
                    return new Call("image(" + k + ")", x -> x.image(k), () -> m.image(k));
                }
                case 11: {
                    int k = any(0, 1);
                    return random.nextInt(3) != 0 ? move(9) : new Call("restore(" + k + ")", x -> x.restore(k), () -> m.restore(k));
                }
                default: return path();
            }
        }

        private Call path() {
            int many = random.nextInt(4) == 0 ? 200 : 30;
            String text = random.nextInt(10) == 0 ? noise(random.nextInt(241)) : grammar(random.nextInt(many) + 1, 0);
            if (random.nextInt(3) == 0 && !text.isEmpty()) {
                int at = random.nextInt(text.length());
                text = text.substring(0, at) + noise(random.nextInt(3)) + text.substring(at + random.nextInt(2));
            }
            feed(text.substring(0, Math.min(text.length(), 240)));
            waiting.add(new Call("path() of " + text, x -> x.path(), () -> m.path()));
            waiting.add(new Call("fault()", x -> x.fault(), () -> m.fault()));
            return waiting.poll();
        }

        private void feed(String text) {
            String kept = m.tape.isEmpty() && random.nextInt(10) != 0 ? text : "";
            if (kept.isEmpty()) {
                waiting.add(new Call("end(0)", x -> x.end(0), () -> m.end(0)));
            }
            for (int i = 0; i < text.length(); i += 20) {
                int[] n = new int[5];
                for (int j = 0; j < 20; j++) {
                    int b = i + j < text.length() ? text.charAt(i + j) : random.nextInt(256);
                    n[j / 4] = n[j / 4] << 8 | b;
                }
                waiting.add(new Call("feed", x -> x.feed(n[0], n[1], n[2], n[3], n[4]), () -> m.feed(n)));
            }
            int length = text.length();
            waiting.add(new Call("end(" + length + ")", x -> x.end(length), () -> m.end(length)));
        }

        private String noise(int n) {
            String signs = "lruh[] 0123456789x\u00ec\u0000";
            StringBuilder b = new StringBuilder();
            for (int i = 0; i < n; i++) {
                b.append(signs.charAt(random.nextInt(signs.length())));
            }
            return b.toString();
        }

        private String blanks() {
            return " ".repeat(random.nextInt(6) == 0 ? random.nextInt(3) : 0);
        }

        private String often() {
            int[] some = {1, 2, 3, 9, 10, 19, 99, 7};
            return random.nextBoolean() ? "" : blanks() + some[random.nextInt(some.length)];
        }

        private String grammar(int n, int open) {
            StringBuilder b = new StringBuilder();
            for (int left = n; left > 0; left--) {
                b.append(blanks());
                int kind = random.nextInt(10);
                if (kind < 2 && open < (random.nextInt(20) == 0 ? 4 : 3)) {
                    int inside = random.nextInt(Math.min(left, 6));
                    b.append('[').append(grammar(inside, open + 1)).append(blanks()).append(']').append(often());
                    left -= inside;
                } else if (kind == 9) {
                    b.append('h');
                } else {
                    b.append("llrruu".charAt(random.nextInt(6))).append(random.nextInt(3) == 0 ? often() : "");
                }
            }
            return b.append(blanks()).toString();
        }

        private Call look(int kind) {
            switch (kind) {
                case 13: {
                    int what = upTo(10);
                    return new Call("now(" + what + ")", x -> x.now(what), () -> m.now(what));
                }
                case 14: {
                    int what = upTo(3);
                    return new Call("triple(" + what + ")", x -> x.triple(what), () -> m.triple(what));
                }
                case 15: {
                    int i = upTo(23);
                    return new Call("letter(" + i + ")", x -> x.letter(i), () -> m.letter(i));
                }
                case 16: return new Call("cut()", x -> x.cut(), () -> m.cut());
                case 17: {
                    int i = any(0, 1);
                    int j = any(0, 1, 2);
                    return new Call("matrix(" + i + ", " + j + ")", x -> x.matrix(i, j), () -> m.matrix(i, j));
                }
                case 18: {
                    int what = upTo(3);
                    return new Call("form(" + what + ")", x -> x.form(what), () -> m.form(what));
                }
                case 19: {
                    int a = random.nextInt(2003) - 1001;
                    int b = random.nextInt(10) == 0 ? any(1000, -1000) : random.nextInt(1999) - 999;
                    return new Call("value(" + a + ", " + b + ")", x -> x.value(a, b), () -> m.value(a, b));
                }
                case 20: return new Call("round()", x -> x.round(), () -> m.round());
                case 21: return new Call("least()", x -> x.least(), () -> m.least());
                case 22: return new Call("spread()", x -> x.spread(), () -> m.spread());
                case 23: return new Call("told()", x -> x.told(), () -> m.told());
                default: {
                    int i = upTo(6);
                    return new Call("byteAt(" + i + ")", x -> x.byteAt(i), () -> m.byteAt(i));
                }
            }
        }

        private long someNumber() {
            List<Long> all = new ArrayList<>(Model.NUMBERS);
            long[] far = {0, -1, Long.MIN_VALUE, Long.MAX_VALUE, Model.BOUND, Model.BOUND + 1, Model.BOUND - 1};
            long n = all.get(random.nextInt(all.size())) + (random.nextInt(3) == 0 ? random.nextInt(3) - 1 : 0);
            return random.nextInt(15) == 0 ? far[random.nextInt(far.length)] : n;
        }

        private Call number(int kind) {
            long n = someNumber();
            switch (kind) {
                case 25: return new Call("upTo(" + n + ")", x -> x.upTo(n), () -> m.upTo(n));
                case 26: {
                    int rank = upTo(155);
                    return new Call("markov(" + rank + ")", x -> x.markov(rank), () -> m.markov(rank));
                }
                case 27: return new Call("rank(" + n + ")", x -> x.rank(n), () -> m.rank(n));
                case 28: return new Call("triples(" + n + ")", x -> x.triples(n), () -> m.triples(n));
                case 29: {
                    int what = upTo(3);
                    return new Call("with(" + n + ", " + what + ")", x -> x.with(n, what), () -> m.with(n, what));
                }
                case 30: case 31: {
                    int i = upTo(16);
                    int what = upTo(3);
                    return new Call("marked(" + i + ", " + what + ")", x -> x.marked(i, what), () -> m.marked(i, what));
                }
                case 32: case 33: {
                    long near = m.marks.isEmpty() || random.nextBoolean() ? n
                        : new ArrayList<>(m.marks.keySet()).get(random.nextInt(m.marks.size())) + random.nextInt(3) - 1;
                    boolean is = random.nextBoolean();
                    return new Call("near(" + near + ", " + is + ")", x -> x.near(near, is), () -> m.near(near, is));
                }
                case 34: {
                    int[] some = {random.nextInt(), random.nextInt(), random.nextInt(), random.nextInt(), random.nextInt()};
                    return random.nextInt(4) != 0 ? move(12)
                        : new Call("feed", x -> x.feed(some[0], some[1], some[2], some[3], some[4]), () -> m.feed(some));
                }
                case 35: {
                    int to = upTo(60);
                    return random.nextInt(4) != 0 ? move(12) : new Call("end(" + to + ")", x -> x.end(to), () -> m.end(to));
                }
                case 36: return new Call("fault()", x -> x.fault(), () -> m.fault());
                default: return move(random.nextInt(10));
            }
        }
    }

    /** The second program: a PLACE is the text of its way, all numbers are BigIntegers. */
    static final class Model {
        static final long BOUND = 1000000000000L;
        static final TreeMap<Long, List<long[]>> GREATEST = new TreeMap<>();
        static final List<Long> NUMBERS = new ArrayList<>();
        private static final BigInteger THREE = BigInteger.valueOf(3);
        private static final BigInteger FOUR = BigInteger.valueOf(4);
        private static final String NO_SUCH = "NoSuchElementException";
        private static final String NONE = "-1";

        static {
            gather(BigInteger.ONE, BigInteger.TWO, BigInteger.valueOf(5));
            NUMBERS.add(1L);
            NUMBERS.add(2L);
            NUMBERS.addAll(GREATEST.keySet());
        }

        String tape = "";
        TreeMap<Long, String> marks = new TreeMap<>();
        private String way = "";
        private int fault = 0;
        private String toldText = "";
        private final ArrayDeque<Object[]> acts = new ArrayDeque<>();
        private final Object[][] images = new Object[2][];

        private static void gather(BigInteger x, BigInteger y, BigInteger z) {
            if (z.compareTo(BigInteger.valueOf(BOUND)) > 0) {
                return;
            }
            GREATEST.computeIfAbsent(z.longValueExact(), k -> new ArrayList<>())
                .add(new long[] {x.longValueExact(), y.longValueExact(), z.longValueExact()});
            gather(x, z, THREE.multiply(x).multiply(z).subtract(y));
            gather(y, z, THREE.multiply(y).multiply(z).subtract(x));
        }

        // ---- a way and what it leads to

        /** p, q of the LEFT one, of the RIGHT one, of the PLACE. */
        private static int[] fractions(String way) {
            int[] f = {0, 1, 1, 0, 1, 1};
            for (char c : way.toCharArray()) {
                int to = c == 'l' ? 2 : 0;
                f[to] = f[4];
                f[to + 1] = f[5];
                f[4] = f[0] + f[2];
                f[5] = f[1] + f[3];
            }
            return f;
        }

        private static int together(String way) {
            int[] f = fractions(way);
            return f[4] + f[5];
        }

        /** The WORDS of LEFT, RIGHT and the PLACE, which are always the two beside it in a row. */
        private static String[] words(String way) {
            String[] w = {"a", "b", "ab"};
            for (char c : way.toCharArray()) {
                w[c == 'l' ? 1 : 0] = w[2];
                w[2] = w[0] + w[1];
            }
            return w;
        }

        /** x, y, z: z by the equation alone. */
        private static BigInteger[] numbers(String way) {
            BigInteger[] t = {BigInteger.ONE, BigInteger.TWO, BigInteger.valueOf(5)};
            for (char c : way.toCharArray()) {
                int gone = c == 'l' ? 1 : 0;
                BigInteger z = THREE.multiply(t[1 - gone]).multiply(t[2]).subtract(t[gone]);
                t[gone] = t[2];
                t[2] = z;
            }
            return t;
        }

        private static BigInteger[] product(String word) {
            BigInteger[] m = {BigInteger.ONE, BigInteger.ZERO, BigInteger.ZERO, BigInteger.ONE};
            for (char c : word.toCharArray()) {
                long[] by = c == 'a' ? new long[] {2, 1, 1, 1} : new long[] {5, 2, 2, 1};
                BigInteger[] n = new BigInteger[4];
                for (int i = 0; i < 2; i++) {
                    for (int j = 0; j < 2; j++) {
                        n[2 * i + j] = m[2 * i].multiply(BigInteger.valueOf(by[j])).add(m[2 * i + 1].multiply(BigInteger.valueOf(by[2 + j])));
                    }
                }
                m = n;
            }
            return m;
        }

        private long number() {
            return numbers(way)[2].longValueExact();
        }

        private static String wayTo(int p, int q) {
            // Euclid's way, backwards: what is taken off tells the step
            StringBuilder b = new StringBuilder();
            int a = p;
            int c = q;
            while (a != c) {
                if (a < c) {
                    b.append('l');
                    c -= a;
                } else {
                    b.append('r');
                    a -= c;
                }
            }
            return a == 1 ? b.toString() : null;
        }

        // ---- acts

        private Object[] snapshot() {
            return new Object[] {way, new TreeMap<>(marks)};
        }

        @SuppressWarnings("unchecked")
        private void take(Object[] s) {
            way = (String) s[0];
            marks = new TreeMap<>((TreeMap<Long, String>) s[1]);
        }

        private void keep(Object[] before) {
            acts.addLast(before);
            if (acts.size() > 8) {
                acts.removeFirst();
            }
        }

        private boolean step(char c) {
            if (c == 'u') {
                if (way.isEmpty()) {
                    return false;
                }
                way = way.substring(0, way.length() - 1);
                return true;
            }
            if (c == 'h') {
                way = "";
                return true;
            }
            if (together(way + c) > 22) {
                return false;
            }
            way = way + c;
            return true;
        }

        private String stepAct(char c) {
            Object[] before = snapshot();
            if (!step(c)) {
                return NONE;
            }
            keep(before);
            return "" + together(way);
        }

        String left() {
            return stepAct('l');
        }

        String right() {
            return stepAct('r');
        }

        String up() {
            return stepAct('u');
        }

        private String walk(String to) {
            if (to == null || to.equals(way)) {
                return NONE;
            }
            keep(snapshot());
            way = to;
            return "" + way.length();
        }

        String go(int p, int q) {
            return p < 1 || q < 1 || (long) p + q > 22 ? NONE : walk(wayTo(p, q));
        }

        String jump(int i) {
            return i < 0 || i >= marks.size() ? NONE : walk(new ArrayList<>(marks.values()).get(i));
        }

        String mark() {
            if (marks.containsKey(number())) {
                return "1";
            }
            if (marks.size() == 16) {
                return NONE;
            }
            keep(snapshot());
            marks.put(number(), way);
            return "0";
        }

        String unmark() {
            if (!marks.containsKey(number())) {
                return "1";
            }
            keep(snapshot());
            marks.remove(number());
            return "0";
        }

        String drawn(int n, int seed) {
            if (n < 1 || n > 60) {
                return NONE;
            }
            Object[] before = snapshot();
            long s = seed;
            int done = 0;
            for (int i = 0; i < n; i++) {
                s = (int) (s * 1103515245L + 12345L);
                int draw = (int) ((s & 0xffffffffL) / 256 % 8);
                if (draw < 7) {
                    done += step("ulllrrr".charAt(draw)) ? 1 : 0;
                } else if (!marks.containsKey(number()) && marks.size() < 16) {
                    marks.put(number(), way);
                    done++;
                }
            }
            if (done > 0) {
                keep(before);
            }
            return "" + done;
        }

        String undo() {
            if (acts.isEmpty()) {
                return NONE;
            }
            take(acts.removeLast());
            return "" + acts.size();
        }

        String image(int k) {
            if (k != 0 && k != 1) {
                return "false";
            }
            images[k] = snapshot();
            return "true";
        }

        String restore(int k) {
            if (k != 0 && k != 1 || images[k] == null) {
                return "false";
            }
            take(images[k]);
            acts.clear();
            return "true";
        }

        // ---- the tape

        String feed(int[] n) {
            if (tape.length() + 20 > 240) {
                return NONE;
            }
            StringBuilder b = new StringBuilder(tape);
            for (int v : n) {
                for (byte c : BigInteger.valueOf(v & 0xffffffffL | 1L << 32).toByteArray()) {
                    b.append((char) (c & 255));
                }
                b.deleteCharAt(b.length() - 5);
            }
            tape = b.toString();
            return "" + tape.length();
        }

        String end(int n) {
            if (n < 0 || n > tape.length()) {
                return "false";
            }
            tape = tape.substring(0, n);
            return "true";
        }

        String fault() {
            return "" + fault;
        }

        String path() {
            String text = tape;
            tape = "";
            Reader reader = new Reader(text);
            StringBuilder steps = reader.readAll();
            fault = reader.kind;
            if (fault != 0) {
                return "" + (-1000 - reader.place);
            }
            Object[] before = snapshot();
            int done = 0;
            while (done < steps.length() && step(steps.charAt(done))) {
                done++;
            }
            if (done > 0) {
                keep(before);
            }
            return "" + done;
        }

        // ---- looks

        String now(int what) {
            int[] f = fractions(way);
            int[] all = {f[4], f[5], f[0], f[1], f[2], f[3], way.length(), marks.size(), acts.size(), tape.length()};
            return what < 0 || what > 9 ? NONE : "" + all[what];
        }

        String triple(int what) {
            return what < 0 || what > 2 ? NO_SUCH : numbers(way)[what].toString();
        }

        String letter(int i) {
            String w = words(way)[2];
            return i < 1 || i > w.length() ? NONE : "" + (int) w.charAt(i - 1);
        }

        String cut() {
            return "" + words(way)[0].length();
        }

        String matrix(int i, int j) {
            return i < 0 || i > 1 || j < 0 || j > 1 ? NO_SUCH : product(words(way)[2])[2 * i + j].toString();
        }

        private BigInteger[] formHere() {
            BigInteger m = numbers(way)[2];
            BigInteger k = product(words(way)[2])[3];
            BigInteger[] l = k.multiply(k).add(BigInteger.ONE).divideAndRemainder(m);
            if (l[1].signum() != 0) {
                throw new IllegalStateException("l is no whole number");
            }
            return new BigInteger[] {m, THREE.multiply(m).subtract(k.add(k)), l[0].subtract(THREE.multiply(k))};
        }

        private boolean formless() {
            return number() > 1000000000L;
        }

        String form(int what) {
            return formless() || what < 0 || what > 2 ? NO_SUCH : formHere()[what].toString();
        }

        String value(int x, int y) {
            if (formless() || Math.abs((long) x) > 999 || Math.abs((long) y) > 999) {
                return "-1000000000000000000";
            }
            BigInteger[] f = formHere();
            BigInteger a = BigInteger.valueOf(x);
            BigInteger b = BigInteger.valueOf(y);
            return f[0].multiply(a).add(f[1].multiply(b)).multiply(a).add(f[2].multiply(b).multiply(b)).toString();
        }

        /** How many forms the ROUND has and the least |a| in it, by keeping all forms that were. */
        private String[] roundHere() {
            BigInteger[] f = formHere();
            BigInteger d = f[1].multiply(f[1]).subtract(FOUR.multiply(f[0]).multiply(f[2]));
            BigInteger r = d.sqrt();
            List<BigInteger[]> forms = new ArrayList<>();
            Map<List<BigInteger>, Integer> were = new HashMap<>();
            while (!were.containsKey(List.of(f))) {
                were.put(List.of(f), forms.size());
                forms.add(f);
                f = following(f, d, r);
            }
            int first = were.get(List.of(f));
            BigInteger least = forms.subList(first, forms.size()).stream().map(g -> g[0].abs()).min(BigInteger::compareTo).get();
            return new String[] {"" + (forms.size() - first), least.toString()};
        }

        private static BigInteger[] following(BigInteger[] f, BigInteger d, BigInteger r) {
            BigInteger width = f[2].abs().shiftLeft(1);
            BigInteger b = f[1].negate().mod(width);
            while (b.compareTo(r) > 0) {
                b = b.subtract(width);
            }
            while (b.compareTo(r.subtract(width)) <= 0) {
                b = b.add(width);
            }
            return new BigInteger[] {f[2], b, b.multiply(b).subtract(d).divide(FOUR.multiply(f[2]))};
        }

        String round() {
            return formless() ? NONE : roundHere()[0];
        }

        String least() {
            return formless() ? NONE : roundHere()[1];
        }

        String spread() {
            float m = number();
            return "" + Float.floatToIntBits(9.0f - 4.0f / (m * m));
        }

        String told() {
            StringBuilder b = new StringBuilder();
            for (String run : way.split("(?<=l)(?=r)|(?<=r)(?=l)")) {
                if (!run.isEmpty()) {
                    b.append(run.charAt(0)).append(run.length() > 1 ? "" + run.length() : "");
                }
            }
            toldText = b.toString();
            return "" + toldText.length();
        }

        String byteAt(int i) {
            return i < 0 || i >= toldText.length() ? NONE : "" + (int) toldText.charAt(i);
        }

        String marked(int i, int what) {
            if (i < 0 || i >= marks.size() || what < 0 || what > 2) {
                return NONE;
            }
            Map.Entry<Long, String> mark = new ArrayList<>(marks.entrySet()).get(i);
            return what == 0 ? "" + mark.getKey() : "" + fractions(mark.getValue())[3 + what];
        }

        String near(long n, boolean is) {
            Long key = is ? marks.ceilingKey(n) : marks.floorKey(n);
            return key == null ? NONE : key.toString();
        }

        // ---- all numbers

        String upTo(long n) {
            return n < 1 || n > BOUND ? NONE : "" + NUMBERS.stream().filter(v -> v <= n).count();
        }

        String markov(int rank) {
            return rank < 0 || rank >= NUMBERS.size() ? NONE : NUMBERS.get(rank).toString();
        }

        String rank(long n) {
            return "" + NUMBERS.indexOf(n);
        }

        String triples(long n) {
            return GREATEST.containsKey(n) ? "" + GREATEST.get(n).size() : NONE;
        }

        String with(long n, int what) {
            if (!GREATEST.containsKey(n) || what < 0 || what > 2) {
                return NONE;
            }
            long[] t = GREATEST.get(n).get(0);
            return "" + (what < 2 ? t[what] : stepsDown(t.clone()));
        }

        private static int stepsDown(long[] t) {
            int steps = 0;
            while (true) {
                java.util.Arrays.sort(t);
                if (t[2] == 1) {
                    return steps;
                }
                t[2] = 3 * t[0] * t[1] - t[2];
                steps++;
            }
        }
    }

    /** Reads a PATH by going down into brackets; its STEPS are written out in a row, the first 600 of them. */
    static final class Reader {
        int kind = 0;
        int place = 0;
        private final String text;
        private int at = 0;

        Reader(String text) {
            this.text = text;
        }

        StringBuilder readAll() {
            if (text.length() > 200) {
                return fail(1, 200);
            }
            StringBuilder steps = readSteps(0);
            if (kind == 0 && at < text.length()) {
                return fail(1, at);
            }
            return steps;
        }

        private StringBuilder fail(int newKind, int newPlace) {
            if (kind == 0) {
                kind = newKind;
                place = newPlace;
            }
            return new StringBuilder();
        }

        private char sign() {
            while (at < text.length() && text.charAt(at) == ' ') {
                at++;
            }
            return at < text.length() ? text.charAt(at) : '.';
        }

        private StringBuilder readSteps(int open) {
            StringBuilder steps = new StringBuilder();
            while (kind == 0 && "lruh[".indexOf(sign()) >= 0) {
                char c = text.charAt(at);
                if (c == '[' && open == 3) {
                    return fail(3, at);
                }
                at++;
                String one = "" + c;
                if (c == '[') {
                    one = readSteps(open + 1).toString();
                    if (kind == 0 && sign() != ']') {
                        return fail(1, at);
                    }
                    at++;
                }
                int often = kind != 0 || c == 'h' ? 1 : often();
                for (int i = 0; i < often && steps.length() < 600; i++) {
                    steps.append(one, 0, Math.min(one.length(), 600));
                }
            }
            steps.setLength(Math.min(steps.length(), 500));
            return steps;
        }

        private int often() {
            if (!Character.isDigit(sign())) {
                return 1;
            }
            int from = at;
            while (at < text.length() && Character.isDigit(text.charAt(at))) {
                at++;
            }
            String digits = text.substring(from, at);
            if (!digits.matches("0?[1-9]|[1-9][0-9]")) {
                fail(2, from);
                return 0;
            }
            return Integer.parseInt(digits);
        }
    }
}
