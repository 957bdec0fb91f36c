import java.util.NoSuchElementException;

/** The tree of triples x, y, z with x x + y y + z z = 3 x y z; ../shared/DOC.md tells what each call answers. */
public final class MarkovTree {
    public static final int NONE = -1;
    public static final long HIDDEN = -1000000000000000000L;

    private static final int MOST_TOGETHER = 22;
    private static final int MOST_MARKS = 16;
    private static final int MOST_UNDONE = 8;
    private static final int MOST_DRAWN = 60;
    private static final int MOST_AT_VALUE = 999;
    private static final int IMAGES = 2;
    private static final int FAULT_BASE = -1000;
    private static final long MOST_FOR_FORM = 1000000000L;

    private final Tape tape;
    private final Course course;
    private final State state;
    private final History history;
    private final State[] images;
    private final boolean[] imageKept;
    private final Telling telling;
    private final Word word;
    private final Form quadratic;
    private final Table table;

    public MarkovTree() {
        tape = new Tape();
        course = new Course();
        state = new State();
        history = new History();
        images = new State[IMAGES];
        for (int k = 0; k < IMAGES; k++) {
            images[k] = new State();
        }
        imageKept = new boolean[IMAGES];
        telling = new Telling();
        word = new Word();
        quadratic = new Form();
        table = new Table();
    }

    // ---- the tape and the PATH on it

    public int feed(int a, int b, int c, int d, int e) {
        if (!tape.hasRoom()) {
            return NONE;
        }
        tape.putNumber(a);
        tape.putNumber(b);
        tape.putNumber(c);
        tape.putNumber(d);
        tape.putNumber(e);
        return tape.length();
    }

    public boolean end(int n) {
        return tape.cutTo(n);
    }

    public int path() {
        course.read(tape);
        tape.cutTo(0);
        if (course.faultKind() != 0) {
            return FAULT_BASE - course.faultPlace();
        }
        history.note(state);
        int done = course.run(state.place());
        if (done > 0) {
            history.keep();
        }
        return done;
    }

    public int fault() {
        return course.faultKind();
    }

    // ---- the PLACE

    public int now(int what) {
        Place place = state.place();
        switch (what) {
            case 0: return place.p();
            case 1: return place.q();
            case 2: return place.lowP();
            case 3: return place.lowQ();
            case 4: return place.highP();
            case 5: return place.highQ();
            case 6: return place.steps();
            case 7: return state.marks().size();
            case 8: return history.size();
            case 9: return tape.length();
            default: return NONE;
        }
    }

    public int left() {
        history.note(state);
        return stepped(state.place().stepLeft());
    }

    public int right() {
        history.note(state);
        return stepped(state.place().stepRight());
    }

    public int up() {
        history.note(state);
        return stepped(state.place().stepUp());
    }

    public int go(int p, int q) {
        return isPlace(p, q) ? moveTo(p, q) : NONE;
    }

    private int stepped(boolean done) {
        if (!done) {
            return NONE;
        }
        history.keep();
        return state.place().together();
    }

    private int moveTo(int p, int q) {
        Place place = state.place();
        if (place.isAt(p, q)) {
            return NONE;
        }
        history.note(state);
        place.walkTo(p, q);
        history.keep();
        return place.steps();
    }

    private static boolean isPlace(int p, int q) {
        boolean inReach = p >= 1 && q >= 1 && p < MOST_TOGETHER && q <= MOST_TOGETHER - p;
        return inReach && commonPart(p, q) == 1;
    }

    private static int commonPart(int p, int q) {
        int a = p;
        int b = q;
        for (int i = 0; i < MOST_TOGETHER && b != 0; i++) {
            int rest = a % b;
            a = b;
            b = rest;
        }
        return a;
    }

    // ---- the numbers of the PLACE, its WORD, its MATRIX

    public long triple(int what) throws NoSuchElementException {
        Place place = state.place();
        switch (what) {
            case 0: return numberOf(place.lowP(), place.lowQ());
            case 1: return numberOf(place.highP(), place.highQ());
            case 2: return numberHere();
            default: throw new NoSuchElementException();
        }
    }

    public int letter(int i) {
        Place place = state.place();
        if (i < 1 || i > place.together()) {
            return NONE;
        }
        return Word.letterIsA(place.p(), place.q(), i) ? 'a' : 'b';
    }

    public int cut() {
        int p = state.place().p();
        int n = state.place().together();
        for (int i = 1; i <= n; i++) {
            if (i * p % n == 1) {
                return i;
            }
        }
        return NONE;
    }

    public long matrix(int i, int j) throws NoSuchElementException {
        if (i < 0 || i > 1 || j < 0 || j > 1) {
            throw new NoSuchElementException();
        }
        word.setTo(state.place().p(), state.place().q());
        return word.entry(i, j);
    }

    private long numberOf(int p, int q) {
        word.setTo(p, q);
        return word.entry(0, 1);
    }

    private long numberHere() {
        return numberOf(state.place().p(), state.place().q());
    }

    // ---- the FORM of the PLACE

    public long form(int what) throws NoSuchElementException {
        if (what < 0 || what > 2 || !setForm()) {
            throw new NoSuchElementException();
        }
        return quadratic.coefficient(what);
    }

    public long value(int x, int y) {
        if (!fitsValue(x) || !fitsValue(y) || !setForm()) {
            return HIDDEN;
        }
        return quadratic.valueAt(x, y);
    }

    public int round() {
        if (!setForm()) {
            return NONE;
        }
        quadratic.goRound();
        return quadratic.roundSize();
    }

    public long least() {
        if (!setForm()) {
            return NONE;
        }
        quadratic.goRound();
        return quadratic.roundLeast();
    }

    /** Sets the FORM of the PLACE; false, if its NUMBER is too great for one. */
    private boolean setForm() {
        long m = numberHere();
        if (m > MOST_FOR_FORM) {
            return false;
        }
        quadratic.set(m, word.entry(1, 1));
        return true;
    }

    private static boolean fitsValue(int x) {
        return x >= -MOST_AT_VALUE && x <= MOST_AT_VALUE;
    }

    // ---- all MARKOV numbers up to the bound

    public int upTo(long n) {
        return n < 1 || n > Table.BOUND ? NONE : table.countUpTo(n);
    }

    public long markov(int rank) {
        return table.numberAt(rank);
    }

    public int rank(long n) {
        return table.rankOf(n);
    }

    public int triples(long n) {
        int count = table.countGreatest(n);
        return count == 0 ? NONE : count;
    }

    public long with(long n, int what) {
        int row = table.rowOf(n);
        switch (what) {
            case 0: return table.leastAt(row);
            case 1: return table.middleAt(row);
            case 2: return table.stepsDownAt(row);
            default: return NONE;
        }
    }

    // ---- SPREAD

    public int spread() {
        float m = (float) numberHere();
        return bitsFromEight(9.0f - 4.0f / (m * m));
    }

    /** The bits of a float from 8 to below 16: its exponent is 3 (127 and 3 in the bits), its steps are 1 by 1,048,576. */
    private static int bitsFromEight(float f) {
        return (130 << 23) + (int) ((f - 8.0f) * 1048576.0f);
    }

    // ---- MARKS

    public int mark() {
        if (state.isMarked()) {
            return 1;
        }
        history.note(state);
        if (!markHere()) {
            return NONE;
        }
        history.keep();
        return 0;
    }

    public int unmark() {
        int i = state.marks().indexOf(state.place().p(), state.place().q());
        if (i == NONE) {
            return 1;
        }
        history.note(state);
        state.marks().drop(i);
        history.keep();
        return 0;
    }

    public long marked(int i, int what) {
        Marks marks = state.marks();
        switch (what) {
            case 0: return marks.numberAt(i);
            case 1: return marks.pAt(i);
            case 2: return marks.qAt(i);
            default: return NONE;
        }
    }

    public long near(long n, boolean is) {
        return is ? state.marks().nextFrom(n) : state.marks().lastTo(n);
    }

    public int jump(int i) {
        Marks marks = state.marks();
        return marks.has(i) ? moveTo(marks.pAt(i), marks.qAt(i)) : NONE;
    }

    /** Marks the PLACE; false, if it is MARKED or there is no room for one more. */
    private boolean markHere() {
        if (state.isMarked() || state.marks().isFull()) {
            return false;
        }
        Place place = state.place();
        state.marks().put(numberHere(), place.p(), place.q());
        return true;
    }

    // ---- paths told back, STEPS DRAWN

    public int told() {
        return telling.tell(state.place().p(), state.place().q());
    }

    public int byteAt(int i) {
        return telling.at(i);
    }

    public int drawn(int n, int seed) {
        if (n < 1 || n > MOST_DRAWN) {
            return NONE;
        }
        history.note(state);
        int s = seed;
        int done = 0;
        for (int i = 0; i < n; i++) {
            s = s * 1103515245 + 12345;
            if (doDrawn((s >>> 8) % 8)) {
                done++;
            }
        }
        if (done > 0) {
            history.keep();
        }
        return done;
    }

    private boolean doDrawn(int draw) {
        if (draw == 0) {
            return state.place().stepUp();
        }
        if (draw <= 3) {
            return state.place().stepLeft();
        }
        return draw <= 6 ? state.place().stepRight() : markHere();
    }

    // ---- acts undone, images

    public int undo() {
        return history.takeBack(state) ? history.size() : NONE;
    }

    public boolean image(int k) {
        State kept = imageAt(k);
        if (kept == null) {
            return false;
        }
        kept.copyFrom(state);
        imageKept[k] = true;
        return true;
    }

    public boolean restore(int k) {
        State kept = imageAt(k);
        if (kept == null || !imageKept[k]) {
            return false;
        }
        state.copyFrom(kept);
        history.forget();
        return true;
    }

    private State imageAt(int k) {
        return k < 0 || k >= IMAGES ? null : images[k];
    }

    /** A PLACE, held by the two beside it alone: its own fraction is theirs added up. */
    private static final class Place {
        private int lowP;
        private int lowQ;
        private int highP;
        private int highQ;
        private int steps;

        Place() {
            goHome();
        }

        void goHome() {
            lowP = 0;
            lowQ = 1;
            highP = 1;
            highQ = 0;
            steps = 0;
        }

        void copyFrom(Place other) {
            lowP = other.lowP;
            lowQ = other.lowQ;
            highP = other.highP;
            highQ = other.highQ;
            steps = other.steps;
        }

        int lowP() {
            return lowP;
        }

        int lowQ() {
            return lowQ;
        }

        int highP() {
            return highP;
        }

        int highQ() {
            return highQ;
        }

        int steps() {
            return steps;
        }

        int p() {
            return lowP + highP;
        }

        int q() {
            return lowQ + highQ;
        }

        int together() {
            return p() + q();
        }

        boolean isAt(int p, int q) {
            return p == p() && q == q();
        }

        boolean stepLeft() {
            if (together() + lowP + lowQ > MOST_TOGETHER) {
                return false;
            }
            highP += lowP;
            highQ += lowQ;
            steps++;
            return true;
        }

        boolean stepRight() {
            if (together() + highP + highQ > MOST_TOGETHER) {
                return false;
            }
            lowP += highP;
            lowQ += highQ;
            steps++;
            return true;
        }

        boolean stepUp() {
            if (steps == 0) {
                return false;
            }
            // the greater one of the two beside it is the PLACE that the latest step left
            if (lowP + lowQ > highP + highQ) {
                lowP -= highP;
                lowQ -= highQ;
            } else {
                highP -= lowP;
                highQ -= lowQ;
            }
            steps--;
            return true;
        }

        /** Below 0: p by q lies to the LEFT; above 0: to the RIGHT; 0: it is here. */
        int sideOf(int p, int q) {
            return Integer.compare(p * q(), q * p());
        }

        boolean stepToSide(int side) {
            return side < 0 ? stepLeft() : stepRight();
        }

        /** From 1 by 1 to p by q, which is a PLACE. */
        void walkTo(int p, int q) {
            goHome();
            for (int i = 0; i < MOST_TOGETHER && !isAt(p, q); i++) {
                stepToSide(sideOf(p, q));
            }
        }
    }

    /** The MARKED PLACES, the least NUMBER first. */
    private static final class Marks {
        private final long[] number;
        private final int[] p;
        private final int[] q;
        private int size;

        Marks() {
            number = new long[MOST_MARKS];
            p = new int[MOST_MARKS];
            q = new int[MOST_MARKS];
            size = 0;
        }

        void copyFrom(Marks other) {
            size = other.size;
            for (int i = 0; i < size; i++) {
                copyRow(other, i, i);
            }
        }

        private void copyRow(Marks other, int from, int to) {
            number[to] = other.number[from];
            p[to] = other.p[from];
            q[to] = other.q[from];
        }

        int size() {
            return size;
        }

        boolean isFull() {
            return size >= MOST_MARKS;
        }

        boolean has(int i) {
            return i >= 0 && i < size;
        }

        long numberAt(int i) {
            return has(i) ? number[i] : NONE;
        }

        int pAt(int i) {
            return has(i) ? p[i] : NONE;
        }

        int qAt(int i) {
            return has(i) ? q[i] : NONE;
        }

        int indexOf(int wantedP, int wantedQ) {
            for (int i = 0; i < size; i++) {
                if (p[i] == wantedP && q[i] == wantedQ) {
                    return i;
                }
            }
            return NONE;
        }

        void put(long newNumber, int newP, int newQ) {
            if (isFull()) {
                return;
            }
            int i = size;
            while (i > 0 && number[i - 1] > newNumber) {
                copyRow(this, i - 1, i);
                i--;
            }
            number[i] = newNumber;
            p[i] = newP;
            q[i] = newQ;
            size++;
        }

        void drop(int i) {
            if (!has(i)) {
                return;
            }
            for (int j = i + 1; j < size; j++) {
                copyRow(this, j, j - 1);
            }
            size--;
        }

        /** The greatest NUMBER that is n or less. */
        long lastTo(long n) {
            long found = NONE;
            for (int i = 0; i < size && number[i] <= n; i++) {
                found = number[i];
            }
            return found;
        }

        /** The least NUMBER that is n or more. */
        long nextFrom(long n) {
            for (int i = 0; i < size; i++) {
                if (number[i] >= n) {
                    return number[i];
                }
            }
            return NONE;
        }
    }

    /** What acts change, and what is kept for undo() and restore(). */
    private static final class State {
        private final Place place;
        private final Marks marks;

        State() {
            place = new Place();
            marks = new Marks();
        }

        Place place() {
            return place;
        }

        Marks marks() {
            return marks;
        }

        boolean isMarked() {
            return marks.indexOf(place.p(), place.q()) != NONE;
        }

        void copyFrom(State other) {
            place.copyFrom(other.place);
            marks.copyFrom(other.marks);
        }
    }

    /** The states ahead of the latest acts, in a ring with one row more than are kept: a note that is not kept spoils none. */
    private static final class History {
        private static final int ROWS = MOST_UNDONE + 1;

        private final State[] rows;
        private int next;
        private int size;

        History() {
            rows = new State[ROWS];
            for (int i = 0; i < ROWS; i++) {
                rows[i] = new State();
            }
            next = 0;
            size = 0;
        }

        int size() {
            return size;
        }

        /** Writes down the state ahead of an act that may yet come to nothing. */
        void note(State state) {
            rows[next].copyFrom(state);
        }

        /** What was noted last counts: the act was done. */
        void keep() {
            next = (next + 1) % ROWS;
            size = Math.min(size + 1, MOST_UNDONE);
        }

        boolean takeBack(State state) {
            if (size == 0) {
                return false;
            }
            next = (next + ROWS - 1) % ROWS;
            size--;
            state.copyFrom(rows[next]);
            return true;
        }

        void forget() {
            size = 0;
        }
    }

    /** The bytes that a PATH is read from. */
    private static final class Tape {
        private static final int ROOM = 240;
        private static final int BYTES_A_FEED = 20;

        private final byte[] bytes;
        private int length;

        Tape() {
            bytes = new byte[ROOM];
            length = 0;
        }

        int length() {
            return length;
        }

        boolean hasRoom() {
            return length + BYTES_A_FEED <= ROOM;
        }

        void putNumber(int number) {
            for (int shift = 24; shift >= 0 && length < ROOM; shift -= 8) {
                bytes[length] = (byte) (number >>> shift);
                length++;
            }
        }

        boolean cutTo(int n) {
            if (n < 0 || n > length) {
                return false;
            }
            length = n;
            return true;
        }

        /** The byte at i, or NONE behind the last one. */
        int at(int i) {
            return i >= 0 && i < length ? bytes[i] & 255 : NONE;
        }
    }

    /**
     * A PATH as it was read: a list of acts, each a letter with how often it is done, or the end of a bracket with
     * how often it is gone through and the act that its inside begins with. A bracket with nothing in it makes no act,
     * so that every end of a bracket has a STEP ahead of it and all running ends with the 500th STEP.
     */
    private static final class Course {
        private static final int MOST_BYTES = 200;
        private static final int MOST_OPEN = 3;
        private static final int MOST_STEPS = 500;
        private static final int MOST_TIMES = 99;
        private static final int MOST_TURNS = 1000000;
        private static final int CANNOT_STAND = 1;
        private static final int BAD_NUMBER = 2;
        private static final int TOO_DEEP = 3;
        private static final int NO_ACT = -1;

        private final int[] act;
        private final int[] times;
        private final int[] begin;
        private final int[] gone;
        private final int[] open;
        private int size;
        private int openCount;
        private boolean numberMayCome;
        private int numberIsFor;
        private int faultKind;
        private int faultPlace;

        Course() {
            act = new int[MOST_BYTES];
            times = new int[MOST_BYTES];
            begin = new int[MOST_BYTES];
            gone = new int[MOST_BYTES];
            open = new int[MOST_OPEN];
        }

        int faultKind() {
            return faultKind;
        }

        int faultPlace() {
            return faultPlace;
        }

        void read(Tape tape) {
            size = 0;
            openCount = 0;
            numberMayCome = false;
            numberIsFor = NO_ACT;
            faultKind = 0;
            faultPlace = 0;
            int length = tape.length();
            if (length > MOST_BYTES) {
                fail(CANNOT_STAND, MOST_BYTES);
                return;
            }
            int i = 0;
            for (int turn = 0; turn < MOST_BYTES && i < length && faultKind == 0; turn++) {
                i += isDigit(tape.at(i)) ? readNumber(tape, i) : readSign(tape.at(i), i);
            }
            if (faultKind == 0 && openCount > 0) {
                fail(CANNOT_STAND, length);
            }
        }

        private void fail(int kind, int place) {
            faultKind = kind;
            faultPlace = place;
        }

        private static boolean isDigit(int sign) {
            return sign >= '0' && sign <= '9';
        }

        /** Reads the digits from i on: how many they are. */
        private int readNumber(Tape tape, int i) {
            int number = 0;
            int digits = 0;
            while (digits < MOST_BYTES && isDigit(tape.at(i + digits))) {
                // beyond the most it is a FAULT, whatever follows
                number = Math.min(number * 10 + tape.at(i + digits) - '0', MOST_TIMES + 1);
                digits++;
            }
            if (!numberMayCome) {
                fail(CANNOT_STAND, i);
            } else if (digits > 2 || number < 1 || number > MOST_TIMES) {
                fail(BAD_NUMBER, i);
            } else if (numberIsFor >= 0 && numberIsFor < size) {
                times[numberIsFor] = number;
            }
            numberMayCome = false;
            return digits;
        }

        /** Reads the one sign at i, no digit: always one byte. */
        private int readSign(int sign, int i) {
            switch (sign) {
                case ' ':
                    break;
                case 'l':
                case 'r':
                case 'u':
                    putAct(sign, 0);
                    numberMayCome = true;
                    break;
                case 'h':
                    putAct(sign, 0);
                    numberMayCome = false;
                    break;
                case '[':
                    openBracket(i);
                    break;
                case ']':
                    closeBracket(i);
                    break;
                default:
                    fail(CANNOT_STAND, i);
            }
            return 1;
        }

        private void openBracket(int i) {
            if (openCount >= MOST_OPEN) {
                fail(TOO_DEEP, i);
                return;
            }
            open[openCount] = size;
            openCount++;
            numberMayCome = false;
        }

        private void closeBracket(int i) {
            if (openCount < 1) {
                fail(CANNOT_STAND, i);
                return;
            }
            openCount--;
            int inside = open[openCount];
            numberIsFor = NO_ACT;
            if (inside < size) {
                putAct(']', inside);
            }
            numberMayCome = true;
        }

        private void putAct(int sign, int inside) {
            if (size >= MOST_BYTES) {
                return;
            }
            act[size] = sign;
            times[size] = 1;
            begin[size] = inside;
            gone[size] = 0;
            numberIsFor = size;
            size++;
        }

        /** Does the STEPS from a place on: how many were done. */
        int run(Place place) {
            int done = 0;
            int i = 0;
            for (int turn = 0; turn < MOST_TURNS && i >= 0 && i < size; turn++) {
                if (act[i] == ']') {
                    i = afterBracket(i);
                    continue;
                }
                int most = Math.min(times[i], MOST_STEPS - done);
                int did = doOften(place, act[i], most);
                done += did;
                if (did < times[i]) {
                    return done;
                }
                i++;
            }
            return done;
        }

        /** The act that follows the end of a bracket: its first one again, or the one behind it. */
        private int afterBracket(int i) {
            gone[i]++;
            if (gone[i] < times[i]) {
                return begin[i];
            }
            // it may be gone through anew within a bracket round it
            gone[i] = 0;
            return i + 1;
        }

        private static int doOften(Place place, int sign, int most) {
            int did = 0;
            while (did < most && doOnce(place, sign)) {
                did++;
            }
            return did;
        }

        private static boolean doOnce(Place place, int sign) {
            switch (sign) {
                case 'l': return place.stepLeft();
                case 'r': return place.stepRight();
                case 'u': return place.stepUp();
                default:
                    place.goHome();
                    return true;
            }
        }
    }

    /** The PATH that was told back last. */
    private static final class Telling {
        private static final int ROOM = 2 * MOST_TOGETHER;

        private final byte[] bytes;
        private final Place walker;
        private int length;

        Telling() {
            bytes = new byte[ROOM];
            walker = new Place();
            length = 0;
        }

        int at(int i) {
            return i >= 0 && i < length ? bytes[i] : NONE;
        }

        /** Tells the PATH to p by q: how many bytes it has. */
        int tell(int p, int q) {
            length = 0;
            walker.goHome();
            for (int i = 0; i < MOST_TOGETHER && !walker.isAt(p, q); i++) {
                int side = walker.sideOf(p, q);
                int often = goOn(side, p, q);
                put(side < 0 ? 'l' : 'r');
                if (often > 1) {
                    putNumber(often);
                }
            }
            return length;
        }

        /** Steps to one side as long as p by q lies there: how often. */
        private int goOn(int side, int p, int q) {
            int often = 0;
            while (often < MOST_TOGETHER && walker.sideOf(p, q) == side && walker.stepToSide(side)) {
                often++;
            }
            return often;
        }

        private void putNumber(int number) {
            if (number > 9) {
                put('0' + number / 10);
            }
            put('0' + number % 10);
        }

        private void put(int sign) {
            if (length < ROOM) {
                bytes[length] = (byte) sign;
                length++;
            }
        }
    }

    /** The WORD of a fraction, as its MATRIX. */
    private static final class Word {
        private long a;
        private long b;
        private long c;
        private long d;

        Word() {
            setTo(0, 1);
        }

        static boolean letterIsA(int p, int q, int i) {
            int n = p + q;
            // 0 by 1 has the WORD a, which the rule of the remainders does not give
            if (p == 0 || n < 1) {
                return true;
            }
            return i * p % n > (i - 1) * p % n;
        }

        void setTo(int p, int q) {
            a = 1;
            b = 0;
            c = 0;
            d = 1;
            for (int i = 1; i <= p + q; i++) {
                if (letterIsA(p, q, i)) {
                    multiply(2, 1, 1);
                } else {
                    multiply(5, 2, 1);
                }
            }
        }

        /** By a letter's matrix: first, beside in its first row, beside, last in its second one. */
        private void multiply(long first, long beside, long last) {
            long oldA = a;
            long oldC = c;
            a = oldA * first + b * beside;
            b = oldA * beside + b * last;
            c = oldC * first + d * beside;
            d = oldC * beside + d * last;
        }

        long entry(int i, int j) {
            if (i == 0) {
                return j == 0 ? a : b;
            }
            return j == 0 ? c : d;
        }
    }

    /** A form a x x + b x y + c y y, first the FORM of a PLACE, then any one of its ROUND. */
    private static final class Form {
        private static final int MOST_TURNS = 1000000;

        private long a;
        private long b;
        private long c;
        private long discriminant;
        private long root;
        private int roundSize;
        private long roundLeast;

        Form() {
            // that of 1 by 1
            set(5, 3);
        }

        /** From the NUMBER m (5 to 1,000,000,000: the discriminant is a long then) and k of its MATRIX. */
        void set(long m, long k) {
            if (m < 1) {
                return;
            }
            long l = (k * k + 1) / m;
            a = m;
            b = 3 * m - 2 * k;
            c = l - 3 * k;
            discriminant = 9 * m * m - 4;
            // the square of 3 m - 1 is not above 9 m m - 4, that of 3 m is
            root = 3 * m - 1;
        }

        long coefficient(int what) {
            if (what == 0) {
                return a;
            }
            return what == 1 ? b : c;
        }

        long valueAt(long x, long y) {
            return a * x * x + b * x * y + c * y * y;
        }

        int roundSize() {
            return roundSize;
        }

        long roundLeast() {
            return roundLeast;
        }

        /** Goes round till the FORM comes again. It is reduced itself (b is above m and below 3 m), so it is the first that does. */
        void goRound() {
            long firstA = a;
            long firstB = b;
            roundSize = 0;
            roundLeast = Math.abs(a);
            for (int turn = 0; turn < MOST_TURNS; turn++) {
                roundLeast = Math.min(roundLeast, Math.abs(a));
                goToNext();
                roundSize++;
                if (a == firstA && b == firstB) {
                    return;
                }
            }
        }

        private void goToNext() {
            long width = 2 * Math.abs(c);
            if (width == 0) {
                return;
            }
            long nextB = root - Math.floorMod(root + b, width);
            long nextC = (nextB * nextB - discriminant) / (4 * c);
            a = c;
            b = nextB;
            c = nextC;
        }
    }

    /** All TRIPLES whose greatest number is 5 up to the bound, in its order, and all MARKOV numbers up to it. */
    private static final class Table {
        static final long BOUND = 1000000000000L;
        private static final int ROOM = 160;

        private final long[] least;
        private final long[] middle;
        private final long[] greatest;
        private final int[] stepsDown;
        private final long[] numbers;
        private int rows;
        private int size;

        Table() {
            least = new long[ROOM];
            middle = new long[ROOM];
            greatest = new long[ROOM];
            stepsDown = new int[ROOM];
            numbers = new long[ROOM];
            rows = 0;
            size = 0;
        }

        int countUpTo(long n) {
            fill();
            int count = 0;
            while (count < size && numbers[count] <= n) {
                count++;
            }
            return count;
        }

        long numberAt(int rank) {
            fill();
            return rank >= 0 && rank < size ? numbers[rank] : NONE;
        }

        int rankOf(long n) {
            int last = countUpTo(n) - 1;
            return numberAt(last) == n && last >= 0 ? last : NONE;
        }

        /** The first row with n as its greatest number, so the one with the least least number. */
        int rowOf(long n) {
            fill();
            for (int i = 0; i < rows; i++) {
                if (greatest[i] == n) {
                    return i;
                }
            }
            return NONE;
        }

        int countGreatest(long n) {
            fill();
            int count = 0;
            for (int i = 0; i < rows; i++) {
                if (greatest[i] == n) {
                    count++;
                }
            }
            return count;
        }

        private boolean has(int row) {
            return row >= 0 && row < rows;
        }

        long leastAt(int row) {
            return has(row) ? least[row] : NONE;
        }

        long middleAt(int row) {
            return has(row) ? middle[row] : NONE;
        }

        int stepsDownAt(int row) {
            return has(row) ? stepsDown[row] : NONE;
        }

        /** Fills the rows once, when they are first asked for. */
        private void fill() {
            if (rows > 0) {
                return;
            }
            putRow(1, 2, 5, 2);
            // what comes from a row is greater than it, so it is put behind it and has its turn later
            for (int i = 0; i < rows && i < ROOM; i++) {
                long x = least[i];
                long y = middle[i];
                long z = greatest[i];
                int steps = stepsDown[i] + 1;
                putNext(x, z, y, steps);
                putNext(y, z, x, steps);
            }
            fillNumbers();
        }

        /** The TRIPLE with x, y (x less than y) that is beside the one with x, y and another, if it is within the bound. */
        private void putNext(long x, long y, long another, int steps) {
            // 3 x y - another may be above a long; that it is above the bound is seen without it
            if (y < 1 || x > (BOUND + another) / (3 * y)) {
                return;
            }
            putRow(x, y, 3 * x * y - another, steps);
        }

        private void putRow(long x, long y, long z, int steps) {
            if (rows >= ROOM) {
                return;
            }
            int i = rows;
            while (i > 0 && (greatest[i - 1] > z || greatest[i - 1] == z && least[i - 1] > x)) {
                least[i] = least[i - 1];
                middle[i] = middle[i - 1];
                greatest[i] = greatest[i - 1];
                stepsDown[i] = stepsDown[i - 1];
                i--;
            }
            least[i] = x;
            middle[i] = y;
            greatest[i] = z;
            stepsDown[i] = steps;
            rows++;
        }

        private void fillNumbers() {
            numbers[0] = 1;
            numbers[1] = 2;
            size = 2;
            for (int i = 0; i < rows; i++) {
                if (size < ROOM && greatest[i] != numbers[size - 1]) {
                    numbers[size] = greatest[i];
                    size++;
                }
            }
        }
    }
}
