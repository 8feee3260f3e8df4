import java.util.Arrays;

/**
 * Sums of words over a few letters, up to a degree, with numbers modulo a prime: products, brackets, shuffles,
 * logs and exps, the words that are least of all their ends, schemes, laws, and texts that tell sums.
 */
public final class BracketLetters {
    public static final int NONE = -1, BAD = -2, STATE = -3, FULL = -4;
    public static final int NO = Integer.MIN_VALUE;

    private static final int PRIME = 2147483647;
    private static final int HALF = 1073741823;
    private static final int SUMS = 8;
    private static final int STEPS = 12;
    private static final int LAWS = 4;
    private static final int TAPE = 100;
    /** How many [ and ( a text may hold open at once. */
    private static final int OPEN = 5;
    /** A text that stands in another one needs its own sum, its term, and the left part of a bracket. */
    private static final int ROWS = 3;
    private static final int PUT_UP = 9999;
    private static final int STEP_UP = 99;
    private static final int FRACTION_UP = 1000000;
    private static final int FRACTION_DOWN = 1000;
    private static final int LACKING = -9;
    private static final int FAULT = -10;

    private final Words words;
    private final int[][] sums;
    private final Algebra algebra;
    private final Chiefs chiefs;
    private final Scheme steps;
    private final Laws laws;
    private final Reader reader;

    public BracketLetters(int letters, int degree) {
        int many = 2 + Math.floorMod(letters, 3);
        // 5 degrees with 2 letters, 4 with 3, 3 with 4
        int high = 2 + Math.floorMod(degree, 7 - many);
        words = new Words(many, high);
        sums = new int[SUMS][words.all()];
        algebra = new Algebra(words);
        chiefs = new Chiefs(words, algebra);
        steps = new Scheme(words, algebra);
        laws = new Laws(words, chiefs);
        reader = new Reader(words, algebra, sums);
    }

    // ---- sums

    public int clear(int r) {
        if (noSum(r)) {
            return NONE;
        }
        Arrays.fill(sums[r], 0);
        return 0;
    }

    public int put(int r, int word, int up, int down) {
        int place = words.placeOf(word);
        if (noSum(r) || place < 0) {
            return NONE;
        }
        if (noFraction(up, down, PUT_UP)) {
            return BAD;
        }
        sums[r][place] = Numbers.ratio(up, down);
        return 0;
    }

    public int at(int r, int word) {
        int place = words.placeOf(word);
        if (noSum(r) || place < 0) {
            return NONE;
        }
        return sums[r][place];
    }

    public int fraction(int number, int what) {
        if (number < 0 || number >= PRIME || what < 0 || what > 1) {
            return NO;
        }
        for (int q = 1; q <= FRACTION_DOWN; q++) {
            int p = Numbers.nearNought(Numbers.product(number, q));
            if (p >= -FRACTION_UP && p <= FRACTION_UP) {
                return what == 0 ? p : q;
            }
        }
        return NO;
    }

    public int add(int r, int s, int up, int down) {
        if (noSum(r) || noSum(s)) {
            return NONE;
        }
        if (noFraction(up, down, PUT_UP)) {
            return BAD;
        }
        algebra.amass(sums[r], sums[s], Numbers.ratio(up, down));
        return 0;
    }

    public int times(int to, int a, int b) {
        if (noSum(to) || noSum(a) || noSum(b)) {
            return NONE;
        }
        algebra.multiply(sums[to], sums[a], sums[b]);
        return 0;
    }

    public int bracket(int to, int a, int b) {
        if (noSum(to) || noSum(a) || noSum(b)) {
            return NONE;
        }
        algebra.commute(sums[to], sums[a], sums[b]);
        return 0;
    }

    public int shuffle(int to, int a, int b) {
        if (noSum(to) || noSum(a) || noSum(b)) {
            return NONE;
        }
        algebra.mingle(sums[to], sums[a], sums[b]);
        return 0;
    }

    public int turn(int to, int a) {
        if (noSum(to) || noSum(a)) {
            return NONE;
        }
        algebra.turnAbout(sums[to], sums[a]);
        return 0;
    }

    public int exp(int to, int a) {
        if (noSum(to) || noSum(a)) {
            return NONE;
        }
        if (sums[a][0] != 0) {
            return STATE;
        }
        algebra.raise(sums[to], sums[a]);
        return 0;
    }

    public int log(int to, int a) {
        if (noSum(to) || noSum(a)) {
            return NONE;
        }
        if (sums[a][0] != 1) {
            return STATE;
        }
        algebra.unraise(sums[to], sums[a]);
        return 0;
    }

    public int inverse(int to, int a) {
        if (noSum(to) || noSum(a)) {
            return NONE;
        }
        if (sums[a][0] != 1) {
            return STATE;
        }
        algebra.invert(sums[to], sums[a]);
        return 0;
    }

    public int group(int to, int a, int b) {
        if (noSum(to) || noSum(a) || noSum(b)) {
            return NONE;
        }
        if (sums[a][0] != 0 || sums[b][0] != 0) {
            return STATE;
        }
        algebra.compose(sums[to], sums[a], sums[b]);
        return 0;
    }

    public int derive(int to, int a, int letter, int by) {
        if (noSum(to) || noSum(a) || noSum(by) || noLetter(letter)) {
            return NONE;
        }
        algebra.setInEach(sums[to], sums[a], letter, sums[by]);
        return 0;
    }

    public int replace(int to, int a, int letter, int by) {
        if (noSum(to) || noSum(a) || noSum(by) || noLetter(letter)) {
            return NONE;
        }
        if (sums[by][0] != 0) {
            return STATE;
        }
        algebra.setInAll(sums[to], sums[a], letter, sums[by]);
        return 0;
    }

    public int part(int to, int a, int n) {
        if (noSum(to) || noSum(a) || n < 0 || n > words.degree) {
            return NONE;
        }
        algebra.keepLength(sums[to], sums[a], n);
        return 0;
    }

    public int pair(int a, int b) {
        if (noSum(a) || noSum(b)) {
            return NONE;
        }
        return algebra.inner(sums[a], sums[b]);
    }

    // ---- chiefs

    public int lyndon(int i) {
        if (noChief(i)) {
            return NONE;
        }
        return words.toldOf(chiefs.word[i]);
    }

    public int lyndons(int n) {
        if (n < 1 || n > words.degree) {
            return NONE;
        }
        return chiefs.ofLength(n);
    }

    public int side(int i, int which) {
        if (noChief(i) || which < 0 || which > 1) {
            return NONE;
        }
        return which == 0 ? chiefs.left[i] : chiefs.right[i];
    }

    public int basis(int to, int i) {
        if (noSum(to) || noChief(i)) {
            return NONE;
        }
        chiefs.weave(i, 0);
        algebra.copy(sums[to], algebra.stack[0]);
        return 0;
    }

    public int text(int i, int k) {
        if (noChief(i)) {
            return NONE;
        }
        return chiefs.written(i, k);
    }

    public int share(int a, int word) {
        int place = words.placeOf(word);
        if (noSum(a) || place < 0) {
            return NONE;
        }
        chiefs.measure(place, 0);
        return algebra.inner(sums[a], algebra.stack[0]);
    }

    public int lie(int a) {
        if (noSum(a)) {
            return NONE;
        }
        return algebra.isLie(sums[a]) ? 1 : 0;
    }

    public int table(int i, int j, int k) {
        if (noChief(i) || noChief(j) || noChief(k)) {
            return NO;
        }
        return Numbers.nearNought(chiefs.shareInBracket(i, j, k));
    }

    // ---- schemes

    public int step(int letter, int up, int down) {
        if (noLetter(letter)) {
            return NONE;
        }
        if (noFraction(up, down, STEP_UP)) {
            return BAD;
        }
        if (steps.many >= STEPS) {
            return FULL;
        }
        return steps.append(letter, Numbers.ratio(up, down));
    }

    public int unstep() {
        return steps.forget();
    }

    public int scheme(int to) {
        if (noSum(to)) {
            return NONE;
        }
        steps.make(sums[to]);
        return 0;
    }

    public int order() {
        return steps.goodLength();
    }

    // ---- laws

    public int relate(int a) {
        if (noSum(a)) {
            return NONE;
        }
        int length = algebra.onlyLength(sums[a]);
        if (length < 1 || !algebra.isLie(sums[a])) {
            return STATE;
        }
        if (laws.many >= LAWS) {
            return FULL;
        }
        return laws.enact(sums[a], length);
    }

    public int size(int n) {
        if (n < 1 || n > words.degree) {
            return NONE;
        }
        return chiefs.ofLength(n) - laws.rank[n];
    }

    // ---- texts

    public int feed(long w, int n) {
        if (n < 1 || n > 8) {
            return BAD;
        }
        if (reader.length + n > TAPE) {
            return FULL;
        }
        return reader.append(w, n);
    }

    public int read(int to) {
        if (noSum(to)) {
            return NONE;
        }
        return reader.tell(sums[to]);
    }

    public int count(int what) {
        switch (what) {
            case 0:
                return words.letters;
            case 1:
                return words.degree;
            case 2:
                return words.all();
            case 3:
                return chiefs.all();
            case 4:
                return steps.many;
            case 5:
                return laws.many;
            case 6:
                return reader.length;
            default:
                return NONE;
        }
    }

    private static boolean noSum(int r) {
        return r < 0 || r >= SUMS;
    }

    private boolean noLetter(int letter) {
        return letter < 0 || letter >= words.letters;
    }

    private boolean noChief(int i) {
        return i < 0 || i >= chiefs.all();
    }

    private static boolean noFraction(int up, int down, int most) {
        return up < -most || up > most || down < 1 || down > most;
    }

    /** Numbers modulo PRIME, each 0 .. PRIME - 1. */
    private static final class Numbers {
        static int plus(int a, int b) {
            // a + b may be beyond an int, this never is
            int less = a - (PRIME - b);
            return less < 0 ? less + PRIME : less;
        }

        static int minus(int a, int b) {
            int less = a - b;
            return less < 0 ? less + PRIME : less;
        }

        static int product(int a, int b) {
            return (int) ((long) a * b % PRIME);
        }

        static int productMore(int so, int a, int b) {
            return (int) ((so + (long) a * b) % PRIME);
        }

        /** The power PRIME - 2 is the reciprocal, as PRIME is a prime. */
        static int reciprocal(int a) {
            int exponent = PRIME - 2;
            int square = a;
            int so = 1;
            for (int bit = 0; bit < 31; bit++) {
                if (((exponent >> bit) & 1) == 1) {
                    so = product(so, square);
                }
                square = product(square, square);
            }
            return so;
        }

        static int ratio(int up, int down) {
            return product(Math.floorMod(up, PRIME), reciprocal(down));
        }

        static int nearNought(int number) {
            return number > HALF ? number - PRIME : number;
        }
    }

    /**
     * Words by their places: the shorter ahead, of a length as they are compared. So a word's place is the start of
     * its length and its value (its letters as digits), and places of joined words are reckoned without a table.
     */
    private static final class Words {
        final int letters;
        final int degree;
        /** How many words have a length. */
        final int[] power;
        /** The place of the first word of a length; one more entry holds how many words there are. */
        final int[] start;

        Words(int letters, int degree) {
            this.letters = letters;
            this.degree = degree;
            power = new int[degree + 1];
            start = new int[degree + 2];
            int many = 1;
            for (int n = 0; n <= degree; n++) {
                power[n] = many;
                start[n + 1] = start[n] + many;
                many *= letters;
            }
        }

        int all() {
            return start[degree + 1];
        }

        /** The place of a word as calls tell it, NONE if there is no such word. */
        int placeOf(int told) {
            if (told < 0) {
                return NONE;
            }
            int rest = told;
            int value = 0;
            int length = 0;
            for (int n = 0; n < degree && rest > 0; n++) {
                int letter = (rest & 7) - 1;
                if (letter < 0 || letter >= letters) {
                    return NONE;
                }
                value += letter * power[n];
                length = n + 1;
                rest >>= 3;
            }
            return rest > 0 ? NONE : start[length] + value;
        }

        int toldOf(int place) {
            int length = lengthOf(place);
            int value = place - start[length];
            int told = 0;
            for (int n = 0; n < length; n++) {
                told |= (value % letters + 1) << (3 * n);
                value /= letters;
            }
            return told;
        }

        int lengthOf(int place) {
            int length = 0;
            for (int n = 1; n <= degree; n++) {
                if (place >= start[n]) {
                    length = n;
                }
            }
            return length;
        }

        int backward(int value, int length) {
            int rest = value;
            int so = 0;
            for (int n = 0; n < length; n++) {
                so = so * letters + rest % letters;
                rest /= letters;
            }
            return so;
        }
    }

    /**
     * What is done with sums, each a row with a number for each place. Results come together in rows of its own and
     * are copied at the end, so that they may go to any row that was asked, too.
     */
    private static final class Algebra {
        /** Rows for calls that go down in levels: replacing, brackets of chiefs, texts within texts. */
        final int[][] stack;
        private final Words words;
        private final int degree;
        private final int letters;
        private final int[] power;
        private final int[] start;
        /** The reciprocals of 1 .. DEGREE. */
        private final int[] parts;
        private final int[] fresh;
        private final int[] base;
        private final int[] one;
        private final int[] two;

        Algebra(Words words) {
            this.words = words;
            degree = words.degree;
            letters = words.letters;
            power = words.power;
            start = words.start;
            parts = new int[degree + 1];
            for (int k = 1; k <= degree; k++) {
                parts[k] = Numbers.reciprocal(k);
            }
            int all = words.all();
            stack = new int[ROWS * (OPEN + 1)][all];
            fresh = new int[all];
            base = new int[all];
            one = new int[all];
            two = new int[all];
        }

        void copy(int[] to, int[] a) {
            System.arraycopy(a, 0, to, 0, a.length);
        }

        void setToUnit(int[] to, int number) {
            Arrays.fill(to, 0);
            to[0] = number;
        }

        void amass(int[] to, int[] a, int factor) {
            for (int place = 0; place < to.length; place++) {
                if (a[place] != 0) {
                    to[place] = Numbers.productMore(to[place], a[place], factor);
                }
            }
        }

        void scale(int[] to, int factor) {
            for (int place = 0; place < to.length; place++) {
                to[place] = Numbers.product(to[place], factor);
            }
        }

        int inner(int[] a, int[] b) {
            int so = 0;
            for (int place = 0; place < a.length; place++) {
                if (b[place] != 0) {
                    so = Numbers.productMore(so, a[place], b[place]);
                }
            }
            return so;
        }

        void keepLength(int[] to, int[] a, int n) {
            for (int place = 0; place < to.length; place++) {
                boolean kept = place >= start[n] && place < start[n + 1];
                to[place] = kept ? a[place] : 0;
            }
        }

        /** The length of all words at which a sum is not 0, NONE if it is 0 or they have several. */
        int onlyLength(int[] a) {
            int only = NONE;
            for (int n = 0; n <= degree; n++) {
                if (!isNought(a, n)) {
                    if (only != NONE) {
                        return NONE;
                    }
                    only = n;
                }
            }
            return only;
        }

        boolean isNought(int[] a, int n) {
            for (int place = start[n]; place < start[n + 1]; place++) {
                if (a[place] != 0) {
                    return false;
                }
            }
            return true;
        }

        void multiply(int[] to, int[] x, int[] y) {
            Arrays.fill(fresh, 0);
            gather(fresh, x, y, 1, degree);
            copy(to, fresh);
        }

        void commute(int[] to, int[] x, int[] y) {
            Arrays.fill(fresh, 0);
            gather(fresh, x, y, 1, degree);
            gather(fresh, y, x, PRIME - 1, degree);
            copy(to, fresh);
        }

        void multiplyByLetter(int[] to, int letter) {
            Arrays.fill(fresh, 0);
            for (int n = 0; n < degree; n++) {
                int target = start[n + 1] + letter;
                for (int place = start[n]; place < start[n + 1]; place++) {
                    fresh[target] = to[place];
                    target += letters;
                }
            }
            copy(to, fresh);
        }

        /**
         * The product, times a factor, comes to another row; words beyond a length are left out. y has the outer
         * loops: callers put the row there that is 0 at more words.
         */
        private void gather(int[] to, int[] x, int[] y, int factor, int limit) {
            for (int n = 0; n <= limit; n++) {
                for (int v = 0; v < power[n]; v++) {
                    long number = (long) y[start[n] + v] * factor % PRIME;
                    for (int m = 0; m <= limit - n && number != 0; m++) {
                        int target = start[m + n] + v;
                        for (int place = start[m]; place < start[m + 1]; place++) {
                            if (x[place] != 0) {
                                to[target] = (int) ((to[target] + x[place] * number) % PRIME);
                            }
                            target += power[n];
                        }
                    }
                }
            }
        }

        private void gatherAhead(int[] to, int[] x, int letter, int limit) {
            for (int m = 0; m <= limit; m++) {
                int target = start[m + 1] + letter * power[m];
                for (int place = start[m]; place < start[m + 1]; place++) {
                    to[target] = Numbers.plus(to[target], x[place]);
                    target++;
                }
            }
        }

        void mingle(int[] to, int[] x, int[] y) {
            Arrays.fill(fresh, 0);
            for (int n = 0; n <= degree; n++) {
                for (int u = 0; u < power[n]; u++) {
                    int number = x[start[n] + u];
                    if (number != 0) {
                        mingleWord(n, u, number, y);
                    }
                }
            }
            copy(to, fresh);
        }

        private void mingleWord(int n, int u, int number, int[] y) {
            for (int m = 0; m <= degree - n; m++) {
                for (int v = 0; v < power[m]; v++) {
                    int other = y[start[m] + v];
                    if (other != 0) {
                        interleave(n, u, m, v, 0, 0, Numbers.product(number, other));
                    }
                }
            }
        }

        /**
         * All ways of setting the words (n letters, u) and (m letters, v) into each other, from their last letters on;
         * behind tells how many letters stand already, so their value. Each level sets one: DEGREE levels at most.
         */
        private void interleave(int n, int u, int m, int v, int behind, int so, int number) {
            if (n <= 0 || m <= 0) {
                int rest = n <= 0 ? v : u;
                int place = start[n + m + behind] + rest * power[behind] + so;
                fresh[place] = Numbers.plus(fresh[place], number);
                return;
            }
            int withU = so + u % letters * power[behind];
            int withV = so + v % letters * power[behind];
            interleave(n - 1, u / letters, m, v, behind + 1, withU, number);
            interleave(n, u, m - 1, v / letters, behind + 1, withV, number);
        }

        void turnAbout(int[] to, int[] a) {
            for (int n = 0; n <= degree; n++) {
                for (int v = 0; v < power[n]; v++) {
                    int number = a[start[n] + v];
                    int place = start[n] + words.backward(v, n);
                    fresh[place] = n % 2 == 0 ? number : Numbers.minus(0, number);
                }
            }
            copy(to, fresh);
        }

        /** EXP from within: 1 + x (1 + x / 2 (1 + x / 3 ..)). */
        void raise(int[] to, int[] x) {
            int[] so = one;
            int[] next = two;
            setToUnit(so, 1);
            for (int k = degree; k >= 1; k--) {
                setToUnit(next, 1);
                gather(next, so, x, parts[k], degree);
                int[] spare = so;
                so = next;
                next = spare;
            }
            copy(to, so);
        }

        /** LOG from within: y (1 - y (1 / 2 - y (1 / 3 ..))). */
        void unraise(int[] to, int[] x) {
            copy(base, x);
            base[0] = 0;
            int[] so = one;
            int[] next = two;
            setToUnit(so, parts[degree]);
            for (int k = degree - 1; k >= 1; k--) {
                setToUnit(next, parts[k]);
                gather(next, so, base, PRIME - 1, degree);
                int[] spare = so;
                so = next;
                next = spare;
            }
            Arrays.fill(next, 0);
            gather(next, so, base, 1, degree);
            copy(to, next);
        }

        /** INVERSE from within: 1 - y (1 - y (1 ..)). */
        void invert(int[] to, int[] x) {
            copy(base, x);
            base[0] = 0;
            int[] so = one;
            int[] next = two;
            setToUnit(so, 1);
            for (int k = 1; k <= degree; k++) {
                setToUnit(next, 1);
                gather(next, so, base, PRIME - 1, degree);
                int[] spare = so;
                so = next;
                next = spare;
            }
            copy(to, so);
        }

        void compose(int[] to, int[] x, int[] y) {
            raise(stack[0], x);
            raise(stack[1], y);
            multiply(stack[0], stack[0], stack[1]);
            unraise(to, stack[0]);
        }

        /** DERIVED: in each place where the letter stands, one at a time. */
        void setInEach(int[] to, int[] a, int letter, int[] by) {
            Arrays.fill(fresh, 0);
            for (int n = 1; n <= degree; n++) {
                for (int w = 0; w < power[n]; w++) {
                    int number = a[start[n] + w];
                    for (int behind = 0; behind < n && number != 0; behind++) {
                        if (w / power[behind] % letters == letter) {
                            setInOne(n, w, behind, number, by);
                        }
                    }
                }
            }
            copy(to, fresh);
        }

        /** The letter that has so many behind it gives way to each word of by. */
        private void setInOne(int n, int w, int behind, int number, int[] by) {
            int front = w / power[behind + 1];
            int end = w % power[behind];
            for (int m = 0; m <= degree - n + 1; m++) {
                for (int v = 0; v < power[m]; v++) {
                    int other = by[start[m] + v];
                    if (other != 0) {
                        int place = start[n - 1 + m] + (front * power[m] + v) * power[behind] + end;
                        fresh[place] = Numbers.productMore(fresh[place], number, other);
                    }
                }
            }
        }

        /** REPLACED: in all places at once. */
        void setInAll(int[] to, int[] a, int letter, int[] by) {
            setBehind(a, 0, 0, letter, by);
            copy(to, stack[0]);
        }

        /**
         * stack[n] becomes what stands in a behind the word of length n and value w, with the letter replaced. Going
         * by beginnings, all words that share one share its products. The depth is n, DEGREE at most; what
         * is longer than fits behind is never reckoned.
         */
        private void setBehind(int[] a, int n, int w, int letter, int[] by) {
            int[] so = stack[n];
            int limit = degree - n;
            // the product that takes this row looks one length further than it is filled
            Arrays.fill(so, 0, start[Math.min(limit + 2, degree + 1)], 0);
            so[0] = a[start[n] + w];
            if (n >= degree) {
                return;
            }
            int[] next = stack[n + 1];
            for (int x = 0; x < letters; x++) {
                setBehind(a, n + 1, w * letters + x, letter, by);
                if (x == letter) {
                    gather(so, by, next, 1, limit);
                } else {
                    gatherAhead(so, next, x, limit - 1);
                }
            }
        }

        /**
         * A sum of words of length n is LIE just if bracketing each word from its end on, [x,[y,[..,z]]], makes it n
         * times itself (Dynkin, Specht, Wever): PRIME is far above n, so n has a reciprocal.
         */
        boolean isLie(int[] a) {
            if (a[0] != 0) {
                return false;
            }
            for (int n = 2; n <= degree; n++) {
                if (!isNought(a, n) && !isLieAt(a, n)) {
                    return false;
                }
            }
            return true;
        }

        private boolean isLieAt(int[] a, int n) {
            int[] so = one;
            int[] next = two;
            System.arraycopy(a, start[n], so, 0, power[n]);
            for (int end = 2; end <= n; end++) {
                for (int w = 0; w < power[n]; w++) {
                    next[w] = Numbers.minus(so[w], so[lastAhead(w, end)]);
                }
                int[] spare = so;
                so = next;
                next = spare;
            }
            for (int w = 0; w < power[n]; w++) {
                if (so[w] != Numbers.product(a[start[n] + w], n)) {
                    return false;
                }
            }
            return true;
        }

        /** The word whose last letter has gone ahead of the others among its last ones. */
        private int lastAhead(int w, int end) {
            int front = w / power[end];
            int back = w % power[end];
            return front * power[end] + back % letters * power[end - 1] + back / letters;
        }
    }

    /** Words that are ahead of all their ends, with their brackets, and what measures shares. */
    private static final class Chiefs {
        /** The place of each chief's word. */
        final int[] word;
        /** The numbers of both sides, NONE for a letter. */
        final int[] left;
        final int[] right;
        /** The first chief of a length; one more entry holds how many chiefs there are. */
        private final int[] first;
        private final Words words;
        private final Algebra algebra;
        private final int[][] stack;
        /** The letters of the word in hand. */
        private final int[] spelled;

        Chiefs(Words words, Algebra algebra) {
            this.words = words;
            this.algebra = algebra;
            stack = algebra.stack;
            spelled = new int[words.degree];
            first = new int[words.degree + 2];
            int[] found = new int[words.all()];
            int[] numbers = new int[words.all()];
            int all = findChiefs(found, numbers);
            word = Arrays.copyOf(found, all);
            left = new int[all];
            right = new int[all];
            for (int i = 0; i < all; i++) {
                findSides(i, numbers);
            }
        }

        /** Fills the chiefs' places and, for each place, the chief's number or NONE; tells how many there are. */
        private int findChiefs(int[] found, int[] numbers) {
            int all = 0;
            numbers[0] = NONE;
            for (int n = 1; n <= words.degree; n++) {
                first[n] = all;
                for (int place = words.start[n]; place < words.start[n + 1]; place++) {
                    spell(place, n);
                    numbers[place] = NONE;
                    if (headLength(0, n) == n) {
                        found[all] = place;
                        numbers[place] = all;
                        all++;
                    }
                }
            }
            first[words.degree + 1] = all;
            return all;
        }

        private void findSides(int i, int[] numbers) {
            left[i] = NONE;
            right[i] = NONE;
            int n = words.lengthOf(word[i]);
            int value = word[i] - words.start[n];
            for (int end = n - 1; end >= 1 && right[i] == NONE; end--) {
                int number = numbers[words.start[end] + value % words.power[end]];
                if (number != NONE) {
                    right[i] = number;
                    left[i] = numbers[words.start[n - end] + value / words.power[end]];
                }
            }
        }

        int all() {
            return first[words.degree + 1];
        }

        int ofLength(int n) {
            return first[n + 1] - first[n];
        }

        private void spell(int place, int length) {
            int value = place - words.start[length];
            for (int n = length - 1; n >= 0; n--) {
                spelled[n] = value % words.letters;
                value /= words.letters;
            }
        }

        /** How long the first of the chiefs is that stand one behind the other in the spelled letters (Duval's way). */
        private int headLength(int from, int to) {
            int compared = from;
            int next = from + 1;
            while (next < to && spelled[compared] <= spelled[next]) {
                compared = spelled[compared] < spelled[next] ? from : compared + 1;
                next++;
            }
            return next - compared;
        }

        /** How often the first chief, of a known length, stands at the beginning. */
        private int headTimes(int from, int to, int head) {
            int same = from + head;
            while (same < to && spelled[same] == spelled[same - head]) {
                same++;
            }
            return (same - from) / head;
        }

        /** The bracket of chief i comes to stack[level]. Right sides are shorter: level + DEGREE is never reached. */
        void weave(int i, int level) {
            int[] so = stack[level];
            if (left[i] < 0 || right[i] < 0 || level + 1 >= stack.length) {
                Arrays.fill(so, 0);
                so[word[i]] = 1;
                return;
            }
            weave(left[i], level);
            weave(right[i], level + 1);
            algebra.commute(so, so, stack[level + 1]);
        }

        /** The sum that gives, by PAIR with any sum, the share of the word at a place in it; it comes to stack[level]. */
        void measure(int place, int level) {
            int length = words.lengthOf(place);
            spell(place, length);
            measureSpelled(0, length, level);
        }

        /**
         * The sums that measure are dual to ordered products: of a chief it is its first letter ahead of what measures
         * the rest, of chiefs one behind the other the shuffle of theirs, divided by how often each comes
         * (Schuetzenberger, Melancon and Reutenauer). The rest of a chief is shorter: DEGREE levels are never reached.
         */
        private void measureSpelled(int from, int to, int level) {
            int[] so = stack[level];
            if (from >= to || level + 1 >= stack.length) {
                algebra.setToUnit(so, 1);
                return;
            }
            int head = headLength(from, to);
            if (head == to - from) {
                measureSpelled(from + 1, to, level);
                setAhead(so, spelled[from], head - 1);
                return;
            }
            measureSpelled(from + head, to, level);
            measureSpelled(from, from + head, level + 1);
            algebra.mingle(so, so, stack[level + 1]);
            algebra.scale(so, Numbers.reciprocal(headTimes(from, to, head)));
        }

        /** A letter ahead of each word of a sum that has words of one length only. */
        private void setAhead(int[] so, int letter, int length) {
            int many = words.power[length];
            int old = words.start[length];
            int place = words.start[length + 1] + letter * many;
            System.arraycopy(so, old, so, place, many);
            Arrays.fill(so, old, old + many, 0);
        }

        int shareInBracket(int i, int j, int k) {
            int length = words.lengthOf(word[i]) + words.lengthOf(word[j]);
            if (length != words.lengthOf(word[k])) {
                return 0;
            }
            weave(i, 0);
            weave(j, 1);
            algebra.commute(stack[0], stack[0], stack[1]);
            measure(word[k], 1);
            return algebra.inner(stack[0], stack[1]);
        }

        /** Byte k of [left,right], found by going down to the side that holds it. */
        int written(int i, int k) {
            int chief = i;
            int rest = k;
            for (int depth = 0; depth <= words.degree; depth++) {
                int many = writtenLength(chief);
                if (rest < 0 || rest >= many) {
                    return NONE;
                }
                if (left[chief] < 0 || right[chief] < 0) {
                    return 'a' + chief;
                }
                int comma = 1 + writtenLength(left[chief]);
                if (rest == 0) {
                    return '[';
                }
                if (rest == comma) {
                    return ',';
                }
                if (rest == many - 1) {
                    return ']';
                }
                chief = rest < comma ? left[chief] : right[chief];
                rest -= rest < comma ? 1 : comma + 1;
            }
            return NONE;
        }

        /** A bracket of n letters has n - 1 pairs of [ and ], each with a comma. */
        private int writtenLength(int i) {
            return 4 * words.lengthOf(word[i]) - 3;
        }
    }

    /** Steps, each a letter with a number, and what they make. */
    private static final class Scheme {
        int many;
        private final Words words;
        private final Algebra algebra;
        private final int[] letter;
        private final int[] number;

        Scheme(Words words, Algebra algebra) {
            this.words = words;
            this.algebra = algebra;
            letter = new int[STEPS];
            number = new int[STEPS];
        }

        int append(int newLetter, int newNumber) {
            if (many < STEPS) {
                letter[many] = newLetter;
                number[many] = newNumber;
                many++;
            }
            return many;
        }

        int forget() {
            int had = many;
            many = 0;
            return had;
        }

        void make(int[] to) {
            int[] so = algebra.stack[0];
            int[] power = algebra.stack[1];
            algebra.setToUnit(so, 1);
            for (int i = 0; i < many; i++) {
                raiseLetter(power, letter[i], number[i]);
                algebra.multiply(so, so, power);
            }
            algebra.unraise(to, so);
        }

        private void raiseLetter(int[] to, int x, int factor) {
            algebra.setToUnit(to, 1);
            int so = 1;
            int value = 0;
            for (int n = 1; n <= words.degree; n++) {
                so = Numbers.product(Numbers.product(so, factor), Numbers.reciprocal(n));
                value = value * words.letters + x;
                to[words.start[n] + value] = so;
            }
        }

        int goodLength() {
            int[] made = algebra.stack[0];
            make(made);
            for (int place = words.start[1]; place < words.start[2]; place++) {
                if (made[place] != 1) {
                    return 0;
                }
            }
            int good = 1;
            while (good < words.degree && algebra.isNought(made, good + 1)) {
                good++;
            }
            return good;
        }
    }

    /**
     * What laws bring about, length by length: independent sums, of which each has 1 at its pivot, the first word at
     * which it is not 0, and those behind it have 0 there. The laws themselves need not be kept.
     */
    private static final class Laws {
        int many;
        /** How many independent sums there are of a length. */
        final int[] rank;
        private final Words words;
        private final Chiefs chiefs;
        /** How many there were of each length before the newest law. */
        private final int[] older;
        /** Where the sums of a length begin in rows, and their pivots in pivots. */
        private final int[] rowsFrom;
        private final int[] pivotsFrom;
        private final int[] pivots;
        private final int[] hand;
        /** Made with the first law, since most objects never have one. */
        private int[] rows;

        Laws(Words words, Chiefs chiefs) {
            this.words = words;
            this.chiefs = chiefs;
            rank = new int[words.degree + 1];
            older = new int[words.degree + 1];
            rowsFrom = new int[words.degree + 2];
            pivotsFrom = new int[words.degree + 2];
            for (int n = 1; n <= words.degree; n++) {
                rowsFrom[n + 1] = rowsFrom[n] + chiefs.ofLength(n) * words.power[n];
                pivotsFrom[n + 1] = pivotsFrom[n] + chiefs.ofLength(n);
            }
            pivots = new int[chiefs.all()];
            hand = new int[words.power[words.degree]];
        }

        /** One law more: only what it brings anew is bracketed with letters. Its number is told. */
        int enact(int[] law, int length) {
            if (rows == null) {
                rows = new int[rowsFrom[words.degree + 1]];
            }
            System.arraycopy(rank, 0, older, 0, rank.length);
            System.arraycopy(law, words.start[length], hand, 0, words.power[length]);
            settle(length);
            for (int n = length + 1; n <= words.degree; n++) {
                for (int i = older[n - 1]; i < rank[n - 1]; i++) {
                    for (int x = 0; x < words.letters; x++) {
                        bracketToHand(n, i, x);
                        settle(n);
                    }
                }
            }
            many++;
            return many - 1;
        }

        /** Sum i of length n - 1, bracketed with a letter. */
        private void bracketToHand(int n, int i, int x) {
            int old = words.power[n - 1];
            int from = rowsFrom[n - 1] + i * old;
            Arrays.fill(hand, 0, words.power[n], 0);
            for (int w = 0; w < old; w++) {
                int ahead = x * old + w;
                int behind = w * words.letters + x;
                hand[ahead] = Numbers.plus(hand[ahead], rows[from + w]);
                hand[behind] = Numbers.minus(hand[behind], rows[from + w]);
            }
        }

        /** What is in hand, of length n, comes to the others if it is independent of them. */
        private void settle(int n) {
            if (rank[n] >= chiefs.ofLength(n)) {
                // all that can be of this length is there, so it depends on them
                return;
            }
            for (int i = 0; i < rank[n]; i++) {
                strip(n, i);
            }
            int pivot = 0;
            while (pivot < words.power[n] && hand[pivot] == 0) {
                pivot++;
            }
            if (pivot < words.power[n]) {
                keep(n, pivot);
            }
        }

        private void strip(int n, int i) {
            int pivot = pivots[pivotsFrom[n] + i];
            int factor = Numbers.minus(0, hand[pivot]);
            int from = rowsFrom[n] + i * words.power[n];
            for (int w = pivot; w < words.power[n] && factor != 0; w++) {
                hand[w] = Numbers.productMore(hand[w], rows[from + w], factor);
            }
        }

        private void keep(int n, int pivot) {
            int factor = Numbers.reciprocal(hand[pivot]);
            int from = rowsFrom[n] + rank[n] * words.power[n];
            for (int w = 0; w < words.power[n]; w++) {
                rows[from + w] = Numbers.product(hand[w], factor);
            }
            pivots[pivotsFrom[n] + rank[n]] = pivot;
            rank[n]++;
        }
    }

    /**
     * The tape, and texts read from it. Each text that stands in [ or ( has rows of its own on the stack; how many
     * are open is the level. What is read goes on behind an EXP or LOG that isn't there, since a fault comes first.
     */
    private static final class Reader {
        int length;
        private final Words words;
        private final Algebra algebra;
        private final int[][] sums;
        private final int[][] stack;
        private final int[] tape;
        private int place;
        private int fault;
        private boolean lacking;

        Reader(Words words, Algebra algebra, int[][] sums) {
            this.words = words;
            this.algebra = algebra;
            this.sums = sums;
            stack = algebra.stack;
            tape = new int[TAPE];
        }

        int append(long w, int n) {
            for (int i = n - 1; i >= 0 && length < TAPE; i--) {
                tape[length] = (int) ((w >>> (8 * i)) & 255);
                length++;
            }
            return length;
        }

        int tell(int[] to) {
            place = 0;
            fault = NONE;
            lacking = false;
            readText(0);
            if (fault < 0 && place < length) {
                fault = place;
            }
            length = 0;
            if (fault >= 0) {
                return FAULT - fault;
            }
            if (lacking) {
                return LACKING;
            }
            algebra.copy(to, wholeOf(0));
            return 0;
        }

        private int[] wholeOf(int level) {
            return stack[ROWS * level];
        }

        private int[] termOf(int level) {
            return stack[ROWS * level + 1];
        }

        private int[] leftOf(int level) {
            return stack[ROWS * level + 2];
        }

        /** The byte in hand, NONE at the tape's end. */
        private int hand() {
            return place < length ? tape[place] : NONE;
        }

        private void readText(int level) {
            int[] whole = wholeOf(level);
            Arrays.fill(whole, 0);
            int sign = 1;
            for (int terms = 0; terms < TAPE; terms++) {
                readTerm(level);
                if (fault >= 0) {
                    return;
                }
                algebra.amass(whole, termOf(level), sign);
                int next = hand();
                if (next != '+' && next != '-') {
                    return;
                }
                sign = next == '+' ? 1 : PRIME - 1;
                place++;
            }
        }

        private void readTerm(int level) {
            algebra.setToUnit(termOf(level), 1);
            if (!beginsFactor(hand())) {
                fault = place;
                return;
            }
            for (int factors = 0; factors < TAPE && beginsFactor(hand()); factors++) {
                readFactor(level);
                if (fault >= 0) {
                    return;
                }
            }
            if (hand() == '/') {
                place++;
                readDivisor(level);
            }
        }

        private void readDivisor(int level) {
            if (!isDigit(hand()) || hand() == '0') {
                fault = place;
                return;
            }
            algebra.scale(termOf(level), Numbers.reciprocal(readNumber()));
        }

        private boolean beginsFactor(int sign) {
            return isDigit(sign) || isLetter(sign) || sign == 'r' || sign == '[' || sign == '('
                || sign == 'E' || sign == 'L';
        }

        private boolean isDigit(int sign) {
            return sign >= '0' && sign <= '9';
        }

        private boolean isLetter(int sign) {
            return sign >= 'a' && sign < 'a' + words.letters;
        }

        private void readFactor(int level) {
            int sign = hand();
            if (isDigit(sign)) {
                algebra.scale(termOf(level), readNumber());
            } else if (isLetter(sign)) {
                place++;
                algebra.multiplyByLetter(termOf(level), sign - 'a');
            } else if (sign == 'r') {
                place++;
                readSum(level);
            } else if (sign == '[') {
                readBracket(level);
            } else {
                readRound(level);
            }
        }

        private int readNumber() {
            int so = 0;
            for (int digits = 0; digits < 4 && isDigit(hand()); digits++) {
                so = so * 10 + hand() - '0';
                place++;
            }
            return so;
        }

        private void readSum(int level) {
            int r = hand() - '0';
            if (noSum(r)) {
                fault = place;
                return;
            }
            place++;
            algebra.multiply(termOf(level), termOf(level), sums[r]);
        }

        private void readBracket(int level) {
            if (!opens('[', level)) {
                return;
            }
            int[] inside = wholeOf(level + 1);
            readText(level + 1);
            if (!goesOn(',')) {
                return;
            }
            algebra.copy(leftOf(level), inside);
            readText(level + 1);
            if (!goesOn(']')) {
                return;
            }
            algebra.commute(inside, leftOf(level), inside);
            algebra.multiply(termOf(level), termOf(level), inside);
        }

        /** (TEXT), with E or L ahead or not. */
        private void readRound(int level) {
            int kind = hand();
            if (kind != '(') {
                place++;
            }
            if (!opens('(', level)) {
                return;
            }
            int[] inside = wholeOf(level + 1);
            readText(level + 1);
            if (!goesOn(')')) {
                return;
            }
            if (kind == 'E' && inside[0] == 0) {
                algebra.raise(inside, inside);
            } else if (kind == 'L' && inside[0] == 1) {
                algebra.unraise(inside, inside);
            } else if (kind != '(') {
                lacking = true;
            }
            algebra.multiply(termOf(level), termOf(level), inside);
        }

        private boolean opens(int sign, int level) {
            if (hand() != sign || level >= OPEN) {
                fault = place;
                return false;
            }
            place++;
            return true;
        }

        private boolean goesOn(int sign) {
            if (fault < 0 && hand() == sign) {
                place++;
                return true;
            }
            if (fault < 0) {
                fault = place;
            }
            return false;
        }
    }
}
