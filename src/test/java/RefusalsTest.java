import java.util.List;

/**
 * Every refusal of every call, on both sides of each bound, each on a new object: the answer is the one that is due,
 * and nothing has changed. All but FULL is asked of an object that is full, too: of several the first one told.
 */
public final class RefusalsTest {
    private static final int[] NO_SUMS = {-1, 8, Due.MIN, Due.MAX};
    private static final int[] NO_LETTERS = {-1, 2, 3, Due.MIN, Due.MAX};
    /** Of 2 letters and degree 3: other digits than 1 and 2 at each place, too long ones, below 0. */
    private static final int[] NO_WORDS = {-1, 03, 07, 010, 020, 013, 030, 031, 0100, 0101, 0110, 0113, 0131, 0301, 0311,
        0117, 0711, 01111, 02222, 01000, 010000000001, Due.MIN, Due.MIN + 1, Due.MAX};
    private static final int[] NO_CHIEFS = {-1, 5, Due.MIN, Due.MAX};
    private static final int[][] NO_FRACTIONS = {{-10000, 1}, {10000, 1}, {Due.MIN, 1}, {Due.MAX, 1}, {1, 0}, {1, -1},
        {1, 10000}, {1, Due.MIN}, {1, Due.MAX}, {0, 0}, {10000, 0}};
    private static final int[][] NO_STEPS = {{-100, 1}, {100, 1}, {Due.MIN, 1}, {Due.MAX, 1}, {1, 0}, {1, -1}, {1, 100},
        {1, Due.MIN}, {1, Due.MAX}, {0, 0}, {100, 0}};
    /** What the sums of an object in use are for: 2, 1 and 0 at the empty word, and 0 everywhere. */
    private static final int TWO = 0, ONE = 1, MIXED = 2, NOUGHT = 3, LIE = 4, UNLIKE = 5, NOT_LIE = 6, MINUS = 7;

    private static final List<Integer> USED_SEEN = Due.seen(used());
    private static final List<Integer> FULL_SEEN = Due.seen(full());

    public static void main(String[] args) {
        clearAndPut();
        atAndShare();
        fraction();
        add();
        products();
        turns();
        expLogInverse();
        group();
        deriveAndReplace();
        part();
        pair();
        chiefs();
        basisTextLieTable();
        step();
        scheme();
        relate();
        size();
        feed();
        read();
        count();
        firstAndLastSumAreTaken();
        nextCallsAreTaken();
        Due.end();
    }

    /** 2 letters, degree 3, each sum of a kind, 3 steps, a law, 5 bytes. */
    private static BracketLetters used() {
        BracketLetters x = Due.object(2, 3);
        setSums(x, 1);
        x.step(0, 1, 2);
        x.step(1, 1, 1);
        x.step(0, 1, 2);
        Due.feed(x, "r4+ab");
        return x;
    }

    /** The same with 12 steps, 4 laws, 100 bytes. */
    private static BracketLetters full() {
        BracketLetters x = Due.object(2, 3);
        setSums(x, 4);
        for (int i = 0; i < 12; i++) {
            x.step(i % 2, i + 1, 99 - i);
        }
        Due.feed(x, "r4+abb" + "+0".repeat(47));
        return x;
    }

    private static void setSums(BracketLetters x, int laws) {
        Due.set(x, LIE, "1*aab -2*aba 1*baa");
        for (int law = 0; law < laws; law++) {
            x.relate(LIE);
        }
        Due.set(x, TWO, "2 1*a 3*ab -1/2*bba");
        Due.set(x, ONE, "1 1*b 5*aa");
        Due.set(x, MIXED, "1*a 1*b -7*abb");
        Due.set(x, LIE, "1*ab -1*ba");
        Due.set(x, UNLIKE, "1*a 1*ab -1*ba");
        Due.set(x, NOT_LIE, "1*ab");
        Due.set(x, MINUS, "-1 9999*bbb");
    }

    private static void refused(String name, int want, Due.Call call) {
        refusedByFull(name, want, call);
        BracketLetters x = used();
        Due.due(name, call.on(x), want);
        Due.holds(name + " changes nothing", Due.seen(x).equals(USED_SEEN));
    }

    private static void refusedByFull(String name, int want, Due.Call call) {
        BracketLetters x = full();
        Due.due(name + " when all is full", call.on(x), want);
        Due.holds(name + " changes nothing when all is full", Due.seen(x).equals(FULL_SEEN));
    }

    private static void clearAndPut() {
        Due.sentence("clear: NONE");
        for (int r : NO_SUMS) {
            refused("clear(" + r + ")", Due.NONE, x -> x.clear(r));
        }
        Due.sentence("put: NONE; BAD");
        for (int r : NO_SUMS) {
            refused("put(" + r + ", 0, 1, 1)", Due.NONE, x -> x.put(r, 0, 1, 1));
            refused("put(" + r + ", 8, 1, 0)", Due.NONE, x -> x.put(r, 8, 1, 0));
            refused("put(" + r + ", 0, 10000, 1)", Due.NONE, x -> x.put(r, 0, 10000, 1));
        }
        for (int word : NO_WORDS) {
            refused("put(0, " + word + ", 1, 1)", Due.NONE, x -> x.put(0, word, 1, 1));
            refused("put(0, " + word + ", 10000, 0)", Due.NONE, x -> x.put(0, word, 10000, 0));
        }
        for (int[] no : NO_FRACTIONS) {
            refused("put(7, 2, " + no[0] + ", " + no[1] + ")", Due.BAD, x -> x.put(7, 2, no[0], no[1]));
        }
    }

    private static void atAndShare() {
        Due.sentence("at: NONE; share: NONE");
        for (int r : NO_SUMS) {
            refused("at(" + r + ", 0)", Due.NONE, x -> x.at(r, 0));
            refused("at(" + r + ", 8)", Due.NONE, x -> x.at(r, 8));
            refused("share(" + r + ", 0)", Due.NONE, x -> x.share(r, 0));
            refused("share(" + r + ", 8)", Due.NONE, x -> x.share(r, 8));
        }
        for (int word : NO_WORDS) {
            refused("at(0, " + word + ")", Due.NONE, x -> x.at(0, word));
            refused("share(0, " + word + ")", Due.NONE, x -> x.share(0, word));
        }
    }

    private static void fraction() {
        Due.sentence("fraction: NO: no NUMBER (below 0, PRIME), none such, what");
        for (int number : new int[] {-1, -2, Due.MIN, Due.PRIME}) {
            refused("fraction(" + number + ", 0)", Due.NO, x -> x.fraction(number, 0));
            refused("fraction(" + number + ", 1)", Due.NO, x -> x.fraction(number, 1));
            refused("fraction(" + number + ", 2)", Due.NO, x -> x.fraction(number, 2));
        }
        for (int what : new int[] {-1, 2, Due.MIN, Due.MAX}) {
            refused("fraction(1, " + what + ")", Due.NO, x -> x.fraction(1, what));
        }
    }

    private static void add() {
        Due.sentence("add: NONE; BAD");
        for (int r : NO_SUMS) {
            refused("add(" + r + ", 0, 1, 1)", Due.NONE, x -> x.add(r, 0, 1, 1));
            refused("add(0, " + r + ", 1, 1)", Due.NONE, x -> x.add(0, r, 1, 1));
            refused("add(" + r + ", 0, 10000, 1)", Due.NONE, x -> x.add(r, 0, 10000, 1));
            refused("add(0, " + r + ", 1, 0)", Due.NONE, x -> x.add(0, r, 1, 0));
        }
        for (int[] no : NO_FRACTIONS) {
            refused("add(0, 1, " + no[0] + ", " + no[1] + ")", Due.BAD, x -> x.add(0, 1, no[0], no[1]));
            refused("add(7, 7, " + no[0] + ", " + no[1] + ")", Due.BAD, x -> x.add(7, 7, no[0], no[1]));
        }
    }

    private static void products() {
        Due.sentence("times, bracket, shuffle: NONE");
        for (int r : NO_SUMS) {
            refused("times(" + r + ", 0, 1)", Due.NONE, x -> x.times(r, 0, 1));
            refused("times(0, " + r + ", 1)", Due.NONE, x -> x.times(0, r, 1));
            refused("times(0, 1, " + r + ")", Due.NONE, x -> x.times(0, 1, r));
            refused("bracket(" + r + ", 0, 1)", Due.NONE, x -> x.bracket(r, 0, 1));
            refused("bracket(0, " + r + ", 1)", Due.NONE, x -> x.bracket(0, r, 1));
            refused("bracket(0, 1, " + r + ")", Due.NONE, x -> x.bracket(0, 1, r));
            refused("shuffle(" + r + ", 0, 1)", Due.NONE, x -> x.shuffle(r, 0, 1));
            refused("shuffle(0, " + r + ", 1)", Due.NONE, x -> x.shuffle(0, r, 1));
            refused("shuffle(0, 1, " + r + ")", Due.NONE, x -> x.shuffle(0, 1, r));
        }
    }

    private static void turns() {
        Due.sentence("turn: NONE");
        for (int r : NO_SUMS) {
            refused("turn(" + r + ", 0)", Due.NONE, x -> x.turn(r, 0));
            refused("turn(0, " + r + ")", Due.NONE, x -> x.turn(0, r));
        }
    }

    private static void expLogInverse() {
        Due.sentence("exp: NONE; STATE: not 0 at the empty WORD");
        for (int r : NO_SUMS) {
            refused("exp(" + r + ", 2)", Due.NONE, x -> x.exp(r, MIXED));
            refused("exp(" + r + ", 0)", Due.NONE, x -> x.exp(r, TWO));
            refused("exp(0, " + r + ")", Due.NONE, x -> x.exp(0, r));
        }
        for (int a : new int[] {TWO, ONE, MINUS}) {
            refused("exp(4, " + a + ")", Due.STATE, x -> x.exp(LIE, a));
            refused("exp to itself of " + a, Due.STATE, x -> x.exp(a, a));
        }
        Due.sentence("log: NONE; STATE: not 1 at the empty WORD; inverse: STATE likewise");
        for (int r : NO_SUMS) {
            refused("log(" + r + ", 1)", Due.NONE, x -> x.log(r, ONE));
            refused("log(" + r + ", 0)", Due.NONE, x -> x.log(r, TWO));
            refused("log(0, " + r + ")", Due.NONE, x -> x.log(0, r));
            refused("inverse(" + r + ", 1)", Due.NONE, x -> x.inverse(r, ONE));
            refused("inverse(" + r + ", 0)", Due.NONE, x -> x.inverse(r, TWO));
            refused("inverse(0, " + r + ")", Due.NONE, x -> x.inverse(0, r));
        }
        for (int a : new int[] {TWO, MIXED, NOUGHT, LIE, MINUS}) {
            refused("log(1, " + a + ")", Due.STATE, x -> x.log(ONE, a));
            refused("log to itself of " + a, Due.STATE, x -> x.log(a, a));
            refused("inverse(1, " + a + ")", Due.STATE, x -> x.inverse(ONE, a));
            refused("inverse to itself of " + a, Due.STATE, x -> x.inverse(a, a));
        }
    }

    private static void group() {
        Due.sentence("group: NONE; STATE: one is not 0 at the empty WORD");
        for (int r : NO_SUMS) {
            refused("group(" + r + ", 2, 4)", Due.NONE, x -> x.group(r, MIXED, LIE));
            refused("group(" + r + ", 0, 1)", Due.NONE, x -> x.group(r, TWO, ONE));
            refused("group(2, " + r + ", 4)", Due.NONE, x -> x.group(MIXED, r, LIE));
            refused("group(2, " + r + ", 0)", Due.NONE, x -> x.group(MIXED, r, TWO));
            refused("group(2, 4, " + r + ")", Due.NONE, x -> x.group(MIXED, LIE, r));
            refused("group(2, 0, " + r + ")", Due.NONE, x -> x.group(MIXED, TWO, r));
        }
        for (int a : new int[] {TWO, ONE, MINUS}) {
            refused("group, the left one is " + a, Due.STATE, x -> x.group(UNLIKE, a, MIXED));
            refused("group, the right one is " + a, Due.STATE, x -> x.group(UNLIKE, MIXED, a));
            refused("group, both are " + a, Due.STATE, x -> x.group(a, a, a));
        }
    }

    private static void deriveAndReplace() {
        Due.sentence("derive: NONE; replace: NONE; STATE: by is not 0 at the empty WORD");
        for (int r : NO_SUMS) {
            refused("derive(" + r + ", 0, 0, 1)", Due.NONE, x -> x.derive(r, 0, 0, 1));
            refused("derive(0, " + r + ", 0, 1)", Due.NONE, x -> x.derive(0, r, 0, 1));
            refused("derive(0, 1, 0, " + r + ")", Due.NONE, x -> x.derive(0, 1, 0, r));
            refused("replace(" + r + ", 0, 0, 2)", Due.NONE, x -> x.replace(r, 0, 0, MIXED));
            refused("replace(" + r + ", 0, 0, 1)", Due.NONE, x -> x.replace(r, 0, 0, ONE));
            refused("replace(0, " + r + ", 0, 2)", Due.NONE, x -> x.replace(0, r, 0, MIXED));
            refused("replace(0, " + r + ", 0, 1)", Due.NONE, x -> x.replace(0, r, 0, ONE));
            refused("replace(0, 1, 0, " + r + ")", Due.NONE, x -> x.replace(0, 1, 0, r));
        }
        for (int letter : NO_LETTERS) {
            refused("derive(0, 1, " + letter + ", 2)", Due.NONE, x -> x.derive(0, 1, letter, 2));
            refused("replace(0, 1, " + letter + ", 2)", Due.NONE, x -> x.replace(0, 1, letter, MIXED));
            refused("replace(0, 1, " + letter + ", 0)", Due.NONE, x -> x.replace(0, 1, letter, TWO));
        }
        for (int by : new int[] {TWO, ONE, MINUS}) {
            refused("replace by " + by, Due.STATE, x -> x.replace(MIXED, LIE, 1, by));
            refused("replace in what has not the letter, by " + by, Due.STATE, x -> x.replace(MIXED, NOUGHT, 0, by));
            refused("replace to itself by " + by, Due.STATE, x -> x.replace(by, by, 0, by));
        }
    }

    private static void part() {
        Due.sentence("part: NONE");
        for (int r : NO_SUMS) {
            refused("part(" + r + ", 0, 1)", Due.NONE, x -> x.part(r, 0, 1));
            refused("part(0, " + r + ", 1)", Due.NONE, x -> x.part(0, r, 1));
        }
        for (int n : new int[] {-1, 4, Due.MIN, Due.MAX}) {
            refused("part(0, 1, " + n + ")", Due.NONE, x -> x.part(0, 1, n));
            refused("part(0, 0, " + n + ")", Due.NONE, x -> x.part(0, 0, n));
        }
    }

    private static void pair() {
        Due.sentence("pair: NONE");
        for (int r : NO_SUMS) {
            refused("pair(" + r + ", 0)", Due.NONE, x -> x.pair(r, 0));
            refused("pair(0, " + r + ")", Due.NONE, x -> x.pair(0, r));
        }
    }

    private static void chiefs() {
        Due.sentence("lyndon: NONE; lyndons: NONE: not 1 .. DEGREE; side: NONE: of a LETTER, too");
        for (int i : NO_CHIEFS) {
            refused("lyndon(" + i + ")", Due.NONE, x -> x.lyndon(i));
            refused("side(" + i + ", 0)", Due.NONE, x -> x.side(i, 0));
            refused("side(" + i + ", 1)", Due.NONE, x -> x.side(i, 1));
        }
        for (int n : new int[] {-1, 0, 4, Due.MIN, Due.MAX}) {
            refused("lyndons(" + n + ")", Due.NONE, x -> x.lyndons(n));
        }
        for (int which : new int[] {-1, 2, Due.MIN, Due.MAX}) {
            refused("side(2, " + which + ")", Due.NONE, x -> x.side(2, which));
        }
        for (int letter = 0; letter < 2; letter++) {
            int i = letter;
            refused("side(" + i + ", 0)", Due.NONE, x -> x.side(i, 0));
            refused("side(" + i + ", 1)", Due.NONE, x -> x.side(i, 1));
        }
    }

    private static void basisTextLieTable() {
        Due.sentence("basis, text, lie: NONE; table: NO: no such CHIEF");
        for (int r : NO_SUMS) {
            refused("basis(" + r + ", 0)", Due.NONE, x -> x.basis(r, 0));
            refused("lie(" + r + ")", Due.NONE, x -> x.lie(r));
        }
        for (int i : NO_CHIEFS) {
            refused("basis(0, " + i + ")", Due.NONE, x -> x.basis(0, i));
            refused("text(" + i + ", 0)", Due.NONE, x -> x.text(i, 0));
            refused("table(" + i + ", 0, 0)", Due.NO, x -> x.table(i, 0, 0));
            refused("table(0, " + i + ", 0)", Due.NO, x -> x.table(0, i, 0));
            refused("table(0, 0, " + i + ")", Due.NO, x -> x.table(0, 0, i));
            // where the bracket is longer than the degree, there must be such chiefs, too
            refused("table(4, 4, " + i + ")", Due.NO, x -> x.table(4, 4, i));
        }
        for (int k : new int[] {-1, 5, Due.MIN, Due.MAX}) {
            refused("text(2, " + k + ")", Due.NONE, x -> x.text(2, k));
        }
        for (int k : new int[] {-1, 1, 2, Due.MIN, Due.MAX}) {
            refused("text(0, " + k + ")", Due.NONE, x -> x.text(0, k));
        }
    }

    private static void step() {
        Due.sentence("step: NONE; BAD; FULL");
        for (int letter : NO_LETTERS) {
            refused("step(" + letter + ", 1, 1)", Due.NONE, x -> x.step(letter, 1, 1));
            refused("step(" + letter + ", 100, 0)", Due.NONE, x -> x.step(letter, 100, 0));
        }
        for (int[] no : NO_STEPS) {
            refused("step(1, " + no[0] + ", " + no[1] + ")", Due.BAD, x -> x.step(1, no[0], no[1]));
        }
        refusedByFull("step(0, 1, 1)", Due.FULL, x -> x.step(0, 1, 1));
        refusedByFull("step(1, -99, 99)", Due.FULL, x -> x.step(1, -99, 99));
    }

    private static void scheme() {
        Due.sentence("scheme: NONE");
        for (int r : NO_SUMS) {
            refused("scheme(" + r + ")", Due.NONE, x -> x.scheme(r));
        }
    }

    private static void relate() {
        Due.sentence("relate: NONE; STATE: it is 0, not LIE, of unlike lengths; FULL");
        for (int r : NO_SUMS) {
            refused("relate(" + r + ")", Due.NONE, x -> x.relate(r));
        }
        for (int a : new int[] {TWO, ONE, MIXED, NOUGHT, UNLIKE, NOT_LIE, MINUS}) {
            refused("relate(" + a + ")", Due.STATE, x -> x.relate(a));
        }
        refusedByFull("relate(4)", Due.FULL, x -> x.relate(LIE));
    }

    private static void size() {
        Due.sentence("size: NONE");
        for (int n : new int[] {-1, 0, 4, Due.MIN, Due.MAX}) {
            refused("size(" + n + ")", Due.NONE, x -> x.size(n));
        }
    }

    private static void feed() {
        Due.sentence("feed: BAD: n not 1 .. 8; FULL");
        for (int n : new int[] {0, -1, 9, Due.MIN, Due.MAX}) {
            refused("feed(97, " + n + ")", Due.BAD, x -> x.feed(97, n));
        }
        for (int n = 1; n <= 8; n++) {
            int bytes = n;
            refusedByFull("feed(97, " + n + ")", Due.FULL, x -> x.feed(97, bytes));
        }
    }

    private static void read() {
        Due.sentence("read: NONE (THE TAPE is as it was)");
        for (int r : NO_SUMS) {
            refused("read(" + r + ")", Due.NONE, x -> x.read(r));
        }
    }

    private static void count() {
        Due.sentence("count: NONE");
        for (int what : new int[] {-1, 7, Due.MIN, Due.MAX}) {
            refused("count(" + what + ")", Due.NONE, x -> x.count(what));
        }
    }

    /** The other side of each bound: no call refuses the sums 0 and 7, wherever they are told. */
    private static void firstAndLastSumAreTaken() {
        Due.sentence("There are SUMS 0 .. 7: NONE there is no such SUM");
        for (int r : new int[] {0, 7}) {
            int s = 7 - r;
            taken("clear", x -> x.clear(r));
            taken("put", x -> x.put(r, 0, 1, 1));
            taken("at", x -> x.at(r, 0));
            taken("add", x -> x.add(r, s, 1, 1));
            taken("times", x -> x.times(r, s, r) + x.times(r, r, s));
            taken("bracket", x -> x.bracket(r, s, r) + x.bracket(r, r, s));
            taken("shuffle", x -> x.shuffle(r, s, r) + x.shuffle(r, r, s));
            taken("turn", x -> x.turn(r, s));
            taken("exp", x -> x.clear(s) + x.exp(r, s));
            taken("log", x -> x.put(s, 0, 1, 1) + x.log(r, s));
            taken("inverse", x -> x.put(s, 0, 1, 1) + x.inverse(r, s));
            taken("group", x -> x.clear(0) + x.clear(7) + x.group(r, s, r) + x.group(s, s, r));
            taken("derive", x -> x.derive(r, s, 0, r) + x.derive(r, r, 1, s));
            taken("replace", x -> x.clear(r) + x.replace(r, s, 0, r) + x.clear(s) + x.replace(r, r, 1, s));
            taken("part", x -> x.part(r, s, 0) + x.part(r, r, 3));
            taken("pair", x -> x.pair(r, s));
            taken("basis", x -> x.basis(r, 0) + x.basis(r, 4));
            taken("share", x -> x.share(r, 0));
            taken("lie", x -> x.lie(r));
            taken("scheme", x -> x.scheme(r));
            taken("relate", x -> x.basis(r, 4) + x.relate(r));
            taken("read", x -> x.read(r));
        }
    }

    private static void taken(String name, Due.Call call) {
        int got = call.on(used());
        Due.holds(name + " answered " + got, got >= 0);
    }

    /** What was refused is taken when its cause has gone, as if it had never been asked. */
    private static void nextCallsAreTaken() {
        Due.sentence("They change nothing.");
        BracketLetters x = full();
        x.step(0, 1, 1);
        Due.due("unstep()", x.unstep(), 12);
        Due.due("step(0, 1, 1)", x.step(0, 1, 1), 1);
        x.feed(97, 1);
        Due.due("read(0)", x.read(0), 0);
        Due.dueSum(x, 0, "1*ab -1*ba 1*abb");
        Due.due("feed(97, 1)", x.feed(97, 1), 1);
        x = used();
        Due.due("relate(6)", x.relate(NOT_LIE), Due.STATE);
        Due.due("relate(4)", x.relate(LIE), 1);
        Due.due("size(2)", x.size(2), 0);
    }
}
