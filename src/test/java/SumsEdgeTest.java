import java.util.List;

/** Section 1 of the document and promises 1 to 18: each sentence that names an edge of letters, words, numbers, sums. */
public final class SumsEdgeTest {
    private interface Two {
        int on(BracketLetters x, int to, int a, int b);
    }

    public static void main(String[] args) {
        lettersOfNewObjects();
        degreesOfNewObjects();
        newObjectsAreEmpty();
        sumsAreEight();
        lettersAreNumberedFromNought();
        wordsAsLongAsTheDegree();
        digitsOfWords();
        everyWordHasItsOwnNumber();
        numbersGoAround();
        fractionsAreNumbers();
        fractionsOfPut();
        fractionsOfAdd();
        putAndClearAlone();
        leastFractions();
        noFractions();
        resultsMayGoToTheirSources();
        resultsOfOneSource();
        numbersThatCancel();
        productsAreDropped();
        bracketsAreDropped();
        shufflesAreDropped();
        shufflesByWays();
        shufflesWithTheEmptyWord();
        turnsByLength();
        expOfNoughtAndTheLastPower();
        logOfOneAndTheLastPower();
        inverseOfOneAndTheLastPower();
        statesAtTheEmptyWord();
        groupsWithNought();
        groupsAreDropped();
        derivedInEachPlace();
        derivedByShorterAndLonger();
        replacedAtOnce();
        replacedByLonger();
        partsOfEachLength();
        pairsOfEachWord();
        Due.end();
    }

    private static String times(String letter, int n) {
        return letter.repeat(n);
    }

    private static int ways(int n, int k) {
        int so = 1;
        for (int i = 1; i <= k; i++) {
            so = so * (n - k + i) / i;
        }
        return so;
    }

    // ---- new objects

    private static void lettersOfNewObjects() {
        Due.sentence("2 + (letters modulo 3, from 0) LETTERS");
        int[][] cases = {{0, 2}, {1, 3}, {2, 4}, {3, 2}, {4, 3}, {5, 4}, {6, 2}, {-1, 4}, {-2, 3}, {-3, 2}, {-4, 4}, {-5, 3},
            {-6, 2}, {Due.MAX - 1, 2}, {Due.MAX, 3}, {Due.MIN, 3}, {Due.MIN + 1, 4}, {Due.MIN + 2, 2}};
        for (int[] one : cases) {
            Due.due("letters of (" + one[0] + ", 0)", new BracketLetters(one[0], 0).count(0), one[1]);
        }
    }

    private static void degreesOfNewObjects() {
        Due.sentence("a DEGREE, 2 + (degree modulo 5 with 2 LETTERS, 4 with 3, 3 with 4; from 0)");
        int[] degrees = {0, 1, 2, 3, 4, 5, 6, 7, 8, 9, 10, 11, 12, -1, -2, -3, -4, -5, -6, -7, Due.MAX - 1, Due.MAX, Due.MIN,
            Due.MIN + 1};
        for (int letters = 2; letters <= 4; letters++) {
            int modulo = letters == 2 ? 5 : letters == 3 ? 4 : 3;
            for (int degree : degrees) {
                int due = 2 + ((degree % modulo) + modulo) % modulo;
                Due.due("degree of (" + (letters - 2) + ", " + degree + ")", new BracketLetters(letters - 2, degree).count(1), due);
            }
        }
    }

    private static void newObjectsAreEmpty() {
        Due.sentence("A new object: no STEPS, LAWS, bytes");
        for (int[] shape : Due.SHAPES) {
            BracketLetters x = Due.object(shape[0], shape[1]);
            Due.due("count(4)", x.count(4), 0);
            Due.due("count(5)", x.count(5), 0);
            Due.due("count(6)", x.count(6), 0);
            Due.due("order()", x.order(), 0);
            Due.due("unstep()", x.unstep(), 0);
            Due.due("size(2)", x.size(2), x.lyndons(2));
            Due.due("read(0)", x.read(0), -10);
        }
    }

    private static void sumsAreEight() {
        Due.sentence("There are SUMS 0 .. 7, all 0 at first.");
        for (int[] shape : Due.SHAPES) {
            for (int r = 0; r <= 7; r++) {
                Due.dueSum(Due.object(shape[0], shape[1]), r, "");
            }
        }
        BracketLetters x = Due.object(2, 2);
        for (int r = 0; r <= 7; r++) {
            Due.due("put(" + r + ", ab)", x.put(r, Due.w("ab"), r + 1, 1), 0);
        }
        for (int r = 0; r <= 7; r++) {
            Due.dueSum(x, r, (r + 1) + "*ab");
        }
        Due.due("at(-1, 0)", x.at(-1, 0), Due.NONE);
        Due.due("at(8, 0)", x.at(8, 0), Due.NONE);
    }

    // ---- letters, words, numbers

    private static void lettersAreNumberedFromNought() {
        Due.sentence("LETTERS a, b, .. (2 .. 4), numbered from 0 on (as calls tell them: a is 0)");
        for (int[] shape : Due.SHAPES) {
            for (int letter = 0; letter < shape[0]; letter++) {
                String name = String.valueOf((char) ('a' + letter));
                BracketLetters x = Due.object(shape[0], shape[1]);
                Due.set(x, 0, "1*" + name);
                Due.set(x, 1, "3*bb");
                Due.due("derive", x.derive(2, 0, letter, 1), 0);
                Due.due("derive at bb", x.at(2, Due.w("bb")), 3);
                Due.due("replace", x.replace(3, 0, letter, 1), 0);
                Due.due("replace at bb", x.at(3, Due.w("bb")), 3);
                Due.due("step", x.step(letter, 1, 1), 1);
                Due.due("scheme", x.scheme(4), 0);
                Due.due("scheme at " + name, x.at(4, Due.w(name)), 1);
                Due.due("lyndon", x.lyndon(letter), Due.w(name));
                Due.due("text", x.text(letter, 0), 'a' + letter);
            }
            refusedLetters(shape);
        }
    }

    private static void refusedLetters(int[] shape) {
        BracketLetters x = Due.object(shape[0], shape[1]);
        for (int letter : new int[] {-1, shape[0]}) {
            Due.due("derive by letter " + letter + " of " + shape[0], x.derive(0, 1, letter, 2), Due.NONE);
            Due.due("replace by letter " + letter + " of " + shape[0], x.replace(0, 1, letter, 2), Due.NONE);
            Due.due("step of letter " + letter + " of " + shape[0], x.step(letter, 1, 1), Due.NONE);
        }
    }

    private static void wordsAsLongAsTheDegree() {
        Due.sentence("WORDS are rows of LETTERS, DEGREE long at most (the empty one, too)");
        for (int[] shape : Due.SHAPES) {
            BracketLetters x = Due.object(shape[0], shape[1]);
            String last = String.valueOf((char) ('a' + shape[0] - 1));
            Due.due("the empty one", x.put(0, 0, 5, 1), 0);
            Due.due("the empty one", x.at(0, 0), 5);
            for (String letter : new String[] {"a", last}) {
                int longest = Due.w(times(letter, shape[1]));
                int longer = Due.w(times(letter, shape[1] + 1));
                Due.due("put at the longest", x.put(0, longest, 7, 1), 0);
                Due.due("at the longest", x.at(0, longest), 7);
                Due.holds("share of the longest", x.share(0, longest) != Due.NONE);
                Due.due("put at a longer one", x.put(0, longer, 7, 1), Due.NONE);
                Due.due("at a longer one", x.at(0, longer), Due.NONE);
                Due.due("share of a longer one", x.share(0, longer), Due.NONE);
            }
        }
    }

    private static void digitsOfWords() {
        Due.sentence("told as digits to the base 8, the first LETTER's the highest, each 1 more than its number");
        for (int[] shape : Due.SHAPES) {
            BracketLetters x = Due.object(shape[0], shape[1]);
            for (int place = 0; place < shape[1]; place++) {
                int others = Due.w(times("a", shape[1]));
                for (int digit = 0; digit <= 7; digit++) {
                    int word = others + ((digit - 1) << 3 * place);
                    // a 0 as the highest digit is none: the word is shorter then
                    boolean there = digit >= 1 && digit <= shape[0] || digit == 0 && place == shape[1] - 1;
                    Due.due("at(0, octal " + Integer.toOctalString(word) + ")", x.at(0, word), there ? 0 : Due.NONE);
                }
            }
        }
        BracketLetters x = Due.object(2, 2);
        x.put(0, 10, 3, 1);
        Due.dueSum(x, 0, "3*ab");
    }

    private static void everyWordHasItsOwnNumber() {
        Due.sentence("A SUM has a NUMBER at each WORD.");
        for (int[] shape : Due.SHAPES) {
            List<String> words = Due.words(shape[0], shape[1]);
            for (int part = 0; part < 3; part++) {
                BracketLetters x = Due.object(shape[0], shape[1]);
                for (int i = 0; i < words.size(); i++) {
                    x.put(part, Due.w(words.get(i)), i + 1, 1);
                }
                for (int i = part; i < words.size(); i += 3) {
                    Due.due("at " + words.get(i), x.at(part, Due.w(words.get(i))), i + 1);
                }
            }
            Due.due("count(2)", Due.object(shape[0], shape[1]).count(2), words.size());
        }
    }

    private static void numbersGoAround() {
        Due.sentence("NUMBERS are those modulo PRIME 2147483647: 0 .. 2147483646");
        BracketLetters x = Due.object(2, 2);
        x.put(0, 1, -1, 1);
        Due.due("-1", x.at(0, 1), 2147483646);
        x.put(1, 1, 1, 1);
        x.add(1, 0, 1, 1);
        Due.due("-1 and 1", x.at(1, 1), 0);
        x.add(1, 0, 1, 1);
        Due.due("0 and -1", x.at(1, 1), 2147483646);
        x.add(0, 0, 1, 1);
        Due.due("-1 and -1", x.at(0, 1), 2147483645);
        x.put(2, 0, -1, 1);
        x.times(2, 2, 2);
        Due.due("-1 times -1", x.at(2, 0), 1);
        x.put(3, 0, 9999, 1);
        x.times(3, 3, 3);
        x.times(3, 3, 3);
        Due.due("9999 four times", x.at(3, 0), (int) (9999L * 9999 * 9999 % 2147483647 * 9999 % 2147483647));
    }

    private static void fractionsAreNumbers() {
        Due.sentence("a fraction p / q is the NUMBER that times q is p");
        int[][] cases = {{1, 2}, {-1, 2}, {1, 3}, {-3, 7}, {9999, 9998}, {-9998, 9999}, {1, 9999}, {-1, 9999}, {2, 4}, {5000, 2}};
        BracketLetters x = Due.object(2, 2);
        for (int[] one : cases) {
            x.put(0, 0, one[0], one[1]);
            Due.dueNumber(one[0] + " / " + one[1], x.at(0, 0), one[0], one[1]);
        }
    }

    private static void fractionsOfPut() {
        Due.sentence("put: The NUMBER at a WORD is a fraction (up -9999 .. 9999, down 1 .. 9999)");
        edgesOfFractions((x, up, down) -> x.put(0, 2, up, down));
    }

    private static void fractionsOfAdd() {
        Due.sentence("add: A SUM s, times a fraction (as in put()), comes to r");
        edgesOfFractions((x, up, down) -> {
            x.clear(0);
            x.put(1, 2, 1, 1);
            return x.add(0, 1, up, down);
        });
    }

    private interface Fraction {
        int on(BracketLetters x, int up, int down);
    }

    private static void edgesOfFractions(Fraction call) {
        BracketLetters x = Due.object(2, 2);
        for (int up : new int[] {-9999, -9998, -1, 0, 1, 9998, 9999}) {
            for (int down : new int[] {1, 2, 9998, 9999}) {
                Due.due(up + " / " + down, call.on(x, up, down), 0);
                Due.dueNumber(up + " / " + down, x.at(0, 2), up, down);
            }
        }
        for (int up : new int[] {-10000, 10000}) {
            for (int down : new int[] {1, 9999}) {
                Due.due(up + " / " + down, call.on(x, up, down), Due.BAD);
            }
        }
        for (int up : new int[] {-9999, 0, 9999}) {
            for (int down : new int[] {0, -1, 10000}) {
                Due.due(up + " / " + down, call.on(x, up, down), Due.BAD);
            }
        }
    }

    private static void putAndClearAlone() {
        Due.sentence("put: The NUMBER at a WORD is a fraction; clear: A SUM is 0; add: comes to r");
        BracketLetters x = Due.object(2, 2);
        Due.set(x, 3, "1 2*a 3*bb");
        Due.set(x, 4, "5 6*a 7*bb");
        x.put(3, 1, 9, 1);
        Due.dueSum(x, 3, "1 9*a 3*bb");
        x.put(3, 1, 0, 9);
        Due.dueSum(x, 3, "1 3*bb");
        Due.due("add", x.add(3, 4, -1, 2), 0);
        Due.dueSum(x, 3, "-3/2 -3*a -1/2*bb");
        Due.due("add to itself", x.add(3, 3, 1, 1), 0);
        Due.dueSum(x, 3, "-3 -6*a -1*bb");
        Due.due("clear", x.clear(3), 0);
        Due.dueSum(x, 3, "");
        Due.dueSum(x, 4, "5 6*a 7*bb");
        Due.due("clear of 0", x.clear(3), 0);
        Due.due("clear(0)", x.clear(0), 0);
        Due.due("clear(7)", x.clear(7), 0);
    }

    private static void leastFractions() {
        Due.sentence("The fraction p / q that is a NUMBER, with the least q of 1 .. 1000 for which there is a p of -1000000 .. 1000000");
        int[][] cases = {{0, 1}, {1, 1}, {-1, 1}, {1000000, 1}, {-1000000, 1}, {999999, 1}, {1, 2}, {-1, 2}, {1, 999}, {1, 1000},
            {-1, 1000}, {999, 1000}, {1000000, 999}, {-1000000, 999}, {999999, 1000}, {-999999, 1000}, {1000000, 3}};
        BracketLetters x = Due.object(2, 2);
        for (int[] one : cases) {
            int number = Due.number(one[0], one[1]);
            Due.due("p of " + number, x.fraction(number, 0), one[0]);
            Due.due("q of " + number, x.fraction(number, 1), one[1]);
        }
        // not in their least form, so another q is the least
        int[][] lower = {{2, 4, 1, 2}, {500, 1000, 1, 2}, {1000000, 1000, 1000, 1}, {-998, 998, -1, 1}, {1002, 3006, 1, 3}};
        for (int[] one : lower) {
            int number = Due.number(one[0], one[1]);
            Due.due("p of " + number, x.fraction(number, 0), one[2]);
            Due.due("q of " + number, x.fraction(number, 1), one[3]);
        }
        Due.due("p of the greatest number", x.fraction(2147483646, 0), -1);
        Due.due("q of the greatest number", x.fraction(2147483646, 1), 1);
    }

    private static void noFractions() {
        Due.sentence("NO: no NUMBER (below 0, PRIME), none such, what");
        // with p and q so small, no other fraction is the same number
        int[][] none = {{1000001, 1}, {-1000001, 1}, {1, 1001}, {-1, 1001}, {1000001, 1000}, {-1000001, 1000}, {1000, 1001}};
        BracketLetters x = Due.object(2, 2);
        for (int[] one : none) {
            int number = Due.number(one[0], one[1]);
            Due.due("p of " + one[0] + " / " + one[1], x.fraction(number, 0), Due.NO);
            Due.due("q of " + one[0] + " / " + one[1], x.fraction(number, 1), Due.NO);
        }
        for (int what = 0; what <= 1; what++) {
            Due.due("fraction(-1, " + what + ")", x.fraction(-1, what), Due.NO);
            Due.due("fraction(MIN, " + what + ")", x.fraction(Due.MIN, what), Due.NO);
            Due.due("fraction(PRIME, " + what + ")", x.fraction(Due.PRIME, what), Due.NO);
        }
        Due.due("fraction(0, -1)", x.fraction(0, -1), Due.NO);
        Due.due("fraction(0, 2)", x.fraction(0, 2), Due.NO);
    }

    // ---- to may be any of them

    private static void resultsMayGoToTheirSources() {
        Due.sentence("to may be any of them; it changes behind all that is told of the others.");
        aliased("times", (x, to, a, b) -> x.times(to, a, b));
        aliased("bracket", (x, to, a, b) -> x.bracket(to, a, b));
        aliased("shuffle", (x, to, a, b) -> x.shuffle(to, a, b));
        aliased("group", (x, to, a, b) -> x.group(to, a, b));
        aliased("derive a", (x, to, a, b) -> x.derive(to, a, 0, b));
        aliased("derive b", (x, to, a, b) -> x.derive(to, a, 1, b));
        aliased("replace a", (x, to, a, b) -> x.replace(to, a, 0, b));
        aliased("replace b", (x, to, a, b) -> x.replace(to, a, 1, b));
    }

    private static final String LEFT = "2*a 3*b 5*ab -7*bb 11*aba";
    private static final String RIGHT = "-1*a 1/2*b 4*aa 13*ba -1/3*bba";

    private static void aliased(String name, Two call) {
        dueLike(name + " to the left one", call, LEFT, RIGHT, 0, 0, 1);
        dueLike(name + " to the right one", call, LEFT, RIGHT, 1, 0, 1);
        dueLike(name + " of the same", call, LEFT, LEFT, 7, 0, 0);
        dueLike(name + " of the same to itself", call, LEFT, LEFT, 0, 0, 0);
    }

    /** The same as with three sums of their own; all sums but to stay. */
    private static void dueLike(String name, Two call, String left, String right, int to, int a, int b) {
        BracketLetters x = twoSums(left, right);
        Due.due(name, call.on(x, 7, 0, 1), 0);
        BracketLetters y = twoSums(left, right);
        Due.due(name, call.on(y, to, a, b), 0);
        for (String word : Due.words(2, 3)) {
            Due.due(name + " at " + word, y.at(to, Due.w(word)), x.at(7, Due.w(word)));
        }
        if (to != 0) {
            Due.dueSum(y, 0, left);
        }
        if (to != 1) {
            Due.dueSum(y, 1, right);
        }
        for (int r = 2; r <= 7; r++) {
            if (r != to) {
                Due.dueSum(y, r, "");
            }
        }
    }

    private static BracketLetters twoSums(String left, String right) {
        BracketLetters x = Due.object(2, 3);
        Due.set(x, 0, left);
        Due.set(x, 1, right);
        return x;
    }

    private static void resultsOfOneSource() {
        Due.sentence("to may be any of them; it changes behind all that is told of the others.");
        dueLikeOne("turn", (x, to, a, b) -> x.turn(to, a), LEFT);
        dueLikeOne("exp", (x, to, a, b) -> x.exp(to, a), LEFT);
        dueLikeOne("log", (x, to, a, b) -> x.log(to, a), "1 " + LEFT);
        dueLikeOne("inverse", (x, to, a, b) -> x.inverse(to, a), "1 " + LEFT);
        dueLikeOne("part", (x, to, a, b) -> x.part(to, a, 2), LEFT);
    }

    private static void dueLikeOne(String name, Two call, String sum) {
        dueLike(name + " to itself", call, sum, sum, 0, 0, 0);
        dueLike(name + " to another one", call, sum, sum, 6, 0, 0);
    }

    private static void numbersThatCancel() {
        Due.sentence("NUMBERS are those modulo PRIME: what cancels is 0");
        BracketLetters x = Due.object(2, 3);
        Due.set(x, 0, "1*a 1*aa");
        Due.set(x, 1, "1*ab -1*b");
        x.times(2, 0, 1);
        Due.dueSum(x, 2, "-1*ab");
        x.bracket(2, 0, 0);
        Due.dueSum(x, 2, "");
        Due.set(x, 0, "1*a 1*b");
        Due.set(x, 1, "1*a -1*b");
        x.shuffle(2, 0, 1);
        Due.dueSum(x, 2, "2*aa -2*bb");
        Due.due("pair", x.pair(0, 1), 0);
        Due.set(x, 1, "-1*b");
        x.replace(2, 0, 0, 1);
        Due.dueSum(x, 2, "");
        Due.set(x, 0, "1*ab -1*ba");
        Due.set(x, 1, "1*b");
        x.derive(2, 0, 0, 1);
        Due.dueSum(x, 2, "");
    }

    // ---- what is longer than DEGREE is dropped

    private static void productsAreDropped() {
        Due.sentence("PRODUCT of two SUMS: WORDS one behind the other; what is longer than DEGREE is dropped (so always)");
        for (int[] shape : Due.SHAPES) {
            int degree = shape[1];
            for (int n = 0; n <= degree; n++) {
                dueProduct(shape, times("a", n), times("b", degree - n), "6*" + times("a", n) + times("b", degree - n));
                if (n > 0) {
                    dueProduct(shape, times("a", n), times("b", degree - n + 1), "");
                }
            }
        }
        BracketLetters x = Due.object(2, 2);
        Due.set(x, 0, "2 3*a 5*ab 7*bb");
        Due.set(x, 1, "11 13*b 17*ba");
        x.times(2, 0, 1);
        Due.dueSum(x, 2, "22 33*a 26*b 94*ab 34*ba 77*bb");
    }

    private static void dueProduct(int[] shape, String left, String right, String product) {
        BracketLetters x = Due.object(shape[0], shape[1]);
        x.put(0, Due.w(left), 2, 1);
        x.put(1, Due.w(right), 3, 1);
        Due.due("times", x.times(2, 0, 1), 0);
        Due.dueSum(x, 2, product);
    }

    private static void bracketsAreDropped() {
        Due.sentence("BRACKET [x,y]: x y less y x");
        BracketLetters x = Due.object(2, 3);
        Due.set(x, 0, "1*a");
        Due.set(x, 1, "2*bb");
        Due.due("bracket", x.bracket(2, 0, 1), 0);
        Due.dueSum(x, 2, "2*abb -2*bba");
        Due.set(x, 0, "1*ab");
        Due.due("bracket", x.bracket(2, 0, 1), 0);
        Due.dueSum(x, 2, "");
        Due.set(x, 0, "9 1*a");
        Due.set(x, 1, "8 1*b 1*bbb");
        Due.due("numbers at the empty word go", x.bracket(2, 0, 1), 0);
        Due.dueSum(x, 2, "1*ab -1*ba");
        Due.due("with 0", x.bracket(2, 0, 5), 0);
        Due.dueSum(x, 2, "");
    }

    private static void shufflesAreDropped() {
        Due.sentence("SHUFFLE of two WORDS: what is longer than DEGREE is dropped");
        for (int[] shape : Due.SHAPES) {
            int degree = shape[1];
            BracketLetters x = Due.object(shape[0], degree);
            for (int n = 0; n <= degree; n++) {
                x.clear(0);
                x.clear(1);
                x.put(0, Due.w(times("a", n)), 1, 1);
                x.put(1, Due.w(times("a", degree - n)), 1, 1);
                Due.due("shuffle", x.shuffle(2, 0, 1), 0);
                Due.due("ways", x.at(2, Due.w(times("a", degree))), ways(degree, n));
                x.clear(1);
                if (n > 0) {
                    x.put(1, Due.w(times("a", degree - n + 1)), 1, 1);
                    Due.due("shuffle", x.shuffle(2, 0, 1), 0);
                    Due.due("none", x.at(2, Due.w(times("a", degree))), 0);
                }
            }
        }
    }

    private static void shufflesByWays() {
        Due.sentence("all WORDS (each as often as there are ways) in which the LETTERS of both stand, those of each in order");
        BracketLetters x = Due.object(2, 4);
        Due.set(x, 0, "1*ab");
        Due.due("shuffle", x.shuffle(2, 0, 0), 0);
        Due.dueSum(x, 2, "2*abab 4*aabb");
        Due.set(x, 1, "1*ba");
        Due.due("shuffle", x.shuffle(2, 0, 1), 0);
        Due.dueSum(x, 2, "2*abba 1*abab 1*baba 2*baab");
        Due.sentence("SHUFFLE .. of SUMS each with each");
        Due.set(x, 0, "2 3*a");
        Due.set(x, 1, "5 7*b 11*ab");
        Due.due("shuffle", x.shuffle(2, 0, 1), 0);
        Due.dueSum(x, 2, "10 15*a 14*b 43*ab 21*ba 66*aab 33*aba");
    }

    private static void shufflesWithTheEmptyWord() {
        Due.sentence("SHUFFLE with the empty WORD");
        BracketLetters x = Due.object(2, 3);
        Due.set(x, 0, "3");
        Due.set(x, 1, "2 1*a 5*aba -1*bbb");
        x.shuffle(2, 0, 1);
        Due.dueSum(x, 2, "6 3*a 15*aba -3*bbb");
        x.shuffle(2, 1, 0);
        Due.dueSum(x, 2, "6 3*a 15*aba -3*bbb");
        x.shuffle(2, 1, 5);
        Due.dueSum(x, 2, "");
        x.shuffle(2, 5, 1);
        Due.dueSum(x, 2, "");
    }

    private static void turnsByLength() {
        Due.sentence("TURN of a SUM: each WORD becomes the one that reads the other way about, with minus if its length is odd");
        BracketLetters x = Due.object(2, 6);
        Due.set(x, 0, "5 1*a 2*ab 3*aab 4*aaab 5*aaaab 6*aaaaab");
        Due.due("turn", x.turn(1, 0), 0);
        Due.dueSum(x, 1, "5 -1*a 2*ba -3*baa 4*baaa -5*baaaa 6*baaaaa");
        BracketLetters y = Due.object(3, 5);
        Due.set(y, 0, "-1*c 1*aa 1*aba 7*abcab 8*ccccc");
        Due.due("turn", y.turn(0, 0), 0);
        Due.dueSum(y, 0, "1*c 1*aa -1*aba -7*bacba -8*ccccc");
        BracketLetters z = Due.object(4, 4);
        Due.due("turn of 0", z.turn(0, 1), 0);
        Due.dueSum(z, 0, "");
    }

    // ---- exps and logs

    private static void expOfNoughtAndTheLastPower() {
        Due.sentence("EXP of x (0 at the empty WORD): 1, x, x x / 2, x x x / 6, .. together");
        for (int[] shape : Due.SHAPES) {
            BracketLetters x = Due.object(shape[0], shape[1]);
            Due.due("exp of 0", x.exp(0, 1), 0);
            Due.dueSum(x, 0, "1");
        }
        for (int[] shape : Due.SHAPES) {
            BracketLetters x = Due.object(shape[0], shape[1]);
            x.put(0, 2, 1, 1);
            Due.due("exp of b", x.exp(0, 0), 0);
            int factorial = 1;
            for (int n = 1; n <= shape[1]; n++) {
                factorial *= n;
                Due.dueNumber("b " + n + " times", x.at(0, Due.w(times("b", n))), 1, factorial);
            }
        }
        BracketLetters x = Due.object(2, 3);
        Due.set(x, 0, "1*a -1/2*aa 4*bbb");
        x.exp(1, 0);
        Due.dueSum(x, 1, "1 1*a -1/3*aaa 4*bbb");
    }

    private static void logOfOneAndTheLastPower() {
        Due.sentence("LOG of x (1 at the empty WORD): with y for x less 1: y less y y / 2 and y y y / 3 more, ..");
        for (int[] shape : Due.SHAPES) {
            BracketLetters x = Due.object(shape[0], shape[1]);
            x.put(1, 0, 1, 1);
            Due.due("log of 1", x.log(0, 1), 0);
            Due.dueSum(x, 0, "");
        }
        for (int[] shape : Due.SHAPES) {
            BracketLetters x = Due.object(shape[0], shape[1]);
            x.put(0, 0, 1, 1);
            x.put(0, 2, 1, 1);
            Due.due("log of 1 + b", x.log(0, 0), 0);
            Due.due("the empty word", x.at(0, 0), 0);
            for (int n = 1; n <= shape[1]; n++) {
                Due.dueNumber("b " + n + " times", x.at(0, Due.w(times("b", n))), n % 2 == 1 ? 1 : -1, n);
            }
        }
        BracketLetters x = Due.object(2, 3);
        Due.set(x, 0, "1 1*a 1/2*aa 4*bbb");
        x.log(1, 0);
        Due.dueSum(x, 1, "1*a -1/6*aaa 4*bbb");
    }

    private static void inverseOfOneAndTheLastPower() {
        Due.sentence("INVERSE of such a one: 1 less y, y y more, ..");
        for (int[] shape : Due.SHAPES) {
            BracketLetters x = Due.object(shape[0], shape[1]);
            x.put(1, 0, 1, 1);
            Due.due("inverse of 1", x.inverse(0, 1), 0);
            Due.dueSum(x, 0, "1");
        }
        for (int[] shape : Due.SHAPES) {
            BracketLetters x = Due.object(shape[0], shape[1]);
            x.put(0, 0, 1, 1);
            x.put(0, 2, 2, 1);
            Due.due("inverse of 1 + 2 b", x.inverse(0, 0), 0);
            for (int n = 0; n <= shape[1]; n++) {
                Due.dueNumber("b " + n + " times", x.at(0, Due.w(times("b", n))), (n % 2 == 0 ? 1 : -1) * (1 << n), 1);
            }
        }
        BracketLetters x = Due.object(2, 3);
        Due.set(x, 0, "1 1*a 1*aa 4*bbb");
        x.inverse(1, 0);
        Due.dueSum(x, 1, "1 -1*a 1*aaa -4*bbb");
    }

    private static void statesAtTheEmptyWord() {
        Due.sentence("STATE: not 0 at the empty WORD / not 1 at the empty WORD / likewise");
        BracketLetters x = Due.object(2, 2);
        int[] numbers = {-9999, -1, 0, 1, 2, 9999};
        for (int number : numbers) {
            Due.set(x, 0, number + " 5*a");
            Due.due("exp with " + number, x.exp(1, 0), number == 0 ? 0 : Due.STATE);
            Due.due("log with " + number, x.log(1, 0), number == 1 ? 0 : Due.STATE);
            Due.due("inverse with " + number, x.inverse(1, 0), number == 1 ? 0 : Due.STATE);
            Due.due("group, left with " + number, x.group(1, 0, 7), number == 0 ? 0 : Due.STATE);
            Due.due("group, right with " + number, x.group(1, 7, 0), number == 0 ? 0 : Due.STATE);
            Due.due("replace by one with " + number, x.replace(1, 7, 0, 0), number == 0 ? 0 : Due.STATE);
            Due.due("derive by one with " + number, x.derive(1, 7, 0, 0), 0);
        }
        Due.sentence("STATE is for the empty WORD alone");
        for (String word : Due.words(2, 2).subList(1, 7)) {
            Due.set(x, 0, "1*" + word);
            Due.due("exp with " + word, x.exp(1, 0), 0);
            Due.due("group with " + word, x.group(1, 0, 0), 0);
            Due.due("replace by " + word, x.replace(1, 0, 0, 0), 0);
            Due.due("log with " + word, x.log(1, 0), Due.STATE);
            Due.due("inverse with " + word, x.inverse(1, 0), Due.STATE);
        }
        // 1 and 0 by reckoning count, too
        Due.set(x, 0, "1/2");
        x.add(0, 0, 1, 1);
        Due.due("log of a half and a half", x.log(1, 0), 0);
        x.add(0, 0, -1, 1);
        Due.due("exp of 1 less 1", x.exp(1, 0), 0);
    }

    private static void groupsWithNought() {
        Due.sentence("GROUP of x, y (0 there): LOG of EXP x EXP y");
        BracketLetters x = Due.object(2, 3);
        Due.due("group of 0, 0", x.group(2, 0, 1), 0);
        Due.dueSum(x, 2, "");
        String sum = "1*a -3*b 1/2*ab 7*bba";
        Due.set(x, 0, sum);
        Due.due("group of x, 0", x.group(2, 0, 1), 0);
        Due.dueSum(x, 2, sum);
        Due.due("group of 0, x", x.group(2, 1, 0), 0);
        Due.dueSum(x, 2, sum);
        Due.set(x, 1, "-1*a 3*b -1/2*ab -7*bba");
        Due.due("group of x, -x", x.group(2, 0, 1), 0);
        Due.dueSum(x, 2, "");
    }

    private static void groupsAreDropped() {
        Due.sentence("GROUP: what is longer than DEGREE is dropped");
        BracketLetters x = Due.object(2, 2);
        Due.set(x, 0, "1*a");
        Due.set(x, 1, "1*b");
        x.group(2, 0, 1);
        Due.dueSum(x, 2, "1*a 1*b 1/2*ab -1/2*ba");
        BracketLetters y = Due.object(2, 3);
        Due.set(y, 0, "1*a");
        Due.set(y, 1, "1*b");
        y.group(2, 0, 1);
        Due.dueSum(y, 2, "1*a 1*b 1/2*ab -1/2*ba 1/12*aab -1/6*aba 1/12*baa 1/12*abb -1/6*bab 1/12*bba");
        y.group(2, 1, 0);
        Due.dueSum(y, 2, "1*a 1*b -1/2*ab 1/2*ba 1/12*aab -1/6*aba 1/12*baa 1/12*abb -1/6*bab 1/12*bba");
    }

    // ---- derived, replaced

    private static void derivedInEachPlace() {
        Due.sentence("DERIVED: of each WORD, for each place where a LETTER stands: with a SUM in its place; together");
        BracketLetters x = Due.object(2, 4);
        Due.set(x, 1, "1*b");
        Due.set(x, 0, "1*aaaa");
        x.derive(2, 0, 0, 1);
        Due.dueSum(x, 2, "1*baaa 1*abaa 1*aaba 1*aaab");
        Due.set(x, 0, "7 1*b 3*bbbb");
        Due.due("no place", x.derive(2, 0, 0, 1), 0);
        Due.dueSum(x, 2, "");
        x.derive(2, 0, 1, 1);
        Due.dueSum(x, 2, "1*b 12*bbbb");
        Due.due("by 0", x.derive(2, 0, 1, 7), 0);
        Due.dueSum(x, 2, "");
        Due.due("of 0", x.derive(2, 7, 1, 0), 0);
        Due.dueSum(x, 2, "");
        Due.sentence("DERIVED: one place at a time, what comes in is not looked at again");
        Due.set(x, 0, "1*ab");
        Due.set(x, 1, "1*aa");
        x.derive(2, 0, 0, 1);
        Due.dueSum(x, 2, "1*aab");
    }

    private static void derivedByShorterAndLonger() {
        Due.sentence("DERIVED: by a SUM that is not 0 at the empty WORD; what is longer than DEGREE is dropped");
        BracketLetters x = Due.object(2, 3);
        Due.set(x, 0, "1*a 2*ab 5*abb");
        Due.set(x, 1, "3");
        x.derive(2, 0, 0, 1);
        Due.dueSum(x, 2, "3 6*b 15*bb");
        Due.set(x, 1, "1*ba 1*bab");
        x.derive(2, 0, 0, 1);
        Due.dueSum(x, 2, "1*ba 3*bab");
        Due.set(x, 0, "1*bbb");
        Due.set(x, 1, "1*aa");
        x.derive(2, 0, 1, 1);
        Due.dueSum(x, 2, "");
        Due.set(x, 1, "1 1*a 1*aa");
        x.derive(2, 0, 1, 1);
        Due.dueSum(x, 2, "3*bb 1*abb 1*bab 1*bba");
    }

    private static void replacedAtOnce() {
        Due.sentence("REPLACED: that LETTER becomes a SUM (0 at the empty WORD) in all its places at once");
        BracketLetters x = Due.object(2, 3);
        Due.set(x, 0, "7 1*a 2*b 3*aba 5*bbb");
        Due.set(x, 1, "1*b");
        x.replace(2, 0, 0, 1);
        Due.dueSum(x, 2, "7 3*b 8*bbb");
        Due.set(x, 1, "");
        Due.due("by 0", x.replace(2, 0, 0, 1), 0);
        Due.dueSum(x, 2, "7 2*b 5*bbb");
        Due.due("of 0", x.replace(2, 6, 0, 0), Due.STATE);
        Due.set(x, 1, "2*a");
        Due.due("of 0", x.replace(2, 6, 0, 1), 0);
        Due.dueSum(x, 2, "");
        x.replace(2, 0, 0, 1);
        Due.dueSum(x, 2, "7 2*a 2*b 12*aba 5*bbb");
        Due.set(x, 1, "1*a 1*b");
        x.replace(2, 0, 0, 1);
        Due.dueSum(x, 2, "7 1*a 3*b 3*aba 3*abb 3*bba 8*bbb");
    }

    private static void replacedByLonger() {
        Due.sentence("REPLACED: what is longer than DEGREE is dropped");
        BracketLetters x = Due.object(2, 4);
        Due.set(x, 0, "1*a 1*aa 1*aaa 1*ab");
        Due.set(x, 1, "1*bb");
        x.replace(2, 0, 0, 1);
        Due.dueSum(x, 2, "1*bb 1*bbbb 1*bbb");
        Due.set(x, 1, "1*a 1*bbbb");
        x.replace(2, 0, 0, 1);
        Due.dueSum(x, 2, "1*a 1*aa 1*aaa 1*ab 1*bbbb");
        // what an earlier call left behind must not come again
        Due.set(x, 0, "1*bbbb 1*abbb");
        Due.set(x, 1, "1*a");
        x.replace(2, 0, 1, 1);
        Due.dueSum(x, 2, "2*aaaa");
        Due.set(x, 0, "1*b");
        x.replace(2, 0, 0, 1);
        Due.dueSum(x, 2, "1*b");
    }

    // ---- parts, pairs

    private static void partsOfEachLength() {
        Due.sentence("part: to is what a has at WORDS of a length");
        for (int[] shape : Due.SHAPES) {
            for (int n = 0; n <= shape[1]; n++) {
                BracketLetters x = Due.object(shape[0], shape[1]);
                String last = String.valueOf((char) ('a' + shape[0] - 1));
                // the first and the last word of each length, so that the next length's begin just behind
                for (int k = 0; k <= shape[1]; k++) {
                    x.put(0, Due.w(times("a", k)), k + 1, 1);
                    x.put(0, Due.w(times(last, k)), k + 1, 1);
                }
                x.put(5, 2, 1, 1);
                Due.due("part(5, 0, " + n + ")", x.part(5, 0, n), 0);
                Due.dueSum(x, 5, n == 0 ? "1" : (n + 1) + "*" + times("a", n) + " " + (n + 1) + "*" + times(last, n));
                Due.due("a stays", x.at(0, Due.w(times(last, shape[1]))), shape[1] + 1);
                Due.due("part(0, 0, -1)", x.part(0, 0, -1), Due.NONE);
                Due.due("part(0, 0, DEGREE + 1)", x.part(0, 0, shape[1] + 1), Due.NONE);
            }
        }
        BracketLetters x = Due.object(2, 3);
        Due.set(x, 0, "1*aa 2*ab 3*ba 4*bb 9*bbb 8*a");
        x.part(0, 0, 2);
        Due.dueSum(x, 0, "1*aa 2*ab 3*ba 4*bb");
        Due.due("part of none", x.part(0, 0, 3), 0);
        Due.dueSum(x, 0, "");
    }

    private static void pairsOfEachWord() {
        Due.sentence("PAIR of two SUMS: the products of their NUMBERS at each WORD, together");
        for (int[] shape : Due.SHAPES) {
            BracketLetters x = Due.object(shape[0], shape[1]);
            String last = String.valueOf((char) ('a' + shape[0] - 1));
            int longest = Due.w(times(last, shape[1]));
            Due.due("of 0", x.pair(0, 0), 0);
            x.put(0, 0, 3, 1);
            x.put(1, 0, 5, 1);
            Due.due("at the empty word", x.pair(0, 1), 15);
            x.put(0, longest, 7, 1);
            Due.due("at the empty word alone", x.pair(0, 1), 15);
            x.put(1, longest, 11, 1);
            Due.due("at the last word, too", x.pair(0, 1), 15 + 77);
            Due.due("the other way about", x.pair(1, 0), 15 + 77);
            Due.due("with itself", x.pair(0, 0), 9 + 49);
            x.put(1, longest, -15, 7);
            Due.due("0 modulo PRIME", x.pair(0, 1), 0);
            x.put(1, longest, -16, 7);
            Due.due("-1 modulo PRIME", x.pair(0, 1), Due.PRIME - 1);
        }
    }
}
