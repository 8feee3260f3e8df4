/** Section 3 of the document and promises 27 to 32: each sentence that names an edge of steps, orders, laws, sizes. */
public final class SchemesEdgeTest {
    private static final String AAB = "1*aab -2*aba 1*baa";
    private static final String ABB = "1*abb -2*bab 1*bba";

    public static void main(String[] args) {
        twelveSteps();
        fractionsOfSteps();
        unsteps();
        madeOfNoStep();
        madeOfOneStep();
        madeInOrder();
        madeOfTwelve();
        orderOfNoSteps();
        orderNotEvenLetters();
        orderOne();
        orderTwoAndTheDegree();
        orderThree();
        fourLaws();
        lawsThatAreNone();
        lawsOfEachLength();
        lawsStay();
        sizesWithoutLaws();
        sizesOfEachDegree();
        sizesOfOneLaw();
        sizesOfLetters();
        sizesOfProducts();
        sizesOfRoots();
        sizesInAnyOrder();
        sizesOfDependentLaws();
        Due.end();
    }

    // ---- steps

    private static void twelveSteps() {
        Due.sentence("A SCHEME is a row of STEPS, 12 at most; step: how many; FULL");
        for (int[] shape : Due.SHAPES) {
            BracketLetters x = Due.object(shape[0], shape[1]);
            for (int i = 1; i <= 12; i++) {
                Due.due("step " + i, x.step(i % shape[0], 1, i), i);
                Due.due("count(4)", x.count(4), i);
            }
            Due.due("step 13", x.step(0, 1, 1), Due.FULL);
            Due.due("step 13 again", x.step(1, 1, 1), Due.FULL);
            Due.due("count(4)", x.count(4), 12);
        }
    }

    private static void fractionsOfSteps() {
        Due.sentence("step: A STEP more (up -99 .. 99, down 1 .. 99)");
        BracketLetters x = Due.object(2, 2);
        for (int up : new int[] {-99, -98, -1, 0, 1, 98, 99}) {
            for (int down : new int[] {1, 2, 98, 99}) {
                x.unstep();
                Due.due("step " + up + " / " + down, x.step(1, up, down), 1);
                x.scheme(0);
                Due.dueNumber(up + " / " + down, x.at(0, 2), up, down);
            }
        }
        for (int[] no : new int[][] {{-100, 1}, {100, 1}, {-100, 99}, {100, 99}, {99, 0}, {99, -1}, {99, 100}, {-99, 100}, {0, 0}}) {
            Due.due("step " + no[0] + " / " + no[1], x.step(1, no[0], no[1]), Due.BAD);
        }
        Due.due("count(4)", x.count(4), 1);
    }

    private static void unsteps() {
        Due.sentence("unstep: The SCHEME has no STEPS: how many it had");
        for (int many = 0; many <= 12; many++) {
            BracketLetters x = Due.object(2, 2);
            for (int i = 0; i < many; i++) {
                x.step(0, 1, 1);
            }
            Due.due("unstep() of " + many, x.unstep(), many);
            Due.due("count(4)", x.count(4), 0);
            Due.due("unstep() again", x.unstep(), 0);
            Due.due("order()", x.order(), 0);
            x.scheme(0);
            Due.dueSum(x, 0, "");
            Due.due("step", x.step(1, 1, 2), 1);
            x.scheme(0);
            Due.dueSum(x, 0, "1/2*b");
        }
    }

    private static void madeOfNoStep() {
        Due.sentence("It MAKES: LOG of the PRODUCT (of no STEPS: 0)");
        for (int[] shape : Due.SHAPES) {
            BracketLetters x = Due.object(shape[0], shape[1]);
            x.put(7, 0, 3, 1);
            x.put(7, 9, 3, 1);
            Due.due("scheme(7)", x.scheme(7), 0);
            Due.dueSum(x, 7, "");
        }
    }

    private static void madeOfOneStep() {
        Due.sentence("It MAKES .. of EXP of each LETTER times its fraction (of one STEP: that)");
        for (int[] shape : Due.SHAPES) {
            BracketLetters x = Due.object(shape[0], shape[1]);
            char last = (char) ('a' + shape[0] - 1);
            x.step(shape[0] - 1, -99, 98);
            Due.due("scheme(0)", x.scheme(0), 0);
            Due.dueSum(x, 0, "-99/98*" + last);
            Due.due("the steps stay", x.count(4), 1);
        }
        BracketLetters x = Due.object(2, 3);
        x.step(0, 0, 5);
        x.step(1, 0, 1);
        x.scheme(0);
        Due.dueSum(x, 0, "");
        x.step(0, 2, 1);
        x.step(0, 1, 3);
        x.scheme(0);
        Due.dueSum(x, 0, "7/3*a");
        x.step(0, -7, 3);
        x.scheme(0);
        Due.dueSum(x, 0, "");
    }

    private static void madeInOrder() {
        Due.sentence("It MAKES: LOG of the PRODUCT, in their order");
        BracketLetters x = Due.object(2, 2);
        x.step(0, 1, 1);
        x.step(1, 1, 1);
        x.scheme(0);
        Due.dueSum(x, 0, "1*a 1*b 1/2*ab -1/2*ba");
        x.unstep();
        x.step(1, 1, 1);
        x.step(0, 1, 1);
        x.scheme(0);
        Due.dueSum(x, 0, "1*a 1*b -1/2*ab 1/2*ba");
        BracketLetters y = Due.object(2, 3);
        y.step(0, 1, 2);
        y.step(1, 1, 1);
        y.step(0, 1, 2);
        y.scheme(0);
        Due.dueSum(y, 0, "1*a 1*b -1/24*aab 1/12*aba -1/24*baa 1/12*abb -1/6*bab 1/12*bba");
    }

    private static void madeOfTwelve() {
        Due.sentence("A SCHEME .. 12 at most (all of them count)");
        BracketLetters x = Due.object(2, 3);
        for (int i = 0; i < 12; i++) {
            x.step(0, 1, 12);
        }
        x.scheme(0);
        Due.dueSum(x, 0, "1*a");
        x.unstep();
        for (int i = 0; i < 11; i++) {
            x.step(0, 1, 11);
        }
        x.step(1, 1, 1);
        Due.due("order()", x.order(), 1);
        x.step(1, 1, 1);
        Due.due("order() behind a refused one", x.order(), 1);
        x.scheme(0);
        Due.due("a", x.at(0, Due.w("a")), 1);
        Due.due("b", x.at(0, Due.w("b")), 1);
        Due.dueNumber("ab", x.at(0, Due.w("ab")), 1, 2);
    }

    // ---- order

    private static int order(int[] shape, int[][] steps) {
        BracketLetters x = Due.object(shape[0], shape[1]);
        for (int[] step : steps) {
            x.step(step[0], step[1], step[2]);
        }
        int so = x.order();
        Due.due("order() again", x.order(), so);
        Due.due("the steps stay", x.count(4), steps.length);
        return so;
    }

    private static void orderOfNoSteps() {
        Due.sentence("Its ORDER .. (0: not even these), of no STEPS");
        for (int[] shape : Due.SHAPES) {
            Due.due("order()", order(shape, new int[0][]), 0);
        }
    }

    private static void orderNotEvenLetters() {
        Due.sentence("Its ORDER: up to length n that is just the LETTERS, each with 1 (0: not even these)");
        for (int[] shape : Due.SHAPES) {
            int[][] all = new int[shape[0]][];
            for (int letter = 0; letter < shape[0]; letter++) {
                all[letter] = new int[] {letter, 1, 1};
            }
            for (int letter = 0; letter < shape[0]; letter++) {
                for (int[] other : new int[][] {{0, 1}, {2, 1}, {-1, 1}, {1, 2}, {99, 98}}) {
                    int[][] steps = all.clone();
                    steps[letter] = new int[] {letter, other[0], other[1]};
                    Due.due("letter " + letter + " with " + other[0] + " / " + other[1], order(shape, steps), 0);
                }
            }
        }
    }

    private static void orderOne() {
        Due.sentence("Its ORDER: the greatest n (1: the LETTERS, and more behind them)");
        for (int[] shape : Due.SHAPES) {
            int[][] steps = new int[2 * shape[0]][];
            for (int letter = 0; letter < shape[0]; letter++) {
                steps[2 * letter] = new int[] {letter, 1, 3};
                steps[2 * letter + 1] = new int[] {letter, 2, 3};
            }
            Due.due("each letter in two steps", order(shape, steps), 1);
        }
    }

    private static void orderTwoAndTheDegree() {
        Due.sentence("Its ORDER: the greatest n up to DEGREE");
        for (int[] shape : Due.SHAPES) {
            int last = shape[0] - 1;
            int[][] steps = new int[2 * last + 1][];
            for (int letter = 0; letter < last; letter++) {
                steps[letter] = new int[] {letter, 1, 2};
                steps[2 * last - letter] = new int[] {letter, 1, 2};
            }
            steps[last] = new int[] {last, 1, 1};
            Due.due("the same both ways", order(shape, steps), 2);
        }
    }

    private static void orderThree() {
        Due.sentence("Its ORDER: the greatest n up to DEGREE");
        int[][] ruth = {{0, 7, 24}, {1, 2, 3}, {0, 3, 4}, {1, -2, 3}, {0, -1, 24}, {1, 1, 1}};
        Due.due("Ruth's, degree 2", order(new int[] {2, 2}, ruth), 2);
        Due.due("Ruth's, degree 3", order(new int[] {2, 3}, ruth), 3);
        Due.due("Ruth's, degree 4", order(new int[] {2, 4}, ruth), 3);
        Due.due("Ruth's, degree 6", order(new int[] {2, 6}, ruth), 3);
        Due.due("Ruth's, with c not there", order(new int[] {3, 3}, ruth), 0);
    }

    // ---- laws

    private static void fourLaws() {
        Due.sentence("LAWS are LIE SUMS, 4 at most; relate: its number; FULL");
        for (int[] shape : Due.SHAPES) {
            BracketLetters x = Due.object(shape[0], shape[1]);
            Due.set(x, 0, "1*ab -1*ba");
            for (int i = 0; i < 4; i++) {
                Due.due("relate", x.relate(0), i);
                Due.due("count(5)", x.count(5), i + 1);
            }
            int size = x.size(1);
            Due.set(x, 1, "1*a");
            Due.due("a fifth one", x.relate(1), Due.FULL);
            Due.due("count(5)", x.count(5), 4);
            Due.due("size(1)", x.size(1), size);
            Due.set(x, 2, "1*ab");
            Due.due("a fifth one that is not LIE", x.relate(2), Due.STATE);
            Due.due("a fifth one that is 0", x.relate(3), Due.STATE);
            Due.due("a fifth one that is not there", x.relate(8), Due.NONE);
        }
    }

    private static void lawsThatAreNone() {
        Due.sentence("relate: STATE: it is 0, not LIE, of unlike lengths");
        String[] none = {"", "1", "-1", "1*aa", "1*ab", "1*ab 1*ba", "1 1*a", "1*a 1*ab -1*ba", "1*b " + AAB, "1*ab -1*ba " + ABB,
            "1 " + ABB, "1*aab -2*aba", "1*bbb", "1*a 1*bb", AAB + " 1*bbb"};
        BracketLetters x = Due.object(2, 3);
        for (String sum : none) {
            Due.set(x, 0, sum);
            Due.due("relate of " + sum, x.relate(0), Due.STATE);
        }
        Due.due("count(5)", x.count(5), 0);
        Due.due("size(1)", x.size(1), 2);
        Due.due("size(3)", x.size(3), 2);
        Due.set(x, 0, AAB);
        Due.due("the first one that is", x.relate(0), 0);
    }

    private static void lawsOfEachLength() {
        Due.sentence("LAWS .. of WORDS of one length (1 to DEGREE)");
        for (int[] shape : Due.SHAPES) {
            for (int length = 1; length <= shape[1]; length++) {
                BracketLetters x = Due.object(shape[0], shape[1]);
                int i = 0;
                for (int n = 1; n < length; n++) {
                    i += x.lyndons(n);
                }
                x.basis(0, i);
                Due.due("relate of length " + length, x.relate(0), 0);
                for (int n = 1; n < length; n++) {
                    Due.due("size(" + n + ")", x.size(n), x.lyndons(n));
                }
                Due.due("size(" + length + ")", x.size(length), x.lyndons(length) - 1);
            }
        }
    }

    private static void lawsStay() {
        Due.sentence("relate: A SUM is a LAW more (as it was then)");
        BracketLetters x = Due.object(2, 3);
        Due.set(x, 0, "1*ab -1*ba");
        x.relate(0);
        Due.dueSum(x, 0, "1*ab -1*ba");
        x.clear(0);
        Due.due("size(2)", x.size(2), 0);
        Due.set(x, 0, "1*a");
        Due.due("size(1)", x.size(1), 2);
        Due.due("relate", x.relate(0), 1);
        Due.due("size(1)", x.size(1), 1);
    }

    // ---- sizes

    private static void dueSizes(BracketLetters x, int... sizes) {
        for (int n = 1; n <= x.count(1); n++) {
            Due.due("size(" + n + ")", x.size(n), sizes[n - 1]);
        }
    }

    private static void law(BracketLetters x, String sum) {
        Due.set(x, 5, sum);
        Due.holds("relate of " + sum, x.relate(5) >= 0);
    }

    /** A law told as a text, for long brackets. */
    private static void lawText(BracketLetters x, String text) {
        Due.due("read of " + text, Due.told(x, 5, text), 0);
        Due.holds("relate of " + text, x.relate(5) >= 0);
    }

    private static void sizesWithoutLaws() {
        Due.sentence("SIZE of a degree n: how many CHIEFS of length n there are (without LAWS)");
        for (int[] shape : Due.SHAPES) {
            BracketLetters x = Due.object(shape[0], shape[1]);
            for (int n = 1; n <= shape[1]; n++) {
                Due.due("size(" + n + ")", x.size(n), x.lyndons(n));
            }
        }
    }

    private static void sizesOfEachDegree() {
        Due.sentence("size: NONE (no such degree)");
        for (int[] shape : Due.SHAPES) {
            BracketLetters x = Due.object(shape[0], shape[1]);
            for (int law = 0; law < 2; law++) {
                Due.due("size(0)", x.size(0), Due.NONE);
                Due.due("size(-1)", x.size(-1), Due.NONE);
                Due.due("size(DEGREE + 1)", x.size(shape[1] + 1), Due.NONE);
                law(x, "1*ab -1*ba");
            }
        }
    }

    private static void sizesOfOneLaw() {
        Due.sentence("less how many independent SUMS there are among all that are made of LAWS by BRACKETS with LETTERS");
        BracketLetters x = Due.object(2, 6);
        law(x, "1*ab -1*ba");
        dueSizes(x, 2, 0, 0, 0, 0, 0);
        BracketLetters y = Due.object(2, 6);
        law(y, AAB);
        dueSizes(y, 2, 1, 1, 1, 2, 2);
        BracketLetters z = Due.object(3, 5);
        law(z, "1*ab -1*ba");
        // a, b of one kind that commute, c free with them: 1 / (1 - 3 t + t t)
        dueSizes(z, 3, 2, 5, 10, 24);
        BracketLetters v = Due.object(4, 4);
        law(v, "1*ab -1*ba -1*cd 1*dc");
        dueSizes(v, 4, 5, 16, 45);
    }

    private static void sizesOfLetters() {
        Due.sentence("SIZE with LAWS of length 1 (brackets of the other LETTERS are left)");
        String[] laws = {"1*a", "1*b", "1*a -1*b", "2*a 5/3*b"};
        for (String law : laws) {
            BracketLetters x = Due.object(2, 6);
            law(x, law);
            dueSizes(x, 1, 0, 0, 0, 0, 0);
            BracketLetters y = Due.object(3, 5);
            law(y, law);
            dueSizes(y, 2, 1, 2, 3, 6);
            BracketLetters z = Due.object(4, 4);
            law(z, law);
            dueSizes(z, 3, 3, 8, 18);
            law(z, "1*d -1*a");
            dueSizes(z, 2, 1, 2, 3);
        }
        BracketLetters x = Due.object(4, 4);
        law(x, "1*d");
        law(x, "1*c");
        dueSizes(x, 2, 1, 2, 3);
        law(x, "1*b");
        dueSizes(x, 1, 0, 0, 0);
        law(x, "1*a");
        dueSizes(x, 0, 0, 0, 0);
        BracketLetters y = Due.object(2, 3);
        law(y, "1*a 1*b");
        law(y, "1*a -1*b");
        dueSizes(y, 0, 0, 0);
    }

    private static void sizesOfProducts() {
        Due.sentence("SIZE with LAWS that make LETTERS commute");
        BracketLetters x = Due.object(3, 5);
        law(x, "1*ab -1*ba");
        law(x, "1*bc -1*cb");
        dueSizes(x, 3, 1, 2, 3, 6);
        law(x, "1*ac -1*ca");
        dueSizes(x, 3, 0, 0, 0, 0);
        BracketLetters y = Due.object(4, 4);
        law(y, "1*ac -1*ca");
        law(y, "1*ad -1*da");
        law(y, "1*bc -1*cb");
        law(y, "1*bd -1*db");
        dueSizes(y, 4, 2, 4, 6);
    }

    private static void sizesOfRoots() {
        Due.sentence("SIZE with LAWS of several lengths");
        BracketLetters x = Due.object(2, 6);
        lawText(x, "[a,[a,[a,[a,b]]]]");
        lawText(x, "[b,[b,a]]");
        dueSizes(x, 2, 1, 1, 1, 1, 0);
        BracketLetters y = Due.object(2, 6);
        lawText(y, "[b,[b,[b,a]]]");
        lawText(y, "[a,[a,b]]");
        dueSizes(y, 2, 1, 1, 0, 0, 0);
        BracketLetters z = Due.object(2, 6);
        law(z, ABB);
        law(z, AAB);
        dueSizes(z, 2, 1, 0, 0, 0, 0);
        BracketLetters v = Due.object(3, 5);
        lawText(v, "[a,c]");
        lawText(v, "[a,[a,b]]+[c,[c,b]]");
        lawText(v, "[b,[b,a]]");
        lawText(v, "[b,[b,c]]");
        BracketLetters u = Due.object(3, 5);
        lawText(u, "[b,[b,c]]");
        lawText(u, "[b,[b,a]]");
        lawText(u, "[c,[c,b]]+[a,[a,b]]");
        lawText(u, "[a,c]");
        dueSizes(v, u.size(1), u.size(2), u.size(3), u.size(4), u.size(5));
        Due.due("size(1)", v.size(1), 3);
        Due.due("size(2)", v.size(2), 2);
        Due.due("size(3)", v.size(3), 2);
    }

    private static void sizesInAnyOrder() {
        Due.sentence("SIZE: all LAWS together, however they come");
        BracketLetters x = Due.object(2, 5);
        lawText(x, "[a,[a,[a,[a,b]]]]");
        dueSizes(x, 2, 1, 2, 3, 5);
        lawText(x, "[a,[a,[a,b]]]");
        dueSizes(x, 2, 1, 2, 2, 4);
        law(x, AAB);
        dueSizes(x, 2, 1, 1, 1, 2);
        law(x, "1*ab -1*ba");
        dueSizes(x, 2, 0, 0, 0, 0);
        BracketLetters y = Due.object(2, 5);
        law(y, "1*ab -1*ba");
        law(y, AAB);
        dueSizes(y, 2, 0, 0, 0, 0);
        law(y, "1*b");
        dueSizes(y, 1, 0, 0, 0, 0);
    }

    private static void sizesOfDependentLaws() {
        Due.sentence("how many independent SUMS (modulo PRIME) there are");
        BracketLetters x = Due.object(2, 4);
        law(x, AAB);
        dueSizes(x, 2, 1, 1, 1);
        law(x, "-7/3*aab 14/3*aba -7/3*baa");
        dueSizes(x, 2, 1, 1, 1);
        law(x, AAB + " " + ABB);
        dueSizes(x, 2, 1, 0, 0);
        law(x, AAB + " -1*abb 2*bab -1*bba");
        dueSizes(x, 2, 1, 0, 0);
        Due.due("count(5)", x.count(5), 4);
    }
}
