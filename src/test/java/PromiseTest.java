/** For each promise its ordinary inputs, its edges and wrong inputs, with answers that were found by hand. */
public final class PromiseTest {
    private static final int NONE = BracketLetters.NONE, BAD = BracketLetters.BAD, STATE = BracketLetters.STATE;
    private static final int FULL = BracketLetters.FULL, NO = BracketLetters.NO, PRIME = 2147483647;
    private static final int[] NO_SUMS = {-1, 8, Integer.MIN_VALUE, Integer.MAX_VALUE};
    private static int wrong = 0;
    private static int promise = 0;

    public static void main(String[] args) {
        newObject();
        clearing();
        putting();
        fractions();
        adding();
        products();
        shuffling();
        turning();
        expsAndLogs();
        groups();
        deriving();
        replacing();
        parts();
        pairs();
        chiefs();
        sides();
        bases();
        texts();
        shares();
        lies();
        tables();
        steps();
        orders();
        laws();
        feeding();
        readingValues();
        readingFaults();
        readingRefused();
        counts();
        System.out.println(wrong == 0 ? "all promises hold" : wrong + " answers are not as promised");
        if (wrong != 0) {
            System.exit(1);
        }
    }

    private static void due(String call, int got, int want) {
        if (got != want) {
            wrong++;
            System.out.println("promise " + promise + ": " + call + " answered " + got + ", due is " + want);
        }
    }

    private static int w(String word) {
        int so = 0;
        for (char letter : word.toCharArray()) {
            so = so * 8 + letter - 'a' + 1;
        }
        return so;
    }

    private static void feed(BracketLetters x, String text) {
        for (char sign : text.toCharArray()) {
            x.feed(sign, 1);
        }
    }

    private static int told(BracketLetters x, int to, String text) {
        feed(x, text);
        return x.read(to);
    }

    /** The number at a word as a fraction, by its whole and its divisor. */
    private static void dueAt(BracketLetters x, int r, String word, int up, int down) {
        int number = x.at(r, w(word));
        due("at " + word + " of sum " + r + ": over", x.fraction(number, 0), up);
        due("at " + word + " of sum " + r + ": under", x.fraction(number, 1), down);
    }

    private static void dueShare(BracketLetters x, int r, String word, int up, int down) {
        int number = x.share(r, w(word));
        due("share of " + word + " in " + r + ": over", x.fraction(number, 0), up);
        due("share of " + word + " in " + r + ": under", x.fraction(number, 1), down);
    }

    /** Two sums are the same, as texts tell them. */
    private static void dueSame(BracketLetters x, int r, String text) {
        int to = r == 7 ? 6 : 7;
        due("read " + text, told(x, to, text), 0);
        due("add", x.add(to, r, -1, 1), 0);
        due("sum " + r + " is not " + text, x.pair(to, to) == 0 && isNought(x, to) ? 1 : 0, 1);
    }

    private static boolean isNought(BracketLetters x, int r) {
        for (String word : Due.words(x.count(0), x.count(1))) {
            if (x.at(r, Due.w(word)) != 0) {
                return false;
            }
        }
        return true;
    }

    private static void newObject() {
        promise = 1;
        int[][] cases = {{0, 0, 2, 2}, {0, 4, 2, 6}, {0, 5, 2, 2}, {1, 3, 3, 5}, {1, 4, 3, 2}, {2, 2, 4, 4}, {2, 3, 4, 2},
            {3, 1, 2, 3}, {-1, -1, 4, 4}, {-2, -1, 3, 5}, {-3, -1, 2, 6}, {-3, -5, 2, 2},
            {Integer.MIN_VALUE, Integer.MIN_VALUE, 3, 2}, {Integer.MAX_VALUE, Integer.MAX_VALUE, 3, 5}};
        for (int[] one : cases) {
            BracketLetters x = new BracketLetters(one[0], one[1]);
            due("letters of (" + one[0] + ", " + one[1] + ")", x.count(0), one[2]);
            due("degree of (" + one[0] + ", " + one[1] + ")", x.count(1), one[3]);
            for (int r = 0; r < 8; r++) {
                due("a new sum is 0", isNought(x, r) ? 1 : 0, 1);
            }
            due("steps", x.count(4), 0);
            due("laws", x.count(5), 0);
            due("bytes", x.count(6), 0);
        }
    }

    private static void clearing() {
        promise = 2;
        BracketLetters x = new BracketLetters(0, 1);
        x.put(7, w("aba"), 3, 1);
        x.put(6, w("aba"), 3, 1);
        for (int r : NO_SUMS) {
            due("clear(" + r + ")", x.clear(r), NONE);
        }
        due("clear(7)", x.clear(7), 0);
        due("it is 0", x.at(7, w("aba")), 0);
        due("the other one isn't", x.at(6, w("aba")), 3);
    }

    private static void putting() {
        promise = 3;
        BracketLetters x = new BracketLetters(0, 1);
        due("put", x.put(0, w("ab"), 1, 2), 0);
        dueAt(x, 0, "ab", 1, 2);
        due("put", x.put(0, 0, -9999, 9999), 0);
        due("minus 1", x.at(0, 0), PRIME - 1);
        due("put", x.put(0, w("bbb"), 0, 7), 0);
        due("0", x.at(0, w("bbb")), 0);
        due("put", x.put(7, w("b"), 9999, 1), 0);
        due("9999", x.at(7, w("b")), 9999);
        int[][] bad = {{10000, 1}, {-10000, 1}, {1, 0}, {1, -1}, {1, 10000}, {Integer.MIN_VALUE, 1}, {1, Integer.MIN_VALUE}};
        for (int[] one : bad) {
            due("put " + one[0] + " / " + one[1], x.put(0, w("a"), one[0], one[1]), BAD);
        }
        due("nothing changed", x.at(0, w("a")), 0);
        promise = 4;
        int[] noWords = {-1, 3, 8, 7, 64, 65 * 8, 24, w("aaaa"), w("bbbb"), w("aca"), Integer.MAX_VALUE, Integer.MIN_VALUE};
        for (int word : noWords) {
            due("at(0, " + word + ")", x.at(0, word), NONE);
            due("share(0, " + word + ")", x.share(0, word), NONE);
            due("put, NONE goes ahead of BAD, " + word, x.put(0, word, 10000, 0), NONE);
        }
        for (int r : NO_SUMS) {
            due("at(" + r + ", 0)", x.at(r, 0), NONE);
            due("put(" + r + ")", x.put(r, 0, 10000, 0), NONE);
        }
        BracketLetters y = new BracketLetters(2, 2);
        due("dddd is a word", y.put(0, w("dddd"), 2, 1), 0);
        due("dddd", y.at(0, w("dddd")), 2);
        due("e is none", y.at(0, 5), NONE);
    }

    private static void fractions() {
        promise = 5;
        BracketLetters x = new BracketLetters(0, 0);
        int[][] cases = {{0, 0, 1}, {1, 1, 1}, {PRIME - 1, -1, 1}, {1000000, 1000000, 1}, {PRIME - 1000000, -1000000, 1},
            {1073741824, 1, 2}, {1431655765, 1, 3}, {715827882, -1, 3}};
        for (int[] one : cases) {
            due("p of " + one[0], x.fraction(one[0], 0), one[1]);
            due("q of " + one[0], x.fraction(one[0], 1), one[2]);
        }
        due("below 0", x.fraction(-1, 0), NO);
        due("below 0", x.fraction(Integer.MIN_VALUE, 1), NO);
        due("PRIME", x.fraction(PRIME, 1), NO);
        due("what", x.fraction(1, 2), NO);
        due("what", x.fraction(1, -1), NO);
        x.put(0, 0, 1, 1000);
        due("1 / 1000", x.fraction(x.at(0, 0), 1), 1000);
        int found = 0;
        for (int number = 1234567; number < 2000000000; number += 9876543) {
            if (x.fraction(number, 0) == NO) {
                found++;
                due("no p, no q", x.fraction(number, 1), NO);
            }
        }
        due("some have none", found > 0 ? 1 : 0, 1);
    }

    private static void adding() {
        promise = 6;
        BracketLetters x = new BracketLetters(0, 2);
        told(x, 0, "2+3ab");
        told(x, 1, "ab-bbbb");
        due("add", x.add(0, 1, -3, 2), 0);
        dueSame(x, 0, "2+3ab/2+3bbbb/2");
        due("add to itself", x.add(0, 0, -1, 1), 0);
        due("0", isNought(x, 0) ? 1 : 0, 1);
        for (int r : NO_SUMS) {
            due("add", x.add(r, 0, 1, 0), NONE);
            due("add", x.add(0, r, 10000, 1), NONE);
        }
        due("add", x.add(1, 1, 10000, 1), BAD);
        due("add", x.add(1, 1, -10000, 1), BAD);
        due("add", x.add(1, 1, 1, 0), BAD);
        due("add", x.add(1, 1, 1, 10000), BAD);
        dueSame(x, 1, "ab-bbbb");
    }

    private static void products() {
        BracketLetters x = new BracketLetters(0, 1);
        told(x, 0, "2+a+ab");
        told(x, 1, "3+b-bb");
        promise = 7;
        due("times", x.times(2, 0, 1), 0);
        dueSame(x, 2, "6+2b-2bb+3a+ab-abb+3ab+abb");
        due("times to itself", x.times(0, 0, 0), 0);
        dueSame(x, 0, "4+4a+4ab+aa+aab+aba");
        promise = 8;
        told(x, 0, "a+aab");
        told(x, 1, "5+b+aa");
        due("bracket", x.bracket(1, 0, 1), 0);
        dueSame(x, 1, "ab-ba");
        due("with itself", x.bracket(0, 0, 0), 0);
        due("0", isNought(x, 0) ? 1 : 0, 1);
        for (int r : NO_SUMS) {
            promise = 7;
            due("times", x.times(r, 0, 0), NONE);
            due("times", x.times(0, r, 0), NONE);
            due("times", x.times(0, 0, r), NONE);
            promise = 8;
            due("bracket", x.bracket(r, 0, 0), NONE);
            due("bracket", x.bracket(0, r, 0), NONE);
            due("bracket", x.bracket(0, 0, r), NONE);
        }
    }

    private static void shuffling() {
        promise = 9;
        BracketLetters x = new BracketLetters(1, 2);
        told(x, 0, "ab");
        told(x, 1, "ac");
        due("shuffle", x.shuffle(2, 0, 1), 0);
        dueSame(x, 2, "abac+2aabc+2aacb+acab");
        told(x, 0, "2+a");
        due("shuffle of itself", x.shuffle(0, 0, 0), 0);
        dueSame(x, 0, "4+4a+2aa");
        told(x, 0, "aaa");
        told(x, 1, "aa");
        due("too long", x.shuffle(0, 0, 1), 0);
        due("0", isNought(x, 0) ? 1 : 0, 1);
        told(x, 0, "aaa");
        told(x, 1, "a");
        x.shuffle(0, 0, 1);
        due("aaaa in 4 ways", x.at(0, w("aaaa")), 4);
        for (int r : NO_SUMS) {
            due("shuffle", x.shuffle(r, 0, 0), NONE);
            due("shuffle", x.shuffle(0, r, 0), NONE);
            due("shuffle", x.shuffle(0, 0, r), NONE);
        }
    }

    private static void turning() {
        promise = 10;
        BracketLetters x = new BracketLetters(1, 2);
        told(x, 0, "5+a+2abb+3abcc+ac");
        due("turn", x.turn(0, 0), 0);
        dueSame(x, 0, "5-a-2bba+3ccba+ca");
        for (int r : NO_SUMS) {
            due("turn", x.turn(r, 0), NONE);
            due("turn", x.turn(0, r), NONE);
        }
    }

    private static void expsAndLogs() {
        BracketLetters x = new BracketLetters(0, 2);
        told(x, 0, "a+bb");
        promise = 11;
        due("exp", x.exp(1, 0), 0);
        dueSame(x, 1, "1+a+bb+aa/2+abb/2+bba/2+bbbb/2+aaa/6+aabb/6+abba/6+bbaa/6+aaaa/24");
        due("exp of 0", x.exp(3, 3), 0);
        dueSame(x, 3, "1");
        due("exp of 1", x.exp(4, 3), STATE);
        due("nothing changed", isNought(x, 4) ? 1 : 0, 1);
        promise = 12;
        told(x, 0, "1+a+bb");
        due("log", x.log(2, 0), 0);
        dueSame(x, 2, "a+bb-aa/2-abb/2-bba/2-bbbb/2+aaa/3+aabb/3+abba/3+bbaa/3-aaaa/4");
        due("log to itself", x.log(1, 1), 0);
        dueSame(x, 1, "a+bb");
        due("log of a sum without 1", x.log(1, 1), STATE);
        told(x, 3, "2+a");
        due("log of one with 2", x.log(1, 3), STATE);
        dueSame(x, 1, "a+bb");
        promise = 13;
        due("inverse", x.inverse(2, 0), 0);
        dueSame(x, 2, "1-a-bb+aa+abb+bba+bbbb-aaa-aabb-abba-bbaa+aaaa");
        due("inverse of one with 2", x.inverse(2, 3), STATE);
        due("inverse of one with 0", x.inverse(2, 1), STATE);
        due("inverse to itself", x.inverse(0, 0), 0);
        x.times(2, 0, 2);
        dueSame(x, 0, "1-a-bb+aa+abb+bba+bbbb-aaa-aabb-abba-bbaa+aaaa");
        for (int r : NO_SUMS) {
            due("exp", x.exp(r, 0), NONE);
            due("exp", x.exp(0, r), NONE);
            due("log", x.log(r, 1), NONE);
            due("log", x.log(0, r), NONE);
            due("inverse", x.inverse(r, 1), NONE);
            due("inverse", x.inverse(0, r), NONE);
        }
    }

    private static void groups() {
        promise = 14;
        BracketLetters x = new BracketLetters(0, 2);
        told(x, 0, "a");
        told(x, 1, "b");
        due("group", x.group(2, 0, 1), 0);
        dueSame(x, 2, "a+b+[a,b]/2+[a,[a,b]]/12-[b,[a,b]]/12-[b,[a,[a,b]]]/24");
        due("group to itself", x.group(0, 0, 0), 0);
        dueSame(x, 0, "2a");
        told(x, 3, "1");
        due("group", x.group(0, 3, 0), STATE);
        due("group", x.group(0, 0, 3), STATE);
        dueSame(x, 0, "2a");
        for (int r : NO_SUMS) {
            due("group", x.group(r, 3, 3), NONE);
            due("group", x.group(3, r, 3), NONE);
            due("group", x.group(3, 3, r), NONE);
        }
    }

    private static void deriving() {
        promise = 15;
        BracketLetters x = new BracketLetters(0, 1);
        told(x, 0, "7+a+aba+bb");
        told(x, 1, "2+b+ab");
        due("derive", x.derive(2, 0, 0, 1), 0);
        dueSame(x, 2, "2+b+ab+2ba+2ab+bba+abb");
        due("derive by itself", x.derive(0, 0, 1, 0), 0);
        // ba and ab of aba without b: aa with 7; bb: 7 b twice, and b a, a b
        dueSame(x, 0, "7aa+aaa+14b+ab+ba+baba+abab+bbb+bbb");
        for (int r : NO_SUMS) {
            due("derive", x.derive(r, 0, 0, 0), NONE);
            due("derive", x.derive(0, r, 0, 0), NONE);
            due("derive", x.derive(0, 0, 0, r), NONE);
        }
        due("derive", x.derive(0, 0, 2, 0), NONE);
        due("derive", x.derive(0, 0, -1, 0), NONE);
    }

    private static void replacing() {
        promise = 16;
        BracketLetters x = new BracketLetters(0, 1);
        told(x, 0, "7+a+aba+bb+aa");
        told(x, 1, "b+ab");
        due("replace", x.replace(2, 0, 0, 1), 0);
        dueSame(x, 2, "7+b+ab+bbb+bb+bb+abb+bab");
        due("replace by itself", x.replace(1, 1, 1, 1), 0);
        dueSame(x, 1, "b+ab+ab+aab");
        told(x, 3, "1+a");
        due("replace", x.replace(2, 0, 0, 3), STATE);
        dueSame(x, 2, "7+b+ab+bbb+bb+bb+abb+bab");
        for (int r : NO_SUMS) {
            due("replace", x.replace(r, 0, 0, 3), NONE);
            due("replace", x.replace(0, r, 0, 3), NONE);
            due("replace", x.replace(0, 0, 0, r), NONE);
        }
        due("replace, NONE ahead of STATE", x.replace(0, 0, 2, 3), NONE);
        due("replace", x.replace(0, 0, -1, 3), NONE);
    }

    private static void parts() {
        promise = 17;
        BracketLetters x = new BracketLetters(2, 1);
        told(x, 0, "7+a+dc+bcd");
        String[] due = {"7", "a", "dc", "bcd"};
        for (int n = 0; n <= 3; n++) {
            due("part", x.part(1, 0, n), 0);
            dueSame(x, 1, due[n]);
        }
        due("part", x.part(0, 0, 4), NONE);
        due("part", x.part(0, 0, -1), NONE);
        due("part of itself", x.part(0, 0, 2), 0);
        dueSame(x, 0, "dc");
        for (int r : NO_SUMS) {
            due("part", x.part(r, 0, 1), NONE);
            due("part", x.part(0, r, 1), NONE);
        }
    }

    private static void pairs() {
        promise = 18;
        BracketLetters x = new BracketLetters(0, 2);
        told(x, 0, "2+3a+5abab");
        told(x, 1, "7-a+b+2abab");
        due("pair", x.pair(0, 1), 14 - 3 + 10);
        told(x, 1, "0-a");
        due("pair", x.pair(0, 1), PRIME - 3);
        for (int r : NO_SUMS) {
            due("pair", x.pair(r, 0), NONE);
            due("pair", x.pair(0, r), NONE);
        }
    }

    private static void chiefs() {
        promise = 19;
        BracketLetters x = new BracketLetters(0, 3);
        String[] due = {"a", "b", "ab", "aab", "abb", "aaab", "aabb", "abbb", "aaaab", "aaabb", "aabab", "aabbb", "ababb", "abbbb"};
        for (int i = 0; i < due.length; i++) {
            due("lyndon(" + i + ")", x.lyndon(i), w(due[i]));
        }
        due("lyndon", x.lyndon(due.length), NONE);
        due("lyndon", x.lyndon(-1), NONE);
        due("lyndon", x.lyndon(Integer.MAX_VALUE), NONE);
        promise = 20;
        int[][] many = {{2, 1, 2, 3, 6, 9}, {3, 3, 8, 18, 48}, {4, 6, 20, 60}};
        for (int letters = 0; letters < 3; letters++) {
            BracketLetters y = new BracketLetters(letters, 4 - letters);
            for (int n = 1; n <= many[letters].length; n++) {
                due("lyndons(" + n + ")", y.lyndons(n), many[letters][n - 1]);
            }
            due("lyndons(0)", y.lyndons(0), NONE);
            due("lyndons(-1)", y.lyndons(-1), NONE);
            due("lyndons beyond", y.lyndons(many[letters].length + 1), NONE);
        }
    }

    private static void sides() {
        promise = 21;
        BracketLetters x = new BracketLetters(0, 3);
        int[][] due = {{2, 0, 1}, {3, 0, 2}, {4, 2, 1}, {5, 0, 3}, {6, 0, 4}, {7, 4, 1}, {10, 3, 2}, {12, 2, 4}, {13, 7, 1}};
        for (int[] one : due) {
            due("left of " + one[0], x.side(one[0], 0), one[1]);
            due("right of " + one[0], x.side(one[0], 1), one[2]);
        }
        due("side", x.side(0, 0), NONE);
        due("side", x.side(1, 1), NONE);
        due("side", x.side(2, 2), NONE);
        due("side", x.side(2, -1), NONE);
        due("side", x.side(-1, 0), NONE);
        due("side", x.side(14, 0), NONE);
    }

    private static void bases() {
        promise = 22;
        BracketLetters x = new BracketLetters(0, 3);
        String[] due = {"a", "b", "ab-ba", "aab-2aba+baa", "abb-2bab+bba"};
        for (int i = 0; i < due.length; i++) {
            due("basis", x.basis(5, i), 0);
            dueSame(x, 5, due[i]);
        }
        due("basis", x.basis(5, 10), 0);
        dueSame(x, 5, "[[a,[a,b]],[a,b]]");
        due("basis", x.basis(5, 14), NONE);
        due("basis", x.basis(5, -1), NONE);
        for (int r : NO_SUMS) {
            due("basis", x.basis(r, 0), NONE);
        }
    }

    private static void texts() {
        promise = 23;
        BracketLetters x = new BracketLetters(0, 3);
        dueText(x, 0, "a");
        dueText(x, 1, "b");
        dueText(x, 2, "[a,b]");
        dueText(x, 10, "[[a,[a,b]],[a,b]]");
        dueText(x, 12, "[[a,b],[[a,b],b]]");
        dueText(x, 13, "[[[[a,b],b],b],b]");
        due("text", x.text(14, 0), NONE);
        due("text", x.text(-1, 0), NONE);
        dueText(new BracketLetters(2, 0), 3, "d");
        dueText(new BracketLetters(2, 0), 9, "[c,d]");
        for (int i = 0; i < 14; i++) {
            x.basis(1, i);
            StringBuilder text = new StringBuilder();
            for (int k = 0; x.text(i, k) != NONE; k++) {
                text.append((char) x.text(i, k));
            }
            dueSame(x, 1, text.toString());
        }
    }

    private static void dueText(BracketLetters x, int i, String written) {
        for (int k = 0; k < written.length(); k++) {
            due("text(" + i + ", " + k + ")", x.text(i, k), written.charAt(k));
        }
        due("text behind its end", x.text(i, written.length()), NONE);
        due("text ahead", x.text(i, -1), NONE);
        due("text far behind", x.text(i, Integer.MAX_VALUE), NONE);
        due("text far ahead", x.text(i, Integer.MIN_VALUE), NONE);
    }

    private static void shares() {
        promise = 24;
        BracketLetters x = new BracketLetters(0, 2);
        told(x, 0, "ab");
        // ab = [a,b] + b a
        due("share of ab", x.share(0, w("ab")), 1);
        due("share of ba", x.share(0, w("ba")), 1);
        due("share of aa", x.share(0, w("aa")), 0);
        told(x, 0, "5+ba/3");
        due("share of the empty word", x.share(0, 0), 5);
        dueShare(x, 0, "ba", 1, 3);
        due("share of ab", x.share(0, w("ab")), 0);
        told(x, 0, "2[a,b][a,b]+3ba[a,b]-b[a,b]a/2+7aa");
        due("share of abab", x.share(0, w("abab")), 2);
        dueShare(x, 0, "aa", 7, 1);
        // b [a,b] a stands in order; b a [a,b] = b [a,b] a + b [a,[a,b]]
        dueShare(x, 0, "baba", 5, 2);
        dueShare(x, 0, "baab", 3, 1);
        for (int r : NO_SUMS) {
            due("share", x.share(r, 0), NONE);
        }
        due("share", x.share(0, -1), NONE);
        due("share", x.share(0, 8), NONE);
        due("share", x.share(0, w("aaaaa")), NONE);
        sharesMakeTheSum();
    }

    /** The shares of b [a,b] a: its word is the chiefs b, ab, a. */
    private static void sharesMakeTheSum() {
        BracketLetters x = new BracketLetters(0, 2);
        told(x, 0, "b[a,b]a");
        int[] words = {w("baba"), w("baab"), w("abab"), w("bbaa"), w("aabb"), w("abba")};
        for (int word : words) {
            due("share of " + word, x.share(0, word), word == w("baba") ? 1 : 0);
        }
    }

    private static void lies() {
        promise = 25;
        BracketLetters x = new BracketLetters(0, 4);
        String[] yes = {"0", "a", "a-3b/7", "[a,b]", "[a,[a,[b,[a,b]]]]-[b,a]/3+b", "L(E(a)E(b)E(a/2))", "[[a,b],[a,[a,[a,b]]]]"};
        String[] not = {"1", "ab", "aa", "1+a", "a+ab", "[a,b]+abab", "aaaaaa", "E(a)", "[a,b][a,b]", "ab+ba", "a[a,b]"};
        for (String one : yes) {
            told(x, 0, one);
            due("lie of " + one, x.lie(0), 1);
        }
        for (String one : not) {
            told(x, 0, one);
            due("lie of " + one, x.lie(0), 0);
        }
        for (int r : NO_SUMS) {
            due("lie", x.lie(r), NONE);
        }
    }

    private static void tables() {
        promise = 26;
        BracketLetters x = new BracketLetters(0, 3);
        due("[a,b]", x.table(0, 1, 2), 1);
        due("[b,a]", x.table(1, 0, 2), -1);
        due("[a,a]", x.table(0, 0, 2), 0);
        due("[a,[a,b]]", x.table(0, 2, 3), 1);
        due("[b,[a,b]]", x.table(1, 2, 4), -1);
        // [a,[[a,b],b]] is aabb's bracket, [[a,[a,b]],b] the same (Jacobi)
        due("[aab,b]", x.table(3, 1, 6), 1);
        due("[a,abb]", x.table(0, 4, 6), 1);
        // [aabb,a]
        due("[aabb,a]", x.table(6, 0, 9), -1);
        // [aaab,b] = [[a,aab],b] = [a,[aab,b]] + [[a,b],aab] = aaabb - aabab
        due("[aaab,b] aaabb", x.table(5, 1, 9), 1);
        due("[aaab,b] aabab", x.table(5, 1, 10), -1);
        due("of another length", x.table(0, 1, 3), 0);
        due("too long", x.table(5, 3, 13), 0);
        due("too long", x.table(13, 13, 0), 0);
        due("no chief", x.table(14, 0, 0), NO);
        due("no chief", x.table(0, -1, 0), NO);
        due("no chief", x.table(0, 0, 14), NO);
    }

    private static void steps() {
        BracketLetters x = new BracketLetters(0, 2);
        promise = 27;
        due("step", x.step(2, 100, 1), NONE);
        due("step", x.step(-1, 1, 1), NONE);
        due("step", x.step(0, 100, 1), BAD);
        due("step", x.step(0, -100, 1), BAD);
        due("step", x.step(0, 1, 0), BAD);
        due("step", x.step(0, 1, 100), BAD);
        for (int i = 1; i <= 12; i++) {
            due("step", x.step(i % 2, i % 3 == 0 ? -99 : 99, 99), i);
        }
        due("step", x.step(0, 1, 1), FULL);
        due("step, BAD ahead of FULL", x.step(0, 1, 0), BAD);
        due("step, NONE ahead of BAD", x.step(2, 1, 0), NONE);
        due("count(4)", x.count(4), 12);
        promise = 29;
        due("scheme", x.scheme(3), 0);
        dueSame(x, 3, "L(E(b)E(a)E(0-b)E(a)E(b)E(0-a)E(b)E(a)E(0-b)E(a)E(b)E(0-a))");
        promise = 28;
        due("unstep", x.unstep(), 12);
        due("unstep", x.unstep(), 0);
        due("step", x.step(0, 1, 3), 1);
        promise = 29;
        due("scheme", x.scheme(3), 0);
        dueSame(x, 3, "a/3");
        x.unstep();
        due("scheme of no steps", x.scheme(3), 0);
        due("0", isNought(x, 3) ? 1 : 0, 1);
        for (int r : NO_SUMS) {
            due("scheme", x.scheme(r), NONE);
        }
    }

    private static void orders() {
        promise = 30;
        BracketLetters x = new BracketLetters(0, 2);
        due("no steps", x.order(), 0);
        x.step(0, 1, 1);
        due("a alone", x.order(), 0);
        x.step(1, 1, 1);
        due("a, b", x.order(), 1);
        x.unstep();
        x.step(0, 1, 2);
        x.step(1, 1, 1);
        x.step(0, 1, 2);
        due("half a, b, half a", x.order(), 2);
        x.unstep();
        // Ruth's scheme of order 3
        int[][] ruth = {{0, 7, 24}, {1, 2, 3}, {0, 3, 4}, {1, -2, 3}, {0, -1, 24}, {1, 1, 1}};
        for (int[] one : ruth) {
            x.step(one[0], one[1], one[2]);
        }
        due("Ruth's", x.order(), 3);
        BracketLetters y = new BracketLetters(0, 1);
        for (int[] one : ruth) {
            y.step(one[0], one[1], one[2]);
        }
        due("up to DEGREE", y.order(), 3);
        BracketLetters z = new BracketLetters(1, 0);
        z.step(0, 1, 2);
        z.step(1, 1, 2);
        z.step(2, 1, 1);
        z.step(1, 1, 2);
        due("a is too little", z.order(), 0);
        z.step(0, 1, 2);
        due("three letters", z.order(), 2);
        due("steps stay", z.count(4), 5);
    }

    private static void laws() {
        promise = 31;
        BracketLetters x = new BracketLetters(0, 4);
        due("0", x.relate(0), STATE);
        String[] none = {"ab", "1", "a+[a,b]", "[a,b]+[a,[a,b]]", "aa"};
        for (String one : none) {
            told(x, 0, one);
            due("relate " + one, x.relate(0), STATE);
        }
        for (int r : NO_SUMS) {
            due("relate", x.relate(r), NONE);
        }
        due("laws", x.count(5), 0);
        promise = 32;
        int[] free = {NONE, 2, 1, 2, 3, 6, 9, NONE};
        for (int n = 0; n <= 7; n++) {
            due("size(" + n + ") without laws", x.size(n), free[n]);
        }
        // Serre's laws of A2 leave 2 and 1 brackets, of B2 one more
        told(x, 0, "[a,[a,[a,b]]]");
        due("relate", x.relate(0), 0);
        x.clear(0);
        told(x, 0, "[b,[b,a]]");
        due("relate", x.relate(0), 1);
        int[] left = {NONE, 2, 1, 1, 0, 0, 0, NONE};
        for (int n = 0; n <= 7; n++) {
            due("size(" + n + ") of B2", x.size(n), left[n]);
        }
        promise = 31;
        due("a law again", x.relate(0), 2);
        told(x, 0, "a-b");
        due("relate", x.relate(0), 3);
        due("count(5)", x.count(5), 4);
        due("relate", x.relate(0), FULL);
        told(x, 0, "1");
        due("STATE ahead of FULL", x.relate(0), STATE);
        due("NONE ahead", x.relate(8), NONE);
        promise = 32;
        due("size(1)", x.size(1), 1);
        due("size(2)", x.size(2), 0);
        due("size", x.size(-1), NONE);
        BracketLetters y = new BracketLetters(2, 2);
        told(y, 0, "[a,b]-[c,d]");
        due("relate", y.relate(0), 0);
        // a surface of genus 2: 1 / (1 - 4 t + t t)
        int[] surface = {4, 5, 16, 45};
        for (int n = 1; n <= 4; n++) {
            due("size(" + n + ") of a surface", y.size(n), surface[n - 1]);
        }
    }

    private static void feeding() {
        promise = 33;
        BracketLetters x = new BracketLetters(0, 2);
        due("feed", x.feed(97, 0), BAD);
        due("feed", x.feed(97, 9), BAD);
        due("feed", x.feed(97, -1), BAD);
        due("feed", x.feed(97, Integer.MIN_VALUE), BAD);
        due("feed", x.feed(0x7777612B62L, 3), 3);
        due("the n lowest, the highest first", x.read(0), 0);
        dueSame(x, 0, "a+b");
        due("feed", x.feed(0x612B622B612B6262L, 8), 8);
        due("read", x.read(0), 0);
        dueSame(x, 0, "2a+b+bb");
        due("feed", x.feed(-1L, 1), 1);
        due("byte 255", x.read(0), -10);
        for (int i = 1; i <= 12; i++) {
            due("feed", x.feed(0x6161616161616161L, 8), 8 * i);
        }
        due("feed", x.feed(0x6161616161L, 5), FULL);
        due("feed, BAD ahead of FULL", x.feed(0, 9), BAD);
        due("feed", x.feed(0x2B616161L, 4), 100);
        due("feed", x.feed(97, 1), FULL);
        due("count(6)", x.count(6), 100);
        due("read", x.read(0), 0);
        dueSame(x, 0, "aaa");
        String[] full = {"a", "1", "0", "r0", "a+", "(a)2"};
        for (String one : full) {
            String text = one.repeat(100 / one.length());
            due("a full tape of " + one, told(x, 1, text), one.equals("a+") ? -110 : 0);
        }
    }

    private static void readingValues() {
        promise = 34;
        BracketLetters x = new BracketLetters(0, 3);
        told(x, 1, "a+2b");
        String[][] same = {{"12345a", "6170a"}, {"1234567", "1234(567)"}, {"0", "a-a"}, {"00005", "0"}, {"007a", "7a"},
            {"a2b3", "6ab"}, {"ab/2", "(ab)/2"}, {"a+b/2", "a+(b/2)"}, {"a-b-a", "0-b"},
            {"[a,b]", "ab-ba"}, {"[a+b,b]a", "aba-baa"}, {"E(a)", "1+a+aa/2+aaa/6+aaaa/24+aaaaa/120"}, {"E(0)", "1"},
            {"L(1)", "0"}, {"r1r1", "aa+2ab+2ba+4bb"}, {"r0", "0"}, {"(((((a)))))", "a"}, {"[[[[[a,b],b],b],b],b]", "0"},
            {"((((a))))(a)(((((b)))))", "aab"}, {"E(L(1+a))", "1+a"}, {"a/9999", "(1a)/9999"}, {"aaaaaa", "0"}, {"(a+b)(a-b)", "aa-ab+ba-bb"}};
        for (String[] one : same) {
            due("read " + one[0], told(x, 2, one[0]), 0);
            dueSame(x, 2, one[1]);
        }
        due("itself", told(x, 1, "r1r1+1"), 0);
        dueSame(x, 1, "1+aa+2ab+2ba+4bb");
        BracketLetters y = new BracketLetters(2, 0);
        due("four letters", told(y, 3, "abcd+cd"), 0);
        dueSame(y, 3, "cd");
    }

    private static void readingFaults() {
        promise = 34;
        BracketLetters x = new BracketLetters(0, 3);
        told(x, 0, "ab");
        Object[][] faults = {{"", 0}, {"c", 0}, {"+a", 0}, {"-a", 0}, {"a+", 2}, {"a+-b", 2}, {"a b", 1}, {"a/", 2},
            {"a/0", 2}, {"a/01", 2}, {"a/b", 2}, {"a/12345", 6}, {"a/2b", 3}, {"a/2(b)", 3}, {"a/2/2", 3}, {"/2", 0},
            {"r", 1}, {"r8", 1}, {"ra", 1}, {"()", 1}, {"(a", 2}, {"(a]", 2}, {"(a,", 2}, {")", 0}, {"a)", 1}, {"a,", 1},
            {"[a,b", 4}, {"[a,b)", 4}, {"[a,b,a]", 4}, {"[a]", 2}, {"[a)", 2}, {"[,a]", 1}, {"[a,]", 3}, {"[]", 1}, {"a]", 1},
            {"E", 1}, {"Ea", 1}, {"E[a,b]", 1}, {"E()", 2}, {"E(a", 3}, {"L", 1}, {"L1", 1}, {"EE(a)", 1}, {"R0", 0}, {"A", 0},
            {"((((((a", 5}, {"[[[[[[a", 5}, {"[(E([([a", 6}, {"((((((", 5}, {"(((((E(a", 6}, {"[a,((((([", 7}, {"E(1)+", 5},
            {"L(a)c", 4}, {"E(1", 3}, {"[a,b]/b", 6}, {"a*b", 1}, {"1234/", 5}, {"(a)(b)c", 6}, {"a/2+", 4}, {"a/1+b/0", 6}};
        for (Object[] one : faults) {
            String text = (String) one[0];
            int fault = (Integer) one[1];
            feed(x, text);
            due("read " + text, x.read(0), -10 - fault);
            due("the tape is empty behind " + text, x.count(6), 0);
        }
        x.feed(0x0061, 2);
        due("byte 0", x.read(0), -10);
        x.feed(0x61E1, 2);
        due("byte 225", x.read(0), -11);
        dueSame(x, 0, "ab");
    }

    private static void readingRefused() {
        promise = 34;
        BracketLetters x = new BracketLetters(0, 3);
        told(x, 0, "ab");
        String[] lacking = {"E(1)", "E(a-3)", "L(a)", "L(0)", "L(2)", "a+[b,E(1+a)]", "0E(1)", "E(E(a))", "L(L(1+a))", "aaaaaaL(b)"};
        for (String one : lacking) {
            due("read " + one, told(x, 0, one), -9);
            due("the tape is empty behind " + one, x.count(6), 0);
        }
        dueSame(x, 0, "ab");
        feed(x, "a");
        for (int r : NO_SUMS) {
            due("read", x.read(r), NONE);
        }
        due("the tape stays", x.count(6), 1);
        feed(x, "b");
        due("read", x.read(1), 0);
        dueSame(x, 1, "ab");
    }

    private static void counts() {
        promise = 35;
        BracketLetters x = new BracketLetters(1, 2);
        int[] due = {3, 4, 121, 32, 0, 0, 0};
        for (int what = 0; what < 7; what++) {
            due("count(" + what + ")", x.count(what), due[what]);
        }
        x.step(0, 1, 1);
        x.put(0, w("c"), 1, 1);
        x.relate(0);
        x.relate(0);
        feed(x, "abc");
        due("count(4)", x.count(4), 1);
        due("count(5)", x.count(5), 2);
        due("count(6)", x.count(6), 3);
        due("count(7)", x.count(7), NONE);
        due("count(-1)", x.count(-1), NONE);
        due("count", x.count(Integer.MIN_VALUE), NONE);
        due("WORDS of 2 letters", new BracketLetters(0, 0).count(2), 7);
    }
}
