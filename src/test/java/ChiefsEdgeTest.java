import java.util.ArrayList;
import java.util.List;

/** Section 2 of the document and promises 19 to 26: each sentence that names an edge of chiefs, sides, shares, tables. */
public final class ChiefsEdgeTest {
    public static void main(String[] args) {
        chiefsByHand();
        chiefsOfEachObject();
        chiefsOfEachLength();
        sidesByHand();
        sidesOfEachChief();
        noSidesOfLetters();
        bracketsOfLetters();
        bracketsAsLongAsTheDegree();
        bracketsAlone();
        textsByHand();
        textsOfEachChief();
        shareOfTheEmptyWord();
        sharesOfTwoLetters();
        sharesOfThreeLetters();
        sharesOfSameChiefs();
        sharesOfTheLongest();
        sharesAfterRefusals();
        lieOfNoughtAndOne();
        lieOfTheLongest();
        lieModuloPrime();
        answersHoldBehindOtherCalls();
        tableByHand();
        tableOfTheLongest();
        tableBelowNought();
        tableOfNoChiefs();
        Due.end();
    }

    private static boolean isChief(String word) {
        for (int i = 1; i < word.length(); i++) {
            if (word.compareTo(word.substring(i)) >= 0) {
                return false;
            }
        }
        return !word.isEmpty();
    }

    /** Words come by length, and of a length as they are compared. */
    private static List<String> chiefs(int[] shape) {
        List<String> so = new ArrayList<>();
        for (String word : Due.words(shape[0], shape[1])) {
            if (isChief(word)) {
                so.add(word);
            }
        }
        return so;
    }

    private static int cut(String chief) {
        int so = 1;
        while (!isChief(chief.substring(so))) {
            so++;
        }
        return so;
    }

    private static String written(String chief) {
        if (chief.length() == 1) {
            return chief;
        }
        int cut = cut(chief);
        return "[" + written(chief.substring(0, cut)) + "," + written(chief.substring(cut)) + "]";
    }

    // ---- chiefs

    private static void chiefsByHand() {
        Due.sentence("CHIEFS are numbered from 0 on: the shorter ahead, of a length as they are compared");
        dueChiefs(2, 2, "a b ab");
        dueChiefs(2, 3, "a b ab aab abb");
        dueChiefs(2, 4, "a b ab aab abb aaab aabb abbb");
        dueChiefs(3, 2, "a b c ab ac bc");
        dueChiefs(3, 3, "a b c ab ac bc aab aac abb abc acb acc bbc bcc");
        dueChiefs(4, 2, "a b c d ab ac ad bc bd cd");
    }

    private static void dueChiefs(int letters, int degree, String chiefs) {
        BracketLetters x = Due.object(letters, degree);
        int i = 0;
        for (String chief : chiefs.split(" ")) {
            Due.due("lyndon(" + i + ")", x.lyndon(i), Due.w(chief));
            i++;
        }
        Due.due("lyndon behind the last", x.lyndon(i), Due.NONE);
        Due.due("lyndon ahead of the first", x.lyndon(-1), Due.NONE);
        Due.due("count(3)", x.count(3), i);
    }

    private static void chiefsOfEachObject() {
        Due.sentence("A CHIEF is a WORD, not empty, that is ahead of each of its ends (but the whole)");
        for (int[] shape : Due.SHAPES) {
            BracketLetters x = Due.object(shape[0], shape[1]);
            List<String> chiefs = chiefs(shape);
            for (int i = 0; i < chiefs.size(); i++) {
                Due.due("lyndon(" + i + ")", x.lyndon(i), Due.w(chiefs.get(i)));
            }
            Due.due("lyndon behind the last", x.lyndon(chiefs.size()), Due.NONE);
            Due.due("count(3)", x.count(3), chiefs.size());
        }
    }

    private static void chiefsOfEachLength() {
        Due.sentence("lyndons: How many CHIEFS have a length. NONE: not 1 .. DEGREE");
        int[][] many = {{2, 1, 2, 3, 6, 9}, {3, 3, 8, 18, 48}, {4, 6, 20, 60}};
        for (int[] shape : Due.SHAPES) {
            BracketLetters x = Due.object(shape[0], shape[1]);
            for (int n = 1; n <= shape[1]; n++) {
                Due.due("lyndons(" + n + ")", x.lyndons(n), many[shape[0] - 2][n - 1]);
            }
            Due.due("lyndons(0)", x.lyndons(0), Due.NONE);
            Due.due("lyndons(-1)", x.lyndons(-1), Due.NONE);
            Due.due("lyndons(DEGREE + 1)", x.lyndons(shape[1] + 1), Due.NONE);
        }
    }

    // ---- sides, brackets, texts

    private static void sidesByHand() {
        Due.sentence("the longest CHIEF that is an end of it (not the whole) is its right one, what is ahead of that the left one");
        // a b ab aab abb aaab aabb abbb aaaab aaabb aabab aabbb ababb abbbb ..
        int[][] due = {{2, 0, 1}, {3, 0, 2}, {4, 2, 1}, {5, 0, 3}, {6, 0, 4}, {7, 4, 1}, {8, 0, 5}, {9, 0, 6}, {10, 3, 2},
            {11, 0, 7}, {12, 2, 4}, {13, 7, 1}};
        BracketLetters x = Due.object(2, 5);
        for (int[] one : due) {
            Due.due("side(" + one[0] + ", 0)", x.side(one[0], 0), one[1]);
            Due.due("side(" + one[0] + ", 1)", x.side(one[0], 1), one[2]);
        }
    }

    private static void sidesOfEachChief() {
        Due.sentence("SIDES of a CHIEF of 2 LETTERS or more (it is a CHIEF)");
        for (int[] shape : Due.SHAPES) {
            BracketLetters x = Due.object(shape[0], shape[1]);
            List<String> chiefs = chiefs(shape);
            for (int i = shape[0]; i < chiefs.size(); i++) {
                String chief = chiefs.get(i);
                int cut = cut(chief);
                Due.due("left side of " + chief, x.side(i, 0), chiefs.indexOf(chief.substring(0, cut)));
                Due.due("right side of " + chief, x.side(i, 1), chiefs.indexOf(chief.substring(cut)));
            }
            Due.due("side behind the last", x.side(chiefs.size(), 0), Due.NONE);
            Due.due("side behind the last", x.side(chiefs.size(), 1), Due.NONE);
            Due.due("side ahead of the first", x.side(-1, 0), Due.NONE);
            Due.due("which 2", x.side(chiefs.size() - 1, 2), Due.NONE);
            Due.due("which -1", x.side(chiefs.size() - 1, -1), Due.NONE);
        }
    }

    private static void noSidesOfLetters() {
        Due.sentence("side: NONE: of a LETTER, too");
        for (int[] shape : Due.SHAPES) {
            BracketLetters x = Due.object(shape[0], shape[1]);
            for (int letter = 0; letter < shape[0]; letter++) {
                Due.due("side(" + letter + ", 0)", x.side(letter, 0), Due.NONE);
                Due.due("side(" + letter + ", 1)", x.side(letter, 1), Due.NONE);
            }
            Due.due("the first of 2 letters has sides", x.side(shape[0], 0), 0);
        }
    }

    private static void bracketsOfLetters() {
        Due.sentence("Its BRACKET: that of both SIDES' BRACKETS; of a LETTER itself");
        for (int[] shape : Due.SHAPES) {
            BracketLetters x = Due.object(shape[0], shape[1]);
            Due.due("basis of a", x.basis(0, 0), 0);
            Due.dueSum(x, 0, "1*a");
            BracketLetters y = Due.object(shape[0], shape[1]);
            Due.due("basis of the last letter", y.basis(7, shape[0] - 1), 0);
            Due.dueSum(y, 7, "1*" + (char) ('a' + shape[0] - 1));
            BracketLetters z = Due.object(shape[0], shape[1]);
            Due.due("basis of ab", z.basis(3, shape[0]), 0);
            Due.dueSum(z, 3, "1*ab -1*ba");
        }
    }

    private static void bracketsAsLongAsTheDegree() {
        Due.sentence("basis: to is the BRACKET of CHIEF i (as long as DEGREE)");
        BracketLetters x = Due.object(2, 3);
        x.basis(0, 3);
        Due.dueSum(x, 0, "1*aab -2*aba 1*baa");
        x.basis(0, 4);
        Due.dueSum(x, 0, "1*abb -2*bab 1*bba");
        BracketLetters y = Due.object(3, 3);
        y.basis(0, 9);
        Due.dueSum(y, 0, "1*abc -1*acb -1*bca 1*cba");
        y.basis(0, 10);
        Due.dueSum(y, 0, "1*acb -1*cab -1*bac 1*bca");
        Due.due("the last", y.basis(0, 13), 0);
        Due.dueSum(y, 0, "1*bcc -2*cbc 1*ccb");
        Due.due("behind the last", y.basis(0, 14), Due.NONE);
        // [a,[a,..[a,b]]]: a i times ahead of b and j times behind it, with j's sign and its ways
        for (int[] shape : Due.SHAPES) {
            int degree = shape[1];
            BracketLetters z = Due.object(shape[0], degree);
            z.basis(0, chiefs(shape).indexOf("a".repeat(degree - 1) + "b"));
            StringBuilder due = new StringBuilder();
            int ways = 1;
            for (int j = 0; j < degree; j++) {
                due.append(j == 0 ? "" : " ").append(ways).append("*").append("a".repeat(degree - 1 - j)).append("b").append("a".repeat(j));
                ways = -ways * (degree - 1 - j) / (j + 1);
            }
            Due.dueSum(z, 0, due.toString());
        }
    }

    private static void bracketsAlone() {
        Due.sentence("basis: to is the BRACKET (what it was before is gone)");
        BracketLetters x = Due.object(2, 2);
        Due.set(x, 6, "5 1*a 1*b 1*aa 1*ab 1*ba 1*bb");
        Due.set(x, 5, "5 1*bb");
        x.basis(6, 2);
        Due.dueSum(x, 6, "1*ab -1*ba");
        Due.dueSum(x, 5, "5 1*bb");
    }

    private static void textsByHand() {
        Due.sentence("text: Byte k of the BRACKET of CHIEF i, written: a LETTER a, b, ..; [left,right]");
        dueText(2, 5, 0, "a");
        dueText(2, 5, 1, "b");
        dueText(4, 2, 3, "d");
        dueText(4, 2, 9, "[c,d]");
        dueText(2, 5, 10, "[[a,[a,b]],[a,b]]");
        dueText(2, 5, 12, "[[a,b],[[a,b],b]]");
        dueText(2, 5, 13, "[[[[a,b],b],b],b]");
    }

    private static void dueText(int letters, int degree, int i, String written) {
        BracketLetters x = Due.object(letters, degree);
        for (int k = 0; k < written.length(); k++) {
            Due.due("text(" + i + ", " + k + ")", x.text(i, k), written.charAt(k));
        }
        Due.due("text behind its end", x.text(i, written.length()), Due.NONE);
        Due.due("text ahead of it", x.text(i, -1), Due.NONE);
    }

    private static void textsOfEachChief() {
        Due.sentence("text: NONE (behind the last byte, ahead of the first, no such CHIEF)");
        for (int[] shape : Due.SHAPES) {
            List<String> chiefs = chiefs(shape);
            for (int i = 0; i < chiefs.size(); i++) {
                dueText(shape[0], shape[1], i, written(chiefs.get(i)));
            }
            BracketLetters x = Due.object(shape[0], shape[1]);
            Due.due("text of no chief", x.text(chiefs.size(), 0), Due.NONE);
            Due.due("text of no chief", x.text(-1, 0), Due.NONE);
        }
    }

    // ---- shares

    private static void shareOfTheEmptyWord() {
        Due.sentence("share: The SHARE of a WORD in a SUM (the empty one, too)");
        for (int[] shape : Due.SHAPES) {
            BracketLetters x = Due.object(shape[0], shape[1]);
            Due.due("share in 0", x.share(0, 0), 0);
            x.put(0, 0, -3, 1);
            x.put(0, 1, 5, 1);
            Due.due("share of the empty word", x.share(0, 0), Due.PRIME - 3);
            Due.due("share of a", x.share(0, 1), 5);
            Due.due("share of b", x.share(0, 2), 0);
        }
    }

    private static void dueShares(BracketLetters x, int r, String shares) {
        for (String word : Due.words(x.count(0), x.count(1))) {
            int due = 0;
            for (String share : shares.split(" ")) {
                String[] parts = share.split("[*]");
                if (word.equals(parts.length == 1 ? "" : parts[1])) {
                    due = Math.floorMod(Integer.parseInt(parts[0]), Due.PRIME);
                }
            }
            Due.due("share of " + (word.isEmpty() ? "the empty word" : word), x.share(r, Due.w(word)), due);
        }
    }

    private static void sharesOfTwoLetters() {
        Due.sentence("Each WORD is CHIEFS one behind the other, each of them the same as the next one, or behind it");
        BracketLetters x = Due.object(2, 2);
        // ab is [a,b] and b a
        Due.set(x, 0, "1 2*a 3*b 5*aa 7*ab 11*ba 13*bb");
        dueShares(x, 0, "1 2*a 3*b 5*aa 7*ab 18*ba 13*bb");
        BracketLetters y = Due.object(3, 2);
        Due.set(y, 0, "1*ac 1*bc -4*ca 1*cc");
        dueShares(y, 0, "1*ac 1*bc -3*ca 1*cb 1*cc");
    }

    private static void sharesOfThreeLetters() {
        Due.sentence("Each SUM is ORDERED PRODUCTS of WORDS, each with a NUMBER, its SHARE, in one way");
        BracketLetters x = Due.object(2, 3);
        Due.set(x, 0, "1*aab");
        dueShares(x, 0, "1*aab 2*aba 1*baa");
        Due.set(x, 0, "1*abb");
        dueShares(x, 0, "1*abb 2*bab 1*bba");
        Due.set(x, 0, "1*aba");
        dueShares(x, 0, "1*aba 1*baa");
        Due.set(x, 0, "1*bab");
        dueShares(x, 0, "1*bab 1*bba");
        Due.set(x, 0, "1*aaa 2*baa 3*bba 4*bbb");
        dueShares(x, 0, "1*aaa 2*baa 3*bba 4*bbb");
        // b [a,b] and [a,b] a are the ordered products of bab and aba
        Due.set(x, 0, "1*bab -1*bba");
        dueShares(x, 0, "1*bab");
        Due.set(x, 0, "1*aba -1*baa");
        dueShares(x, 0, "1*aba");
        Due.set(x, 0, "1*aab -2*aba 1*baa");
        dueShares(x, 0, "1*aab");
    }

    private static void sharesOfSameChiefs() {
        Due.sentence("CHIEFS one behind the other, each of them the same as the next one");
        BracketLetters x = Due.object(2, 4);
        // [a,b] [a,b]
        Due.set(x, 0, "1*abab -1*abba -1*baab 1*baba");
        dueShares(x, 0, "1*abab");
        for (int n = 1; n <= 6; n++) {
            BracketLetters y = Due.object(2, 6);
            Due.set(y, 0, "1*" + "a".repeat(n) + " 1*" + "b".repeat(n));
            Due.due("share of a " + n + " times", y.share(0, Due.w("a".repeat(n))), 1);
            Due.due("share of b " + n + " times", y.share(0, Due.w("b".repeat(n))), 1);
        }
    }

    private static void sharesOfTheLongest() {
        Due.sentence("share: of a WORD as long as DEGREE");
        for (int[] shape : Due.SHAPES) {
            BracketLetters x = Due.object(shape[0], shape[1]);
            String front = "a".repeat(shape[1] - 1);
            x.put(0, Due.w(front + "b"), 1, 1);
            // a..ab has the share 1, b a..a too, and a..aba.. as many as there are ways
            Due.due("share of a..ab", x.share(0, Due.w(front + "b")), 1);
            Due.due("share of ba..a", x.share(0, Due.w("b" + front)), 1);
            Due.due("share of a..aba", x.share(0, Due.w(front.substring(1) + "ba")), shape[1] - 1);
            String last = String.valueOf((char) ('a' + shape[0] - 1));
            x.put(0, Due.w(last.repeat(shape[1])), 9, 1);
            Due.due("share of the last word", x.share(0, Due.w(last.repeat(shape[1]))), 9);
        }
    }

    private static void sharesAfterRefusals() {
        Due.sentence("share: NONE (changes nothing), and an answer leaves the SUM as it is");
        BracketLetters x = Due.object(2, 2);
        Due.set(x, 0, "1 7*ab");
        Due.due("share(0, 8)", x.share(0, 8), Due.NONE);
        Due.due("share(8, 0)", x.share(8, 0), Due.NONE);
        Due.due("share(0, 10)", x.share(0, 10), 7);
        Due.dueSum(x, 0, "1 7*ab");
    }

    // ---- lie

    private static void dueLie(BracketLetters x, String sum, int due) {
        Due.set(x, 0, sum);
        Due.due("lie of " + sum, x.lie(0), due);
    }

    private static void lieOfNoughtAndOne() {
        Due.sentence("A SUM is LIE, if only CHIEFS have SHARES that are not 0");
        BracketLetters x = Due.object(2, 3);
        dueLie(x, "", 1);
        dueLie(x, "1", 0);
        dueLie(x, "-1", 0);
        dueLie(x, "1*a", 1);
        dueLie(x, "1*a -2/3*b", 1);
        dueLie(x, "1 1*a", 0);
        dueLie(x, "1*aa", 0);
        dueLie(x, "1*ab", 0);
        dueLie(x, "1*ab 1*ba", 0);
        dueLie(x, "1*ab -1*ba", 1);
        dueLie(x, "1*ab -2*ba", 0);
        dueLie(x, "3*a 1*ab -1*ba", 1);
        dueLie(x, "3*a 1*ab -1*ba 1*bbb", 0);
        dueLie(x, "1*aab -2*aba 1*baa", 1);
        dueLie(x, "1*aab -1*aba 1*baa", 0);
        dueLie(x, "1*abb -2*bab 1*bba 1*aab -2*aba 1*baa -5*b", 1);
        dueLie(x, "1 1*abb -2*bab 1*bba", 0);
        dueLie(x, "1*aba -1*baa", 0);
    }

    private static void lieOfTheLongest() {
        Due.sentence("lie: Whether a SUM is LIE (up to DEGREE)");
        for (int[] shape : Due.SHAPES) {
            BracketLetters x = Due.object(shape[0], shape[1]);
            String last = String.valueOf((char) ('a' + shape[0] - 1));
            int longest = Due.w(last.repeat(shape[1]));
            for (int i = 0; i < x.count(3); i++) {
                x.basis(1, i);
                x.add(0, 1, i + 1, 2);
            }
            Due.due("all brackets together", x.lie(0), 1);
            x.put(0, longest, 1, 1);
            Due.due("with one number at the last word", x.lie(0), 0);
            x.put(0, longest, 0, 1);
            Due.due("without it again", x.lie(0), 1);
            x.put(0, 0, 1, 1);
            Due.due("with one number at the empty word", x.lie(0), 0);
        }
    }

    private static void lieModuloPrime() {
        Due.sentence("lie: NUMBERS are those modulo PRIME");
        BracketLetters x = Due.object(2, 2);
        Due.set(x, 0, "1/2*ab");
        Due.set(x, 1, "-1/2*ba");
        x.add(0, 1, 1, 1);
        Due.due("halves", x.lie(0), 1);
        x.add(0, 0, 9999, 1);
        x.add(0, 0, 9999, 7);
        x.add(0, 0, 9999, 11);
        Due.due("large numbers", x.lie(0), 1);
        x.add(0, 1, 1, 1);
        Due.due("no more", x.lie(0), 0);
    }

    private static void answersHoldBehindOtherCalls() {
        Due.sentence("lie, share, table: whatever was reckoned before");
        for (int[] shape : Due.SHAPES) {
            for (int before = 0; before < 7; before++) {
                BracketLetters x = Due.object(shape[0], shape[1]);
                x.put(0, 1, 7, 3);
                x.put(1, 2, 1, 1);
                x.step(0, 5, 2);
                x.step(1, 5, 2);
                reckon(x, before);
                x.basis(2, shape[0]);
                Due.due("lie of [a,b] behind call " + before, x.lie(2), 1);
                reckon(x, before);
                Due.due("share of ab behind call " + before, x.share(2, Due.w("ab")), 1);
                reckon(x, before);
                Due.due("table behind call " + before, x.table(0, 1, shape[0]), 1);
                x.put(2, Due.w("aa"), 1, 1);
                reckon(x, before);
                Due.due("lie of [a,b] + a a behind call " + before, x.lie(2), 0);
            }
        }
    }

    private static void reckon(BracketLetters x, int which) {
        x.exp(6, 0);
        x.exp(7, 1);
        switch (which) {
            case 0: x.times(6, 6, 7); break;
            case 1: x.log(6, 6); break;
            case 2: x.inverse(6, 7); break;
            case 3: x.shuffle(6, 6, 7); break;
            case 4: x.replace(6, 7, 1, 0); break;
            case 5: x.order(); break;
            default: Due.told(x, 6, "[E(a),r7]"); break;
        }
    }

    // ---- table

    private static void tableByHand() {
        Due.sentence("TABLE of CHIEFS i, j, k: the SHARE of k in the BRACKET of both BRACKETS (i's, j's)");
        BracketLetters x = Due.object(2, 5);
        // a b ab aab abb aaab aabb abbb aaaab aaabb aabab aabbb ababb abbbb
        int[][] due = {{0, 1, 2, 1}, {1, 0, 2, -1}, {0, 0, 2, 0}, {1, 1, 2, 0}, {0, 2, 3, 1}, {2, 0, 3, -1}, {1, 2, 4, -1},
            {2, 1, 4, 1}, {3, 1, 6, 1}, {0, 4, 6, 1}, {2, 2, 6, 0}, {5, 1, 9, 1}, {5, 1, 10, -1}, {3, 2, 10, 1}, {2, 3, 10, -1},
            {0, 1, 3, 0}, {0, 1, 0, 0}, {0, 1, 13, 0}};
        for (int[] one : due) {
            Due.due("table(" + one[0] + ", " + one[1] + ", " + one[2] + ")", x.table(one[0], one[1], one[2]), one[3]);
        }
    }

    private static void tableOfTheLongest() {
        Due.sentence("table: 0, too, where the BRACKET would be longer than DEGREE");
        for (int[] shape : Due.SHAPES) {
            BracketLetters x = Due.object(shape[0], shape[1]);
            List<String> chiefs = chiefs(shape);
            int last = chiefs.size() - 1;
            String front = "a".repeat(shape[1] - 2) + "b";
            // just as long as the degree
            int long1 = chiefs.indexOf(front);
            int long2 = chiefs.indexOf("a" + front);
            Due.due("[a," + front + "]", x.table(0, long1, long2), 1);
            Due.due("[" + front + ",a]", x.table(long1, 0, long2), -1);
            Due.due("one longer", x.table(0, long2, long2), 0);
            Due.due("one longer", x.table(long2, 0, last), 0);
            Due.due("far longer", x.table(last, last, 0), 0);
            Due.due("far longer", x.table(last, last, last), 0);
            Due.due("table(last, 0, 0)", x.table(last, 0, 0), 0);
        }
    }

    private static void tableBelowNought() {
        Due.sentence("TABLE .. told between -1073741823 and 1073741823");
        for (int i = 0; i < 8; i++) {
            BracketLetters x = Due.object(2, 4);
            for (int j = 0; j < 8; j++) {
                for (int k = 0; k < 8; k++) {
                    int one = x.table(i, j, k);
                    Due.holds("table(" + i + ", " + j + ", " + k + ") is small", one >= -3 && one <= 3);
                    Due.due("the other way about", x.table(j, i, k), -one);
                }
            }
        }
    }

    private static void tableOfNoChiefs() {
        Due.sentence("table: NO: no such CHIEF");
        for (int[] shape : Due.SHAPES) {
            BracketLetters x = Due.object(shape[0], shape[1]);
            int all = chiefs(shape).size();
            for (int no : new int[] {-1, all, Due.MIN, Due.MAX}) {
                Due.due("table(" + no + ", 0, 1)", x.table(no, 0, 1), Due.NO);
                Due.due("table(0, " + no + ", 1)", x.table(0, no, 1), Due.NO);
                Due.due("table(0, 1, " + no + ")", x.table(0, 1, no), Due.NO);
                Due.due("table(" + no + ", all, all)", x.table(no, all - 1, all - 1), Due.NO);
            }
        }
    }
}
