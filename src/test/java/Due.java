import java.math.BigInteger;
import java.util.ArrayList;
import java.util.List;

/**
 * What the tests by sentences share: the sentence in hand, the answers that are due, and sums told word by word, so
 * that what is due is never found by the class itself. Objects are kept below 512 calls, since no more is promised.
 */
final class Due {
    static final int NONE = BracketLetters.NONE, BAD = BracketLetters.BAD, STATE = BracketLetters.STATE;
    static final int FULL = BracketLetters.FULL, NO = BracketLetters.NO;
    static final int MIN = Integer.MIN_VALUE, MAX = Integer.MAX_VALUE;
    static final int PRIME = 2147483647;
    /** Letters and degree of each object that there may be. */
    static final int[][] SHAPES = {{2, 2}, {2, 3}, {2, 4}, {2, 5}, {2, 6}, {3, 2}, {3, 3}, {3, 4}, {3, 5}, {4, 2}, {4, 3}, {4, 4}};

    private static int wrong = 0;
    private static int sentences = 0;
    private static String sentence = "";

    private Due() {
    }

    interface Call {
        int on(BracketLetters x);
    }

    static void sentence(String words) {
        sentence = words;
        sentences++;
    }

    static void due(String call, int got, int want) {
        if (got != want) {
            wrong++;
            System.out.println("\"" + sentence + "\": " + call + " answered " + got + ", due is " + want);
        }
    }

    static void holds(String what, boolean so) {
        due(what, so ? 1 : 0, 1);
    }

    /** Told at the end of a test; a failed one ends with 1. */
    static void end() {
        System.out.println(wrong == 0 ? sentences + " sentences hold" : wrong + " answers are not as the sentences say");
        if (wrong != 0) {
            System.exit(1);
        }
    }

    static BracketLetters object(int letters, int degree) {
        return new BracketLetters(letters - 2, degree - 2);
    }

    /** A word as calls tell it. */
    static int w(String word) {
        int so = 0;
        for (char letter : word.toCharArray()) {
            so = so * 8 + letter - 'a' + 1;
        }
        return so;
    }

    static List<String> words(int letters, int degree) {
        List<String> so = new ArrayList<>();
        so.add("");
        for (int i = 0; i < so.size(); i++) {
            for (int x = 0; x < letters && so.get(i).length() < degree; x++) {
                so.add(so.get(i) + (char) ('a' + x));
            }
        }
        return so;
    }

    /** A sum is told as numbers (fractions, too), each with * and its word, or alone for the empty word: "2 -1/3*ab". */
    private static String[] terms(String sum) {
        return sum.isEmpty() ? new String[0] : sum.split(" ");
    }

    private static String wordIn(String term) {
        return term.substring(term.contains("*") ? term.indexOf('*') + 1 : term.length());
    }

    private static long upIn(String term) {
        return Long.parseLong(term.split("[*]")[0].split("/")[0]);
    }

    private static long downIn(String term) {
        String[] parts = term.split("[*]")[0].split("/");
        return parts.length == 1 ? 1 : Long.parseLong(parts[1]);
    }

    static void set(BracketLetters x, int r, String sum) {
        due("clear(" + r + ")", x.clear(r), 0);
        for (String term : terms(sum)) {
            int word = w(wordIn(term));
            due("put(" + r + ", " + term + ")", x.put(r, word, (int) upIn(term), (int) downIn(term)), 0);
        }
    }

    /** The sum has just these numbers, and 0 at every other word. */
    static void dueSum(BracketLetters x, int r, String sum) {
        for (String word : words(x.count(0), x.count(1))) {
            long up = 0;
            long down = 1;
            for (String term : terms(sum)) {
                if (wordIn(term).equals(word)) {
                    up = upIn(term);
                    down = downIn(term);
                }
            }
            dueNumber("sum " + r + " at " + (word.isEmpty() ? "the empty word" : word), x.at(r, w(word)), up, down);
        }
    }

    /** A fraction is the number that times its lower part is its upper one. */
    static void dueNumber(String what, int got, long up, long down) {
        holds(what + " (" + got + ") is a number", got >= 0 && got < PRIME);
        due(what + " (" + got + ") times " + down, (int) (got * down % PRIME), (int) Math.floorMod(up, (long) PRIME));
    }

    /** The number that a fraction is. */
    static int number(long up, long down) {
        BigInteger prime = BigInteger.valueOf(PRIME);
        return BigInteger.valueOf(down).modInverse(prime).multiply(BigInteger.valueOf(up)).mod(prime).intValue();
    }

    static void feed(BracketLetters x, String text) {
        for (int i = 0; i < text.length(); i += 8) {
            String bytes = text.substring(i, Math.min(text.length(), i + 8));
            long told = 0;
            for (char sign : bytes.toCharArray()) {
                told = told << 8 | sign;
            }
            x.feed(told, bytes.length());
        }
    }

    static int told(BracketLetters x, int to, String text) {
        feed(x, text);
        return x.read(to);
    }

    /** All that can be seen of an object; seeing it uses sums 0 and 1 and the tape up. */
    static List<Integer> seen(BracketLetters x) {
        List<Integer> so = new ArrayList<>();
        for (int what = 0; what <= 6; what++) {
            so.add(x.count(what));
        }
        for (int n = 1; n <= x.count(1); n++) {
            so.add(x.size(n));
        }
        for (int r = 0; r < 8; r++) {
            seeSum(x, r, so);
        }
        so.add(x.order());
        so.add(x.scheme(0));
        seeSum(x, 0, so);
        so.add(x.read(1));
        seeSum(x, 1, so);
        return so;
    }

    private static void seeSum(BracketLetters x, int r, List<Integer> so) {
        for (String word : words(x.count(0), x.count(1))) {
            so.add(x.at(r, w(word)));
        }
    }
}
