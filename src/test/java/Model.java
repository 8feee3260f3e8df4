import java.util.ArrayList;
import java.util.HashMap;
import java.util.List;
import java.util.Map;
import java.util.TreeMap;

/**
 * The document once more, word by word and without any thought of speed: words are strings, sums are maps, and every
 * answer is found straight from its definition. Tests compare BracketLetters with it.
 */
final class Model {
    static final long PRIME = 2147483647L;
    static final int NONE = -1, BAD = -2, STATE = -3, FULL = -4, NO = Integer.MIN_VALUE;

    /** A number for each word; words that are not there have 0. */
    static final class Sum extends TreeMap<String, Long> {
        private static final long serialVersionUID = 1L;

        long of(String word) {
            return getOrDefault(word, 0L);
        }

        void gain(String word, long number) {
            long now = Math.floorMod(of(word) + number, PRIME);
            if (now == 0) {
                remove(word);
            } else {
                put(word, now);
            }
        }
    }

    final int letters;
    final int degree;
    final List<String> words = new ArrayList<>();
    final List<String> chiefs = new ArrayList<>();
    final Sum[] sums = new Sum[8];
    final List<int[]> steps = new ArrayList<>();
    final List<Sum> laws = new ArrayList<>();
    final StringBuilder tape = new StringBuilder();
    private final Map<String, Sum> brackets;
    private final Map<String, Sum> ordered;
    private static final Map<String, Map<String, Sum>> KNOWN = new HashMap<>();

    Model(int letters, int degree) {
        this.letters = 2 + Math.floorMod(letters, 3);
        int degrees = this.letters == 2 ? 5 : this.letters == 3 ? 4 : 3;
        this.degree = 2 + Math.floorMod(degree, degrees);
        words.add("");
        for (int i = 0; i < words.size(); i++) {
            String word = words.get(i);
            for (int x = 0; x < this.letters && word.length() < this.degree; x++) {
                words.add(word + (char) ('a' + x));
            }
        }
        for (String word : words) {
            if (isChief(word)) {
                chiefs.add(word);
            }
        }
        for (int r = 0; r < 8; r++) {
            sums[r] = new Sum();
        }
        // both depend on the letters and the degree alone
        brackets = KNOWN.computeIfAbsent("b" + this.letters + this.degree, k -> new HashMap<>());
        ordered = KNOWN.computeIfAbsent("o" + this.letters + this.degree, k -> new HashMap<>());
    }

    // ---- terms

    static long power(long a, long n) {
        long so = 1;
        for (long i = n, square = a; i > 0; i /= 2, square = square * square % PRIME) {
            if (i % 2 == 1) {
                so = so * square % PRIME;
            }
        }
        return so;
    }

    static long fractionOf(long up, long down) {
        return Math.floorMod(up, PRIME) * power(Math.floorMod(down, PRIME), PRIME - 2) % PRIME;
    }

    Sum plus(Sum x, Sum y, long factor) {
        Sum so = new Sum();
        so.putAll(x);
        y.forEach((w, n) -> so.gain(w, n * Math.floorMod(factor, PRIME) % PRIME));
        return so;
    }

    static Sum single(String word, long number) {
        Sum so = new Sum();
        so.gain(word, number);
        return so;
    }

    Sum product(Sum x, Sum y) {
        Sum so = new Sum();
        x.forEach((u, m) -> y.forEach((v, n) -> {
            if (u.length() + v.length() <= degree) {
                so.gain(u + v, m * n % PRIME);
            }
        }));
        return so;
    }

    Sum bracketOf(Sum x, Sum y) {
        return plus(product(x, y), product(y, x), -1);
    }

    Sum expOf(Sum x) {
        Sum so = single("", 1);
        Sum power = single("", 1);
        long factorial = 1;
        for (int k = 1; k <= degree; k++) {
            power = product(power, x);
            factorial *= k;
            so = plus(so, power, fractionOf(1, factorial));
        }
        return so;
    }

    Sum logOf(Sum x) {
        Sum y = plus(x, single("", 1), -1);
        Sum so = new Sum();
        Sum power = single("", 1);
        for (int k = 1; k <= degree; k++) {
            power = product(power, y);
            so = plus(so, power, fractionOf(k % 2 == 1 ? 1 : -1, k));
        }
        return so;
    }

    Sum inverseOf(Sum x) {
        Sum y = plus(x, single("", 1), -1);
        Sum so = single("", 1);
        Sum power = single("", 1);
        for (int k = 1; k <= degree; k++) {
            power = product(power, y);
            so = plus(so, power, k % 2 == 1 ? -1 : 1);
        }
        return so;
    }

    private void shuffles(Sum so, String done, String u, String v, long number) {
        if (u.isEmpty() && v.isEmpty()) {
            so.gain(done, number);
        }
        if (!u.isEmpty()) {
            shuffles(so, done + u.charAt(0), u.substring(1), v, number);
        }
        if (!v.isEmpty()) {
            shuffles(so, done + v.charAt(0), u, v.substring(1), number);
        }
    }

    static boolean isChief(String word) {
        for (int i = 1; i < word.length(); i++) {
            if (word.compareTo(word.substring(i)) >= 0) {
                return false;
            }
        }
        return !word.isEmpty();
    }

    String[] sides(String chief) {
        for (int i = 1; i < chief.length(); i++) {
            if (isChief(chief.substring(i))) {
                return new String[] {chief.substring(0, i), chief.substring(i)};
            }
        }
        return null;
    }

    Sum chiefBracket(String chief) {
        Sum so = brackets.get(chief);
        if (so == null) {
            String[] sides = sides(chief);
            so = sides == null ? single(chief, 1) : bracketOf(chiefBracket(sides[0]), chiefBracket(sides[1]));
            brackets.put(chief, so);
        }
        return so;
    }

    String writtenBracket(String chief) {
        String[] sides = sides(chief);
        return sides == null ? chief : "[" + writtenBracket(sides[0]) + "," + writtenBracket(sides[1]) + "]";
    }

    /** All ways in which a word is chiefs, each the same as the next one or behind it. */
    private void factorings(String word, List<String> so, List<List<String>> found) {
        if (word.isEmpty()) {
            found.add(new ArrayList<>(so));
            return;
        }
        for (int i = 1; i <= word.length(); i++) {
            String head = word.substring(0, i);
            if (isChief(head) && (so.isEmpty() || so.get(so.size() - 1).compareTo(head) >= 0)) {
                so.add(head);
                factorings(word.substring(i), so, found);
                so.remove(so.size() - 1);
            }
        }
    }

    Sum orderedProduct(String word) {
        Sum so = ordered.get(word);
        if (so == null) {
            List<List<String>> found = new ArrayList<>();
            factorings(word, new ArrayList<>(), found);
            if (found.size() != 1) {
                throw new IllegalStateException(word + " is chiefs in " + found.size() + " ways");
            }
            so = single("", 1);
            for (String chief : found.get(0)) {
                so = product(so, chiefBracket(chief));
            }
            ordered.put(word, so);
        }
        return so;
    }

    /** All shares: the ordered product of a word has 1 there, and else only words behind it. */
    Sum sharesOf(Sum x) {
        Sum rest = plus(x, new Sum(), 0);
        Sum shares = new Sum();
        for (String word : words) {
            long share = rest.of(word);
            if (share != 0) {
                Sum product = orderedProduct(word);
                if (!product.firstKey().equals(word) || product.of(word) != 1) {
                    throw new IllegalStateException("the ordered product of " + word + " begins otherwise");
                }
                rest = plus(rest, product, -share);
                shares.gain(word, share);
            }
        }
        if (!rest.isEmpty()) {
            throw new IllegalStateException("shares do not make the sum");
        }
        return shares;
    }

    boolean isLie(Sum x) {
        for (String word : sharesOf(x).keySet()) {
            if (!isChief(word)) {
                return false;
            }
        }
        return true;
    }

    Sum made() {
        Sum so = single("", 1);
        for (int[] step : steps) {
            so = product(so, expOf(single(letter(step[0]), fractionOf(step[1], step[2]))));
        }
        return logOf(so);
    }

    static String letter(int number) {
        return String.valueOf((char) ('a' + number));
    }

    private boolean isJustLetters(Sum x, int length) {
        for (String word : words) {
            if (word.length() <= length && x.of(word) != (word.length() == 1 ? 1 : 0)) {
                return false;
            }
        }
        return true;
    }

    private void allBrackets(Sum x, int length, int n, List<Sum> found) {
        if (length == n) {
            found.add(x);
            return;
        }
        for (int i = 0; i < letters; i++) {
            allBrackets(bracketOf(x, single(letter(i), 1)), length + 1, n, found);
        }
    }

    int rank(List<Sum> rows) {
        List<Sum> kept = new ArrayList<>();
        for (Sum row : rows) {
            Sum rest = row;
            for (Sum other : kept) {
                long there = rest.of(other.firstKey());
                rest = plus(rest, other, -there * power(other.firstEntry().getValue(), PRIME - 2) % PRIME);
            }
            if (!rest.isEmpty()) {
                kept.add(rest);
            }
        }
        return kept.size();
    }

    /** The word as calls tell it, null if there is none. */
    String wordOf(int told) {
        if (told < 0) {
            return null;
        }
        StringBuilder so = new StringBuilder();
        for (char digit : (told == 0 ? "" : Integer.toOctalString(told)).toCharArray()) {
            so.append((char) ('a' + digit - '1'));
        }
        return words.contains(so.toString()) ? so.toString() : null;
    }

    static int toldOf(String word) {
        int so = 0;
        for (char letter : word.toCharArray()) {
            so = so * 8 + letter - 'a' + 1;
        }
        return so;
    }

    private boolean no(int... rs) {
        for (int r : rs) {
            if (r < 0 || r > 7) {
                return true;
            }
        }
        return false;
    }

    private static boolean wrong(int up, int down, int most) {
        return up < -most || up > most || down < 1 || down > most;
    }

    // ---- the face

    int clear(int r) {
        if (no(r)) {
            return NONE;
        }
        sums[r] = new Sum();
        return 0;
    }

    int put(int r, int word, int up, int down) {
        if (no(r) || wordOf(word) == null) {
            return NONE;
        }
        if (wrong(up, down, 9999)) {
            return BAD;
        }
        sums[r] = plus(sums[r], single(wordOf(word), fractionOf(up, down) - sums[r].of(wordOf(word))), 1);
        return 0;
    }

    int at(int r, int word) {
        return no(r) || wordOf(word) == null ? NONE : (int) sums[r].of(wordOf(word));
    }

    int fraction(int number, int what) {
        if (number < 0 || number >= PRIME || what < 0 || what > 1) {
            return NO;
        }
        for (int q = 1; q <= 1000; q++) {
            long over = (long) number * q % PRIME;
            if (over <= 1000000) {
                return what == 0 ? (int) over : q;
            }
            if (PRIME - over <= 1000000) {
                return what == 0 ? (int) (over - PRIME) : q;
            }
        }
        return NO;
    }

    int add(int r, int s, int up, int down) {
        if (no(r, s)) {
            return NONE;
        }
        if (wrong(up, down, 9999)) {
            return BAD;
        }
        sums[r] = plus(sums[r], sums[s], fractionOf(up, down));
        return 0;
    }

    int times(int to, int a, int b) {
        if (no(to, a, b)) {
            return NONE;
        }
        sums[to] = product(sums[a], sums[b]);
        return 0;
    }

    int bracket(int to, int a, int b) {
        if (no(to, a, b)) {
            return NONE;
        }
        sums[to] = bracketOf(sums[a], sums[b]);
        return 0;
    }

    int shuffle(int to, int a, int b) {
        if (no(to, a, b)) {
            return NONE;
        }
        Sum so = new Sum();
        sums[a].forEach((u, m) -> sums[b].forEach((v, n) -> {
            if (u.length() + v.length() <= degree) {
                shuffles(so, "", u, v, m * n % PRIME);
            }
        }));
        sums[to] = so;
        return 0;
    }

    int turn(int to, int a) {
        if (no(to, a)) {
            return NONE;
        }
        Sum so = new Sum();
        sums[a].forEach((w, n) -> so.gain(new StringBuilder(w).reverse().toString(), w.length() % 2 == 1 ? -n : n));
        sums[to] = so;
        return 0;
    }

    int exp(int to, int a) {
        if (no(to, a)) {
            return NONE;
        }
        if (sums[a].of("") != 0) {
            return STATE;
        }
        sums[to] = expOf(sums[a]);
        return 0;
    }

    int log(int to, int a) {
        if (no(to, a)) {
            return NONE;
        }
        if (sums[a].of("") != 1) {
            return STATE;
        }
        sums[to] = logOf(sums[a]);
        return 0;
    }

    int inverse(int to, int a) {
        if (no(to, a)) {
            return NONE;
        }
        if (sums[a].of("") != 1) {
            return STATE;
        }
        sums[to] = inverseOf(sums[a]);
        return 0;
    }

    int group(int to, int a, int b) {
        if (no(to, a, b)) {
            return NONE;
        }
        if (sums[a].of("") != 0 || sums[b].of("") != 0) {
            return STATE;
        }
        sums[to] = logOf(product(expOf(sums[a]), expOf(sums[b])));
        return 0;
    }

    int derive(int to, int a, int letter, int by) {
        if (no(to, a, by) || letter < 0 || letter >= letters) {
            return NONE;
        }
        Sum so = new Sum();
        for (Map.Entry<String, Long> term : sums[a].entrySet()) {
            String word = term.getKey();
            for (int i = 0; i < word.length(); i++) {
                if (word.charAt(i) == 'a' + letter) {
                    Sum front = single(word.substring(0, i), term.getValue());
                    Sum end = single(word.substring(i + 1), 1);
                    product(product(front, sums[by]), end).forEach(so::gain);
                }
            }
        }
        sums[to] = so;
        return 0;
    }

    int replace(int to, int a, int letter, int by) {
        if (no(to, a, by) || letter < 0 || letter >= letters) {
            return NONE;
        }
        if (sums[by].of("") != 0) {
            return STATE;
        }
        Sum so = new Sum();
        sums[a].forEach((word, number) -> {
            Sum image = single("", number);
            for (char sign : word.toCharArray()) {
                image = product(image, sign == 'a' + letter ? sums[by] : single(String.valueOf(sign), 1));
            }
            image.forEach(so::gain);
        });
        sums[to] = so;
        return 0;
    }

    int part(int to, int a, int n) {
        if (no(to, a) || n < 0 || n > degree) {
            return NONE;
        }
        Sum so = new Sum();
        sums[a].forEach((w, number) -> so.gain(w, w.length() == n ? number : 0));
        sums[to] = so;
        return 0;
    }

    int pair(int a, int b) {
        if (no(a, b)) {
            return NONE;
        }
        long so = 0;
        for (String word : words) {
            so = (so + sums[a].of(word) * sums[b].of(word)) % PRIME;
        }
        return (int) so;
    }

    int lyndon(int i) {
        return i < 0 || i >= chiefs.size() ? NONE : toldOf(chiefs.get(i));
    }

    int lyndons(int n) {
        return n < 1 || n > degree ? NONE : (int) chiefs.stream().filter(c -> c.length() == n).count();
    }

    int side(int i, int which) {
        if (i < 0 || i >= chiefs.size() || which < 0 || which > 1 || chiefs.get(i).length() == 1) {
            return NONE;
        }
        return chiefs.indexOf(sides(chiefs.get(i))[which]);
    }

    int basis(int to, int i) {
        if (no(to) || i < 0 || i >= chiefs.size()) {
            return NONE;
        }
        sums[to] = chiefBracket(chiefs.get(i));
        return 0;
    }

    int text(int i, int k) {
        if (i < 0 || i >= chiefs.size()) {
            return NONE;
        }
        String written = writtenBracket(chiefs.get(i));
        return k < 0 || k >= written.length() ? NONE : written.charAt(k);
    }

    int share(int a, int word) {
        return no(a) || wordOf(word) == null ? NONE : (int) sharesOf(sums[a]).of(wordOf(word));
    }

    int lie(int a) {
        return no(a) ? NONE : isLie(sums[a]) ? 1 : 0;
    }

    int table(int i, int j, int k) {
        int all = chiefs.size();
        if (i < 0 || j < 0 || k < 0 || i >= all || j >= all || k >= all) {
            return NO;
        }
        Sum both = bracketOf(chiefBracket(chiefs.get(i)), chiefBracket(chiefs.get(j)));
        long share = sharesOf(both).of(chiefs.get(k));
        return (int) (share > PRIME / 2 ? share - PRIME : share);
    }

    int step(int letter, int up, int down) {
        if (letter < 0 || letter >= letters) {
            return NONE;
        }
        if (wrong(up, down, 99)) {
            return BAD;
        }
        if (steps.size() == 12) {
            return FULL;
        }
        steps.add(new int[] {letter, up, down});
        return steps.size();
    }

    int unstep() {
        int had = steps.size();
        steps.clear();
        return had;
    }

    int scheme(int to) {
        if (no(to)) {
            return NONE;
        }
        sums[to] = made();
        return 0;
    }

    int order() {
        Sum made = made();
        int so = 0;
        for (int n = 1; n <= degree; n++) {
            if (isJustLetters(made, n)) {
                so = n;
            }
        }
        return so;
    }

    int relate(int a) {
        if (no(a)) {
            return NONE;
        }
        boolean alike = sums[a].keySet().stream().mapToInt(String::length).distinct().count() == 1;
        if (!alike || !isLie(sums[a])) {
            return STATE;
        }
        if (laws.size() == 4) {
            return FULL;
        }
        laws.add(sums[a]);
        return laws.size() - 1;
    }

    int size(int n) {
        if (n < 1 || n > degree) {
            return NONE;
        }
        List<Sum> found = new ArrayList<>();
        for (Sum law : laws) {
            if (law.firstKey().length() <= n) {
                allBrackets(law, law.firstKey().length(), n, found);
            }
        }
        return lyndons(n) - rank(found);
    }

    int feed(long w, int n) {
        if (n < 1 || n > 8) {
            return BAD;
        }
        if (tape.length() + n > 100) {
            return FULL;
        }
        for (int i = n - 1; i >= 0; i--) {
            tape.append((char) ((w >> (8 * i)) & 255));
        }
        return tape.length();
    }

    int read(int to) {
        if (no(to)) {
            return NONE;
        }
        String text = tape.toString();
        tape.setLength(0);
        int fault = faultOf(text);
        if (fault >= 0) {
            return -10 - fault;
        }
        Sum so = valueOf(text);
        if (so == null) {
            return -9;
        }
        sums[to] = so;
        return 0;
    }

    int count(int what) {
        int[] counts = {letters, degree, words.size(), chiefs.size(), steps.size(), laws.size(), tape.length()};
        return what < 0 || what > 6 ? NONE : counts[what];
    }

    // ---- texts

    /** What may come next: a term, a term or more, ... : an automaton with what is open beside it. */
    private enum Next { TERM, MORE, AFTER_R, AFTER_E, AFTER_SLASH, CLOSE }

    int faultOf(String text) {
        StringBuilder open = new StringBuilder();
        Next next = Next.TERM;
        int digits = 0;
        for (int i = 0; i < text.length(); i++) {
            char sign = text.charAt(i);
            boolean digit = sign >= '0' && sign <= '9';
            boolean letter = sign >= 'a' && sign < 'a' + letters;
            if (next == Next.AFTER_R) {
                if (sign < '0' || sign > '7') {
                    return i;
                }
                next = Next.MORE;
            } else if (next == Next.AFTER_E) {
                if (sign != '(' || open.length() == 5) {
                    return i;
                }
                open.append('(');
                next = Next.TERM;
            } else if (next == Next.AFTER_SLASH) {
                if (!digit || sign == '0') {
                    return i;
                }
                digits = 1;
                next = Next.CLOSE;
            } else if (next == Next.CLOSE && digit && digits < 4) {
                digits++;
            } else if (next != Next.CLOSE && (digit || letter)) {
                next = Next.MORE;
            } else if (next != Next.CLOSE && sign == 'r') {
                next = Next.AFTER_R;
            } else if (next != Next.CLOSE && (sign == 'E' || sign == 'L')) {
                next = Next.AFTER_E;
            } else if (next != Next.CLOSE && (sign == '(' || sign == '[')) {
                if (open.length() == 5) {
                    return i;
                }
                open.append(sign);
                next = Next.TERM;
            } else if (next == Next.MORE && sign == '/') {
                next = Next.AFTER_SLASH;
            } else if (next != Next.TERM && (sign == '+' || sign == '-')) {
                next = Next.TERM;
            } else if (next != Next.TERM && open.length() > 0 && closes(open, sign)) {
                next = sign == ',' ? Next.TERM : Next.MORE;
            } else {
                return i;
            }
        }
        boolean ends = (next == Next.MORE || next == Next.CLOSE) && open.length() == 0;
        return ends ? -1 : text.length();
    }

    private static boolean closes(StringBuilder open, char sign) {
        int last = open.length() - 1;
        char due = open.charAt(last) == '(' ? ')' : open.charAt(last) == '[' ? ',' : ']';
        if (sign != due) {
            return false;
        }
        open.setLength(last);
        if (sign == ',') {
            open.append(';');
        }
        return true;
    }

    /** The text cut at the signs that stand outside of all brackets. */
    private static List<String> cut(String text, String signs, List<Character> seen) {
        List<String> parts = new ArrayList<>();
        int depth = 0;
        int from = 0;
        for (int i = 0; i < text.length(); i++) {
            char sign = text.charAt(i);
            depth += sign == '(' || sign == '[' ? 1 : sign == ')' || sign == ']' ? -1 : 0;
            if (depth == 0 && signs.indexOf(sign) >= 0) {
                parts.add(text.substring(from, i));
                seen.add(sign);
                from = i + 1;
            }
        }
        parts.add(text.substring(from));
        return parts;
    }

    /** What a text without a fault tells, null if an EXP or LOG in it is not there. */
    Sum valueOf(String text) {
        List<Character> signs = new ArrayList<>();
        List<String> terms = cut(text, "+-", signs);
        Sum so = new Sum();
        for (int i = 0; i < terms.size(); i++) {
            List<String> parts = cut(terms.get(i), "/", new ArrayList<>());
            Sum value = termValue(parts.get(0));
            if (value == null) {
                return null;
            }
            long divisor = parts.size() == 1 ? 1 : Long.parseLong(parts.get(1));
            so = plus(so, value, fractionOf(i > 0 && signs.get(i - 1) == '-' ? -1 : 1, divisor));
        }
        return so;
    }

    private Sum termValue(String term) {
        Sum so = single("", 1);
        int i = 0;
        while (i < term.length()) {
            int end = factorEnd(term, i);
            Sum factor = factorValue(term.substring(i, end));
            if (factor == null) {
                return null;
            }
            so = product(so, factor);
            i = end;
        }
        return so;
    }

    private static int factorEnd(String term, int from) {
        char sign = term.charAt(from);
        if (Character.isDigit(sign)) {
            int end = from;
            while (end < term.length() && end < from + 4 && Character.isDigit(term.charAt(end))) {
                end++;
            }
            return end;
        }
        if (sign == 'r') {
            return from + 2;
        }
        if (sign >= 'a' && sign <= 'd') {
            return from + 1;
        }
        int depth = 0;
        for (int i = from; i < term.length(); i++) {
            char at = term.charAt(i);
            depth += at == '(' || at == '[' ? 1 : at == ')' || at == ']' ? -1 : 0;
            if (depth == 0 && at != 'E' && at != 'L') {
                return i + 1;
            }
        }
        throw new IllegalStateException(term);
    }

    private Sum factorValue(String factor) {
        char sign = factor.charAt(0);
        if (Character.isDigit(sign)) {
            return single("", Long.parseLong(factor));
        }
        if (sign == 'r') {
            return sums[factor.charAt(1) - '0'];
        }
        if (sign >= 'a' && sign <= 'd') {
            return single(factor, 1);
        }
        if (sign == '[') {
            List<String> both = cut(factor.substring(1, factor.length() - 1), ",", new ArrayList<>());
            Sum x = valueOf(both.get(0));
            Sum y = valueOf(both.get(1));
            return x == null || y == null ? null : bracketOf(x, y);
        }
        Sum inside = valueOf(factor.substring(factor.indexOf('(') + 1, factor.length() - 1));
        if (inside == null || sign == '(') {
            return inside;
        }
        if (inside.of("") != (sign == 'E' ? 0 : 1)) {
            return null;
        }
        return sign == 'E' ? expOf(inside) : logOf(inside);
    }
}
