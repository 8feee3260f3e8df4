import java.util.Random;

/** Long runs of calls, the same ones each time, on BracketLetters and on the Model: all answers must be the same. */
public final class ModelTest {
    private static int wrong = 0;

    private final Random random;
    private final BracketLetters x;
    private final Model y;
    private final String run;

    private ModelTest(int letters, int degree, long seed) {
        random = new Random(seed);
        x = new BracketLetters(letters, degree);
        y = new Model(letters, degree);
        run = "BracketLetters(" + letters + ", " + degree + ") seed " + seed;
    }

    public static void main(String[] args) {
        for (int letters = 0; letters < 3; letters++) {
            for (int degree = 0; degree < 5 - letters; degree++) {
                new ModelTest(letters, degree, 1).compareChiefs();
                for (long seed = 1; seed <= 25; seed++) {
                    new ModelTest(letters + 3 * (int) (seed % 5 - 2), degree, seed).compareCalls(300);
                }
                for (long seed = 1; seed <= 60; seed++) {
                    new ModelTest(letters, degree, 1000 + seed).compareTexts(12);
                }
                for (long seed = 1; seed <= 12; seed++) {
                    new ModelTest(letters, degree, 2000 + seed).compareLaws();
                }
            }
        }
        compareShortTexts("01ar[](),+-/E8c", 4);
        System.out.println(wrong == 0 ? "all answers are as the model's" : wrong + " answers are not as the model's");
        if (wrong != 0) {
            System.exit(1);
        }
    }

    private void due(String call, int got, int want) {
        if (got != want) {
            wrong++;
            if (wrong < 20) {
                System.out.println(run + ": " + call + " answered " + got + ", due is " + want);
            }
        }
    }

    /** Every text of these signs up to a length, so that no fault's place is left to chance. */
    private static void compareShortTexts(String signs, int length) {
        ModelTest test = new ModelTest(0, 0, 1);
        int many = 1;
        for (int n = 0; n <= length; n++) {
            for (int i = 0; i < many; i++) {
                // an object is used for 512 calls at most
                test = i % 40 == 0 ? new ModelTest(0, 0, 1) : test;
                StringBuilder text = new StringBuilder();
                for (int k = 0, rest = i; k < n; k++, rest /= signs.length()) {
                    text.append(signs.charAt(rest % signs.length()));
                }
                test.feed(text.toString());
                test.due("read(0) of " + text, test.x.read(0), test.y.read(0));
                test.due("at(0, 0) of " + text, test.x.at(0, 0), test.y.at(0, 0));
                test.due("at(0, 1) of " + text, test.x.at(0, 1), test.y.at(0, 1));
            }
            many *= signs.length();
        }
    }

    /** Every sum, at every word. */
    private void compareSums(String after) {
        for (int r = 0; r < 8; r++) {
            for (String word : y.words) {
                int told = Model.toldOf(word);
                int got = x.at(r, told);
                int want = y.at(r, told);
                if (got != want) {
                    due("at(" + r + ", " + told + ") behind " + after, got, want);
                }
            }
        }
    }

    private void compareChiefs() {
        for (int i = -1; i <= y.chiefs.size(); i++) {
            due("lyndon(" + i + ")", x.lyndon(i), y.lyndon(i));
            for (int which = -1; which <= 2; which++) {
                due("side(" + i + ", " + which + ")", x.side(i, which), y.side(i, which));
            }
            for (int k = -1; k <= 24; k++) {
                due("text(" + i + ", " + k + ")", x.text(i, k), y.text(i, k));
            }
            due("basis(3, " + i + ")", x.basis(3, i), y.basis(3, i));
            compareSums("basis(3, " + i + ")");
        }
        for (int what = -1; what <= 7; what++) {
            due("count(" + what + ")", x.count(what), y.count(what));
            due("lyndons(" + what + ")", x.lyndons(what), y.lyndons(what));
        }
        for (int i = 0; i < 2000; i++) {
            int a = random.nextInt(y.chiefs.size());
            int b = random.nextInt(Math.min(y.chiefs.size(), 12));
            int c = random.nextInt(y.chiefs.size() + 1) - random.nextInt(50) / 49;
            due("table(" + a + ", " + b + ", " + c + ")", x.table(a, b, c), y.table(a, b, c));
        }
    }

    private int sum() {
        return random.nextInt(60) == 0 ? random.nextInt(2) * 9 - 1 : random.nextInt(8);
    }

    private int letter() {
        return random.nextInt(40) == 0 ? random.nextInt(2) * (y.letters + 1) - 1 : random.nextInt(y.letters);
    }

    private int word() {
        if (random.nextInt(15) == 0) {
            return random.nextInt(3) == 0 ? random.nextInt() : random.nextInt(600) - 20;
        }
        return Model.toldOf(y.words.get(random.nextInt(1 + random.nextInt(y.words.size()))));
    }

    private int upTo(int most) {
        return random.nextInt(25) == 0 ? (random.nextBoolean() ? most + 1 : -most - 1) : random.nextInt(2 * most + 1) - most;
    }

    private int downTo(int most) {
        return random.nextInt(25) == 0 ? (random.nextBoolean() ? most + 1 : 0) : random.nextInt(most) + 1;
    }

    private void compareCalls(int calls) {
        for (int call = 0; call < calls; call++) {
            String called = compareCall(random.nextInt(36));
            if (call % 20 == 19) {
                compareSums(called);
            }
        }
    }

    private String compareCall(int which) {
        return which < 18 ? compareSumCall(which) : compareOtherCall(which);
    }

    private String compareSumCall(int which) {
        int to = sum();
        int a = sum();
        int b = sum();
        int letter = letter();
        int word = word();
        int n = random.nextInt(y.degree + 3) - 1;
        int up = upTo(9999);
        int down = downTo(9999);
        String name = "call " + which + " of " + to + " " + a + " " + b + " " + letter + " " + word + " " + n + " " + up + "/" + down;
        switch (which) {
            case 0:
                if (random.nextInt(3) == 0) {
                    due(name, x.clear(to), y.clear(to));
                }
                break;
            case 1: case 2: case 3:
                due(name, x.put(to, word, up, down), y.put(to, word, up, down));
                break;
            case 4: due(name, x.at(to, word), y.at(to, word)); break;
            case 5: due(name, x.add(to, a, up, down), y.add(to, a, up, down)); break;
            case 6: due(name, x.times(to, a, b), y.times(to, a, b)); break;
            case 7: due(name, x.bracket(to, a, b), y.bracket(to, a, b)); break;
            case 8: due(name, x.shuffle(to, a, b), y.shuffle(to, a, b)); break;
            case 9: due(name, x.turn(to, a), y.turn(to, a)); break;
            case 10: due(name, x.exp(to, a), y.exp(to, a)); break;
            case 11: due(name, x.log(to, a), y.log(to, a)); break;
            case 12: due(name, x.inverse(to, a), y.inverse(to, a)); break;
            case 13: due(name, x.group(to, a, b), y.group(to, a, b)); break;
            case 14: due(name, x.derive(to, a, letter, b), y.derive(to, a, letter, b)); break;
            case 15: due(name, x.replace(to, a, letter, b), y.replace(to, a, letter, b)); break;
            case 16: due(name, x.part(to, a, n), y.part(to, a, n)); break;
            default: due(name, x.pair(a, b), y.pair(a, b)); break;
        }
        return name;
    }

    private String compareOtherCall(int which) {
        int to = sum();
        int a = sum();
        int letter = letter();
        int word = word();
        int i = random.nextInt(y.chiefs.size() + 1);
        int n = random.nextInt(y.degree + 3) - 1;
        int up = random.nextInt(3) == 0 ? 1 : upTo(99);
        int down = random.nextInt(3) == 0 ? 1 : downTo(99);
        int number = random.nextBoolean() ? random.nextInt() : y.at(a & 7, Math.max(0, y.wordOf(word) == null ? 0 : word));
        String name = "call " + which + " of " + to + " " + a + " " + letter + " " + word + " " + i + " " + n + " " + up + "/" + down;
        switch (which) {
            case 18: due(name, x.basis(to, i), y.basis(to, i)); break;
            case 19: case 20: due(name, x.share(a, word), y.share(a, word)); break;
            case 21: due(name, x.lie(a), y.lie(a)); break;
            case 22: case 23: due(name, x.step(letter, up, down), y.step(letter, up, down)); break;
            case 24:
                if (random.nextInt(4) == 0) {
                    due(name, x.unstep(), y.unstep());
                }
                break;
            case 25: due(name, x.scheme(to), y.scheme(to)); break;
            case 26: due(name, x.order(), y.order()); break;
            case 27: due(name, x.relate(a), y.relate(a)); break;
            case 28: due(name, x.size(n), y.size(n)); break;
            case 29: case 30: case 31: compareText(to); break;
            case 32: due(name, x.count(n), y.count(n)); break;
            case 33:
                // makes a sum that exp and replace take
                due(name, x.put(to, 0, 0, 1), y.put(to, 0, 0, 1));
                break;
            case 34:
                due(name, x.put(to, 0, 1, 1), y.put(to, 0, 1, 1));
                break;
            default:
                int what = random.nextInt(4) - 1;
                due("fraction(" + number + ", " + what + ")", x.fraction(number, what), y.fraction(number, what));
                break;
        }
        return name;
    }

    private void feed(String text) {
        int i = 0;
        while (i < text.length()) {
            int n = Math.min(text.length() - i, 1 + random.nextInt(8));
            long w = random.nextLong();
            for (int k = 0; k < n; k++) {
                w = w << 8 | text.charAt(i + k);
            }
            due("feed(" + w + ", " + n + ")", x.feed(w, n), y.feed(w, n));
            i += n;
        }
    }

    private void compareText(int to) {
        String text = randomText(random.nextInt(4));
        if (random.nextInt(3) == 0) {
            text = spoiled(text);
        }
        feed(text);
        due("read(" + to + ") of " + text, x.read(to), y.read(to));
    }

    private void compareTexts(int texts) {
        for (int i = 0; i < texts; i++) {
            compareText(random.nextInt(8));
        }
        compareSums("texts");
    }

    private String spoiled(String text) {
        String signs = "0123456789abcder[](),+-/EL " + (char) 0 + (char) 200;
        StringBuilder so = new StringBuilder(text);
        for (int i = random.nextInt(3); i >= 0; i--) {
            int at = random.nextInt(so.length() + 1);
            int kind = random.nextInt(4);
            if (kind == 0) {
                so.setLength(at);
            } else if (kind == 1 && at < so.length()) {
                so.deleteCharAt(at);
            } else if (kind == 2 && at < so.length()) {
                so.setCharAt(at, signs.charAt(random.nextInt(signs.length())));
            } else {
                so.insert(at, signs.charAt(random.nextInt(signs.length())));
            }
        }
        return so.toString();
    }

    private String randomText(int depth) {
        StringBuilder so = new StringBuilder(randomTerm(depth));
        while (random.nextInt(3) == 0) {
            so.append(random.nextBoolean() ? '+' : '-').append(randomTerm(depth));
        }
        return so.toString();
    }

    private String randomTerm(int depth) {
        StringBuilder so = new StringBuilder(randomFactor(depth));
        while (random.nextInt(3) == 0) {
            so.append(randomFactor(depth));
        }
        if (random.nextInt(4) == 0) {
            so.append('/').append(1 + random.nextInt(random.nextBoolean() ? 9 : 9999));
        }
        return so.toString();
    }

    private String randomFactor(int depth) {
        int kind = random.nextInt(depth > 0 ? 9 : 4);
        switch (kind) {
            case 0: return String.valueOf(random.nextInt(random.nextBoolean() ? 5 : 100000));
            case 1: return "r" + random.nextInt(8);
            case 2: case 3: return Model.letter(random.nextInt(y.letters));
            case 4: return "(" + randomText(depth - 1) + ")";
            case 5: return "L(1+" + randomText(depth - 1) + ")";
            case 6: return "E(" + randomText(depth - 1) + ")";
            default: return "[" + randomText(depth - 1) + "," + randomText(depth - 1) + "]";
        }
    }

    /** Laws that are mixed of the brackets of chiefs of one length. */
    private void compareLaws() {
        for (int law = 0; law < 5; law++) {
            int length = 1 + random.nextInt(y.degree);
            if (length == 1 && random.nextInt(4) != 0) {
                length = 2;
            }
            due("clear(0)", x.clear(0), y.clear(0));
            for (int part = random.nextInt(4); part >= 0; part--) {
                int i = random.nextInt(y.chiefs.size());
                int tries = 0;
                while (y.chiefs.get(i).length() != length && tries < 10000) {
                    i = random.nextInt(y.chiefs.size());
                    tries++;
                }
                due("basis(1, " + i + ")", x.basis(1, i), y.basis(1, i));
                int up = random.nextInt(9) - 4;
                due("add(0, 1, " + up + ", 3)", x.add(0, 1, up, 3), y.add(0, 1, up, 3));
            }
            due("relate(0)", x.relate(0), y.relate(0));
            due("clear(0)", x.clear(0), y.clear(0));
            for (int n = 0; n <= y.degree + 1; n++) {
                due("size(" + n + ")", x.size(n), y.size(n));
            }
        }
    }
}
