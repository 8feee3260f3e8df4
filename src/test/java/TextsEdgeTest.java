/** Section 4 of the document and promises 33 to 35: each sentence that names an edge of the tape, of texts, of counts. */
public final class TextsEdgeTest {
    /** What opens: [ and ( alone and behind E and L. */
    private static final String[] OPENERS = {"[", "(", "E(", "L(", "[a,"};

    public static void main(String[] args) {
        bytesOfFeed();
        bytesHighestFirst();
        hundredBytes();
        hundredBytesByEach();
        readHundredBytes();
        tapeIsEmptyThen();
        emptyTape();
        textsAreTerms();
        termsAreFactors();
        numbersOfFourDigits();
        divisorsOfFourDigits();
        nothingBehindADivisor();
        lettersOfTexts();
        sumsOfTexts();
        noBlanks();
        anyByte();
        bracketsOfTexts();
        roundOnes();
        expsAndLogsOfTexts();
        fiveAreOpen();
        sixAreNot();
        openAgain();
        faultsAtTheEnd();
        faultsInside();
        noExpNoLog();
        faultsGoAhead();
        longWordsAreDropped();
        toIsReadFirst();
        toStays();
        noSumForRead();
        countsOfEach();
        Due.end();
    }

    // ---- the tape

    private static void bytesOfFeed() {
        Due.sentence("feed: BAD: n not 1 .. 8");
        for (int n = 1; n <= 8; n++) {
            BracketLetters x = Due.object(2, 2);
            Due.due("feed of " + n, x.feed(0x6161616161616161L, n), n);
            Due.due("count(6)", x.count(6), n);
        }
        BracketLetters x = Due.object(2, 2);
        for (int n : new int[] {0, 9, -1, 10, Due.MIN, Due.MAX}) {
            Due.due("feed of " + n, x.feed(0x6161616161616161L, n), Due.BAD);
        }
        Due.due("count(6)", x.count(6), 0);
    }

    private static void bytesHighestFirst() {
        Due.sentence("feed: The n lowest bytes of w, the highest first, come behind THE TAPE's: how many it has");
        BracketLetters x = Due.object(4, 4);
        // dcba
        Due.due("feed", x.feed(0x64636261L, 4), 4);
        x.read(0);
        Due.due("dcba", x.at(0, Due.w("dcba")), 1);
        x.feed(0x6463626164636261L, 2);
        x.read(0);
        Due.due("ba", x.at(0, Due.w("ba")), 1);
        Due.due("feed", x.feed(0x61, 1), 1);
        Due.due("feed", x.feed(0xFFFFFFFFFFFF6263L, 2), 3);
        Due.due("feed", x.feed(0xFF00000000000064L, 1), 4);
        x.read(0);
        Due.due("abcd", x.at(0, Due.w("abcd")), 1);
        // 8 bytes: (((a))), and one below 0
        x.feed(0x2828286129292B31L, 8);
        x.feed(0x29L, 1);
        Due.due("read", x.read(0), 0);
        Due.due("a", x.at(0, Due.w("a")), 1);
        Due.due("1", x.at(0, 0), 1);
        Due.due("feed below 0", x.feed(-1L, 8), 8);
        Due.due("read", x.read(0), -10);
    }

    private static void hundredBytes() {
        Due.sentence("THE TAPE (bytes, 100 at most); feed: FULL");
        for (int had = 92; had <= 100; had++) {
            for (int n = 1; n <= 8; n++) {
                BracketLetters x = Due.object(2, 2);
                Due.feed(x, "a".repeat(had));
                Due.due("count(6)", x.count(6), had);
                boolean fits = had + n <= 100;
                Due.due("feed of " + n + " behind " + had, x.feed(0x6161616161616161L, n), fits ? had + n : Due.FULL);
                Due.due("count(6)", x.count(6), fits ? had + n : had);
                Due.due("BAD ahead of FULL", x.feed(97, 9), Due.BAD);
                Due.due("BAD ahead of FULL", x.feed(97, 0), Due.BAD);
            }
        }
    }

    private static void hundredBytesByEach() {
        Due.sentence("THE TAPE (bytes, 100 at most), by feeds of each n");
        for (int n = 1; n <= 8; n++) {
            BracketLetters x = Due.object(2, 2);
            int had = 0;
            for (int i = 0; i < 102; i++) {
                boolean fits = had + n <= 100;
                had += fits ? n : 0;
                Due.due("feed " + i + " of " + n, x.feed(0x6161616161616161L, n), fits ? had : Due.FULL);
            }
        }
    }

    private static void readHundredBytes() {
        Due.sentence("A TEXT is read from THE TAPE (all 100 bytes)");
        dueRead("a+".repeat(49) + "bb", 0, "49*a 1*bb");
        dueRead("1+".repeat(49) + "a1", 0, "49 1*a");
        dueRead("a-".repeat(49) + "(a", -110, null);
        dueRead("a+".repeat(50), -110, null);
        dueRead("a".repeat(99) + ")", -109, null);
        dueRead("a".repeat(100), 0, "");
        dueRead("1".repeat(100), 0, Long.toString(powerOf(1111, 25)));
        dueRead("(1)".repeat(33) + "a", 0, "1*a");
        dueRead("r1".repeat(50), 0, "");
        dueRead("[a,b]+".repeat(16) + "baab", 0, "16*ab -16*ba");
        dueRead("E(a)+".repeat(19) + "E(b)+", -110, null);
        dueRead("E(a)+".repeat(19) + "E(0)1", 0, "20 19*a 19/2*aa");
    }

    private static long powerOf(long base, int n) {
        long so = 1;
        for (int i = 0; i < n; i++) {
            so = so * base % Due.PRIME;
        }
        return so;
    }

    /** 2 letters, degree 2, r7 is 3 and a; what is read goes to sum 0, which was 5 b. */
    private static void dueRead(String text, int answer, String sum) {
        dueReadBy(Due.object(2, 2), text, answer, sum);
    }

    private static void dueReadBy(BracketLetters x, String text, int answer, String sum) {
        Due.set(x, 0, "5*b");
        Due.set(x, 7, "3 1*a");
        Due.feed(x, text);
        Due.due("bytes of " + text, x.count(6), text.length());
        Due.due("read of " + text, x.read(0), answer);
        Due.dueSum(x, 0, sum == null ? "5*b" : sum);
        Due.dueSum(x, 7, "3 1*a");
        Due.due("THE TAPE is empty then, behind " + text, x.count(6), 0);
    }

    private static void dueFault(String text, int place) {
        dueRead(text, -10 - place, null);
    }

    private static void tapeIsEmptyThen() {
        Due.sentence("THE TAPE is empty then.");
        BracketLetters x = Due.object(2, 2);
        for (String text : new String[] {"a", "a+", "E(1)", ""}) {
            Due.told(x, 0, text);
            Due.due("count(6) behind " + text, x.count(6), 0);
            Due.due("feed behind " + text, x.feed('b', 1), 1);
            Due.due("read", x.read(1), 0);
            Due.dueSum(x, 1, "1*b");
        }
        Due.feed(x, "a".repeat(100));
        x.read(0);
        Due.feed(x, "b" + "+0".repeat(49));
        Due.due("read", x.read(1), 0);
        Due.dueSum(x, 1, "1*b");
    }

    private static void emptyTape() {
        Due.sentence("The FAULT is .. the end of THE TAPE, if it ends too early (the empty one: 0)");
        dueFault("", 0);
    }

    // ---- terms, factors, numbers

    private static void textsAreTerms() {
        Due.sentence("TERM, + or -, TERM, ..");
        dueRead("a", 0, "1*a");
        dueRead("a+b", 0, "1*a 1*b");
        dueRead("a-b", 0, "1*a -1*b");
        dueRead("a-b-b+a", 0, "2*a -2*b");
        dueRead("0-a", 0, "-1*a");
        dueRead("a-a", 0, "");
        dueRead("1-ab+1-ab", 0, "2 -2*ab");
        dueFault("+", 0);
        dueFault("-", 0);
        dueFault("+a", 0);
        dueFault("-a", 0);
        dueFault("a+", 2);
        dueFault("a-", 2);
        dueFault("a++a", 2);
        dueFault("a+-a", 2);
        dueFault("a--a", 2);
    }

    private static void termsAreFactors() {
        Due.sentence("TERM: FACTOR, or several one behind the other (their PRODUCT, in order), and perhaps / and N");
        dueRead("ab", 0, "1*ab");
        dueRead("ba", 0, "1*ba");
        dueRead("2a3b", 0, "6*ab");
        dueRead("ab/2", 0, "1/2*ab");
        dueRead("a+b/2", 0, "1*a 1/2*b");
        dueRead("a/2+b", 0, "1/2*a 1*b");
        dueRead("a-b/3-a/2", 0, "1/2*a -1/3*b");
        dueRead("(a+b)(a-b)", 0, "1*aa -1*ab 1*ba -1*bb");
        dueRead("(a/2)b/3", 0, "1/6*ab");
        dueFault("/2", 0);
        dueFault("a+/2", 2);
    }

    private static void numbersOfFourDigits() {
        Due.sentence("FACTOR: N (1 to 4 digits; that times the empty WORD)");
        String[][] due = {{"0", ""}, {"1", "1"}, {"9", "9"}, {"10", "10"}, {"99", "99"}, {"999", "999"}, {"1000", "1000"},
            {"9999", "9999"}, {"0000", ""}, {"0001", "1"}, {"0010", "10"}, {"007", "7"}, {"0a", ""}, {"01a", "1*a"}};
        for (String[] one : due) {
            dueRead(one[0], 0, one[1]);
        }
        Due.sentence("N has as many digits as there are, 4 at most; the fifth begins a FACTOR more");
        String[][] more = {{"12345", "6170"}, {"99999", "89991"}, {"10000", ""}, {"00005", ""}, {"00015", "5"}, {"12341234", "1522756"},
            {"123456789", Long.toString(1234L * 5678 * 9 % Due.PRIME)}, {"12345a", "6170*a"}, {"a12345", "6170*a"}};
        for (String[] one : more) {
            dueRead(one[0], 0, one[1]);
        }
    }

    private static void divisorsOfFourDigits() {
        Due.sentence("/ and N (1 to 4 digits, the first one not 0)");
        for (int down : new int[] {1, 2, 9, 10, 99, 100, 999, 1000, 9998, 9999}) {
            dueRead("a/" + down, 0, "1/" + down + "*a");
        }
        dueFault("a/0", 2);
        dueFault("a/00", 2);
        dueFault("a/01", 2);
        dueFault("a/0001", 2);
        dueFault("a/", 2);
        dueFault("a/a", 2);
        dueFault("a/+1", 2);
        dueFault("a/-1", 2);
        dueFault("a/(1)", 2);
        dueFault("a/r1", 2);
        dueFault("a//2", 2);
        dueFault("a/ 2", 2);
        Due.sentence("the fifth .. behind / it is a FAULT");
        dueFault("a/10000", 6);
        dueFault("a/12345", 6);
        dueFault("a/99999", 6);
        dueFault("a/123456", 6);
        dueRead("a/1234+b", 0, "1/1234*a 1*b");
    }

    private static void nothingBehindADivisor() {
        Due.sentence("a TERM has no FACTORS behind that");
        for (String factor : new String[] {"a", "r1", "[a,b]", "(a)", "E(a)", "L(1)", "/2"}) {
            dueFault("a/2" + factor, 3);
            dueFault("a/1000" + factor, 6);
            dueFault("(a/2" + factor + ")", 4);
            dueFault("[b,a/2" + factor + "]", 6);
        }
        dueRead("(a/2)b", 0, "1/2*ab");
        dueRead("[a/2,b/3]", 0, "1/6*ab -1/6*ba");
        dueRead("E(a/2)/2", 0, "1/2 1/4*a 1/16*aa");
    }

    private static void lettersOfTexts() {
        Due.sentence("FACTOR: a LETTER (only those there are)");
        for (int[] shape : Due.SHAPES) {
            for (int letter = 0; letter < 26; letter++) {
                BracketLetters x = Due.object(shape[0], shape[1]);
                String name = String.valueOf((char) ('a' + letter));
                int answer = letter < shape[0] ? 0 : name.equals("r") ? -11 : -10;
                Due.due("read of " + name + " with " + shape[0], Due.told(x, 0, name), answer);
                Due.due("at(0, " + (letter + 1) + ")", letter < shape[0] ? x.at(0, letter + 1) : 1, 1);
                if (!name.equals("r")) {
                    Due.due("read of a" + name, Due.told(x, 0, "a" + name), letter < shape[0] ? 0 : -11);
                }
            }
        }
        dueFault("A", 0);
        dueFault("B", 0);
        dueFault("`", 0);
    }

    private static void sumsOfTexts() {
        Due.sentence("FACTOR: r and a digit 0 .. 7 (that SUM)");
        for (int r = 0; r <= 7; r++) {
            BracketLetters x = Due.object(2, 2);
            for (int other = 0; other <= 7; other++) {
                Due.set(x, other, (other + 2) + " 1*b");
            }
            int to = (r + 3) % 8;
            Due.due("read of r" + r, Due.told(x, to, "r" + r), 0);
            Due.dueSum(x, to, (r + 2) + " 1*b");
            Due.due("read of r" + r + "ar" + r, Due.told(x, to, "r" + r + "ar" + r), 0);
            Due.dueSum(x, to, (r + 2) * (r + 2) + "*a " + (r + 2) + "*ab " + (r + 2) + "*ba");
            Due.dueSum(x, r, (r + 2) + " 1*b");
        }
        for (String no : new String[] {"8", "9", "/", ":", "a", "r", "-1", "+", "(0)", " 0", ""}) {
            dueFault("r" + no, 1);
            dueFault("ar" + no, 2);
        }
        dueFault("R0", 0);
        Due.sentence("r and a digit 0 .. 7: one digit, what is behind it is another FACTOR");
        dueRead("r72", 0, "6 2*a");
        dueRead("r7r7", 0, "9 6*a 1*aa");
        dueRead("r700005", 0, "");
        dueRead("2r7", 0, "6 2*a");
    }

    private static void noBlanks() {
        Due.sentence("No blanks.");
        dueFault(" ", 0);
        dueFault(" a", 0);
        dueFault("a ", 1);
        dueFault("a b", 1);
        dueFault("a+ b", 2);
        dueFault("[a, b]", 3);
        dueFault("E (a)", 1);
        dueFault("1 2", 1);
        dueFault("a\n", 1);
        dueFault("a\t", 1);
    }

    private static void anyByte() {
        Due.sentence("The FAULT is the place of the first byte with which none begins so");
        String first = "0123456789abr[(EL";
        String second = "0123456789abr[(EL+-/";
        for (int sign = 0; sign < 256; sign++) {
            BracketLetters x = Due.object(2, 2);
            x.feed(sign, 1);
            int answer = x.read(0);
            boolean alone = first.indexOf(sign) < 0;
            boolean whole = "0123456789ab".indexOf(sign) >= 0;
            Due.due("byte " + sign + " alone", answer, whole ? 0 : alone ? -10 : -11);
            x.feed('a' * 256 + sign, 2);
            answer = x.read(0);
            Due.due("byte " + sign + " behind a", answer, whole ? 0 : second.indexOf(sign) < 0 ? -11 : -12);
        }
    }

    // ---- brackets, exps and logs

    private static void bracketsOfTexts() {
        Due.sentence("FACTOR: [TEXT,TEXT]");
        dueRead("[a,b]", 0, "1*ab -1*ba");
        dueRead("[b,a]", 0, "-1*ab 1*ba");
        dueRead("[a,a]", 0, "");
        dueRead("[a+b,a-b]", 0, "-2*ab 2*ba");
        dueRead("3[a,b]/2", 0, "3/2*ab -3/2*ba");
        dueRead("[1,a]", 0, "");
        dueRead("[[a,b],a]", 0, "");
        dueRead("[a,b][a,b]", 0, "");
        dueFault("[", 1);
        dueFault("[a", 2);
        dueFault("[a,", 3);
        dueFault("[a,b", 4);
        dueFault("[]", 1);
        dueFault("[,", 1);
        dueFault("[,a]", 1);
        dueFault("[a]", 2);
        dueFault("[a)", 2);
        dueFault("[a,]", 3);
        dueFault("[a,,b]", 3);
        dueFault("[a,b)", 4);
        dueFault("[a,b,", 4);
        dueFault("[a,b,a]", 4);
        dueFault("[a+,b]", 3);
        dueFault("[a,b+]", 5);
        dueFault("]", 0);
        dueFault("a]", 1);
        dueFault("[a,b]]", 5);
        dueFault(",", 0);
        dueFault("a,b", 1);
        dueFault("[(a,b)]", 3);
    }

    private static void roundOnes() {
        Due.sentence("FACTOR: (TEXT)");
        dueRead("(a)", 0, "1*a");
        dueRead("(a+b)2", 0, "2*a 2*b");
        dueRead("(a)(b)", 0, "1*ab");
        dueRead("a-(a-b)", 0, "1*b");
        dueFault("(", 1);
        dueFault("(a", 2);
        dueFault("()", 1);
        dueFault("(a]", 2);
        dueFault("(a,", 2);
        dueFault("(a,b)", 2);
        dueFault("(+a)", 1);
        dueFault("(a+)", 3);
        dueFault(")", 0);
        dueFault("a)", 1);
        dueFault("(a))", 3);
    }

    private static void expsAndLogsOfTexts() {
        Due.sentence("FACTOR: E(TEXT), L(TEXT) (EXP, LOG)");
        dueRead("E(a)", 0, "1 1*a 1/2*aa");
        dueRead("E(0)", 0, "1");
        dueRead("L(1)", 0, "");
        dueRead("L(1+a)", 0, "1*a -1/2*aa");
        dueRead("L(E(a)E(b))", 0, "1*a 1*b 1/2*ab -1/2*ba");
        dueRead("aE(b)", 0, "1*a 1*ab");
        dueRead("E(a)b/2", 0, "1/2*b 1/2*ab");
        dueFault("E", 1);
        dueFault("L", 1);
        dueFault("E(", 2);
        dueFault("E()", 2);
        dueFault("E(a", 3);
        dueFault("E(a]", 3);
        dueFault("E(a,b)", 3);
        dueFault("Ea", 1);
        dueFault("L1", 1);
        dueFault("E[a,b]", 1);
        dueFault("EE(a)", 1);
        dueFault("EL(1)", 1);
        dueFault("E+", 1);
        dueFault("e(a)", 0);
        dueFault("l(1)", 0);
    }

    // ---- how many are open

    private static String opened(int kinds, int many) {
        StringBuilder so = new StringBuilder();
        int rest = kinds;
        for (int i = 0; i < many; i++) {
            so.append(OPENERS[rest % OPENERS.length]);
            rest /= OPENERS.length;
        }
        return so.toString();
    }

    /** What the opened ones need behind a factor, from the innermost on; EXP and LOG need not be there. */
    private static String closed(int kinds, int many) {
        StringBuilder so = new StringBuilder();
        int rest = kinds;
        for (int i = 0; i < many; i++) {
            int kind = rest % OPENERS.length;
            so.insert(0, kind == 0 ? ",b]" : kind == 4 ? "]" : ")");
            rest /= OPENERS.length;
        }
        return so.toString();
    }

    private static void fiveAreOpen() {
        Due.sentence("At most 5 [ and ( are open at once.");
        for (int kinds = 0; kinds < 3125; kinds++) {
            BracketLetters x = Due.object(2, 2);
            String text = opened(kinds, 5) + "a" + closed(kinds, 5);
            int answer = Due.told(x, 0, text);
            boolean sure = text.indexOf('E') < 0 && text.indexOf('L') < 0;
            Due.holds("read of " + text, answer == 0 || answer == -9 && !sure);
        }
        dueRead("(((((a)))))", 0, "1*a");
        dueRead("(((([a,b]))))", 0, "1*ab -1*ba");
        dueRead("L(E(L(E(L(1)))))", 0, "");
        dueRead("L(E(L(E((a)))))", 0, "1*a");
        dueRead("[[[[[a,b],b],b],b],b]", 0, "");
        dueRead("[a,[1,[1,[1,[1,b]]]]]", 0, "");
    }

    private static void sixAreNot() {
        Due.sentence("The FAULT is .. a [ or ( too many: its place");
        for (int kinds = 0; kinds < 15625; kinds++) {
            BracketLetters x = Due.object(2, 2);
            int last = kinds / 3125;
            String five = opened(kinds, 5);
            String text = five + OPENERS[last] + "a";
            int place = five.length() + (last == 2 || last == 3 ? 1 : 0);
            Due.due("read of " + text, Due.told(x, 0, text), -10 - place);
        }
        dueFault("((((((", 5);
        dueFault("((((((a))))))", 5);
        dueFault("[[[[[[", 5);
        dueFault("(((((b+(", 7);
        dueFault("[a,[a,[a,[a,[a,[a,", 15);
        dueFault("[(a),[(b),((((", 13);
    }

    private static void openAgain() {
        Due.sentence("At most 5 [ and ( are open at once (closed ones count no more)");
        dueRead("(a)(1)(1)(1)(1)(1)(1)", 0, "1*a");
        dueRead("(((((a)))))(((((b)))))", 0, "1*ab");
        dueRead("[a,b]+[a,b]+[a,b]+[a,b]+[a,b]+[a,b]", 0, "6*ab -6*ba");
        dueRead("((((E(a)))))+((((L(1)))))", 0, "1 1*a 1/2*aa");
        dueRead("[((((a)))),((((b))))]", 0, "1*ab -1*ba");
        dueFault("[((((a)))),(((((b)))))]", 15);
        dueFault("(((((a)(", 8);
        dueFault("(((((a)((", 8);
    }

    // ---- faults, and what is not there

    private static void faultsAtTheEnd() {
        Due.sentence("The FAULT is .. the end of THE TAPE, if it ends too early");
        for (String text : new String[] {"a+", "a-", "a/", "r", "E", "L", "(", "[", "E(", "L(", "(a", "[a", "[a,", "[a,b", "E(a",
            "(a+", "[a/", "(r", "(E", "(((((", "a+b-", "1234/", "a/1+", "[a,b]+", "(a)r"}) {
            dueFault(text, text.length());
        }
    }

    private static void faultsInside() {
        Due.sentence("The FAULT is the place of the first byte (what is behind it doesn't matter)");
        dueFault("a*b", 1);
        dueFault("ab+c", 3);
        dueFault("c+c", 0);
        dueFault("a+c)(", 2);
        dueFault("a.", 1);
        dueFault("a=b", 1);
        dueFault("(a+b", 4);
        dueFault("(a+b]c", 4);
        dueFault("2^3", 1);
        dueFault("a'b", 1);
    }

    private static void noExpNoLog() {
        Due.sentence("-9: EXP, LOG of a SUM of which there is none (to stays then, in both)");
        for (String text : new String[] {"E(1)", "E(2)", "E(0-1)", "E(1+a)", "E(9999)", "L(0)", "L(2)", "L(a)", "L(0-1)", "L(1/2)",
            "E(r7)", "L(r7)", "0E(1)", "E(1)0", "[a,E(1)]", "[L(0),a]", "(L(b))", "E(E(a))", "L(L(1))", "E(L(0))", "aaaL(0)",
            "1+E(1)-E(1)", "E(1)/2"}) {
            dueRead(text, -9, null);
        }
        dueRead("E(1-1)", 0, "1");
        dueRead("L(2-1)", 0, "");
        dueRead("L(2/2)", 0, "");
        dueRead("E(r7-3)", 0, "1 1*a 1/2*aa");
        dueRead("L(r7-2)", 0, "1*a -1/2*aa");
        dueRead("E(0E(a))", 0, "1");
        dueRead("E([E(a),1])", 0, "1");
    }

    private static void faultsGoAhead() {
        Due.sentence("of several the first one told: -10 less the FAULT, then -9");
        dueFault("E(1)+", 5);
        dueFault("E(1)c", 4);
        dueFault("E(1", 3);
        dueFault("L(0)/0", 5);
        dueFault("c+E(1)", 0);
        dueFault("[E(1),a", 7);
        dueFault("E(1)+((((((a", 10);
        BracketLetters x = Due.object(2, 2);
        Due.feed(x, "E(1)+");
        Due.due("NONE ahead of both", x.read(8), Due.NONE);
        Due.due("count(6)", x.count(6), 5);
        Due.due("read(0)", x.read(0), -15);
    }

    private static void longWordsAreDropped() {
        Due.sentence("A TEXT: what is longer than DEGREE is dropped");
        for (int[] shape : Due.SHAPES) {
            BracketLetters x = Due.object(shape[0], shape[1]);
            String longest = "b".repeat(shape[1]);
            Due.due("read", Due.told(x, 0, longest), 0);
            Due.due("the longest", x.at(0, Due.w(longest)), 1);
            Due.due("read", Due.told(x, 0, "a" + longest), 0);
            Due.due("a longer one", x.at(0, Due.w(longest)), 0);
            Due.due("pair", x.pair(0, 0), 0);
            Due.due("read", Due.told(x, 0, "(" + longest + ")(1+b)"), 0);
            Due.due("the longest", x.at(0, Due.w(longest)), 1);
        }
        dueRead("aab", 0, "");
        dueRead("(a+b)(a+b)(a+b)", 0, "");
    }

    private static void toIsReadFirst() {
        Due.sentence("read: to is what THE TAPE, a TEXT, tells (to's own SUM, too, as it was)");
        BracketLetters x = Due.object(2, 2);
        Due.set(x, 3, "2 1*a");
        Due.due("read", Due.told(x, 3, "r3r3"), 0);
        Due.dueSum(x, 3, "4 4*a 1*aa");
        Due.due("read", Due.told(x, 3, "b-r3+r3"), 0);
        Due.dueSum(x, 3, "1*b");
        Due.due("read", Due.told(x, 3, "0"), 0);
        Due.dueSum(x, 3, "");
    }

    private static void toStays() {
        Due.sentence("read: to stays then, in both");
        for (String text : new String[] {"a+", "", "E(1)", "a+E(1)", "ab)", "((((((a", "r0+c"}) {
            BracketLetters x = Due.object(2, 2);
            Due.set(x, 0, "1 2*ab");
            Due.set(x, 1, "7*bb");
            Due.holds("read of " + text, Due.told(x, 0, text) < 0);
            Due.dueSum(x, 0, "1 2*ab");
            Due.dueSum(x, 1, "7*bb");
        }
    }

    private static void noSumForRead() {
        Due.sentence("read: NONE (THE TAPE stays)");
        BracketLetters x = Due.object(2, 2);
        Due.feed(x, "ab");
        for (int r : new int[] {-1, 8, Due.MIN, Due.MAX}) {
            Due.due("read(" + r + ")", x.read(r), Due.NONE);
        }
        Due.due("count(6)", x.count(6), 2);
        Due.feed(x, "+b");
        Due.due("read(7)", x.read(7), 0);
        Due.dueSum(x, 7, "1*b 1*ab");
    }

    // ---- counts

    private static void countsOfEach() {
        Due.sentence("count: 0 LETTERS, 1 DEGREE, 2 WORDS, 3 CHIEFS, 4 STEPS, 5 LAWS, 6 bytes of THE TAPE. NONE");
        int[] words = {7, 15, 31, 63, 127, 13, 40, 121, 364, 21, 85, 341};
        int[] chiefs = {3, 5, 8, 14, 23, 6, 14, 32, 80, 10, 30, 90};
        for (int i = 0; i < Due.SHAPES.length; i++) {
            BracketLetters x = Due.object(Due.SHAPES[i][0], Due.SHAPES[i][1]);
            dueCounts(x, Due.SHAPES[i][0], Due.SHAPES[i][1], words[i], chiefs[i], 0, 0, 0);
            x.step(0, 1, 1);
            x.step(0, 1, 1);
            x.step(0, 1, 1);
            Due.set(x, 0, "1*a");
            x.relate(0);
            x.relate(0);
            Due.feed(x, "12345");
            dueCounts(x, Due.SHAPES[i][0], Due.SHAPES[i][1], words[i], chiefs[i], 3, 2, 5);
            x.unstep();
            x.read(1);
            dueCounts(x, Due.SHAPES[i][0], Due.SHAPES[i][1], words[i], chiefs[i], 0, 2, 0);
        }
    }

    private static void dueCounts(BracketLetters x, int... counts) {
        for (int what = 0; what <= 6; what++) {
            Due.due("count(" + what + ")", x.count(what), counts[what]);
        }
        Due.due("count(-1)", x.count(-1), Due.NONE);
        Due.due("count(7)", x.count(7), Due.NONE);
    }
}
