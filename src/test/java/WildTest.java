import java.util.Random;

/** Calls with the wildest arguments in any state: none may throw, and refusals change nothing. */
public final class WildTest {
    private static final int[] EDGES = {Integer.MIN_VALUE, Integer.MIN_VALUE + 1, -2147483647, -65536, -10000, -9999, -100,
        -99, -8, -1, 0, 1, 2, 3, 4, 5, 6, 7, 8, 9, 10, 12, 13, 22, 23, 63, 64, 79, 80, 89, 90, 99, 100, 101, 340, 341, 364,
        511, 512, 9999, 10000, 32767, 32768, 42130, 262143, 262144, 1073741823, 1073741824, 2147483646, 2147483647};
    private static final String SIGNS = "aabbcdr01237[[](()),,++-/EEL(9";

    private static int wrong = 0;

    private final Random random;
    private final BracketLetters x;

    private WildTest(long seed) {
        random = new Random(seed);
        x = new BracketLetters(wild(), wild());
    }

    public static void main(String[] args) {
        for (long seed = 1; seed <= 400; seed++) {
            try {
                new WildTest(seed).callAll(seed % 2 == 0);
            } catch (RuntimeException | Error thrown) {
                wrong++;
                System.out.println("seed " + seed + " threw " + thrown);
            }
        }
        System.out.println(wrong == 0 ? "no call threw" : wrong + " runs went wrong");
        if (wrong != 0) {
            System.exit(1);
        }
    }

    private int wild() {
        return random.nextInt(12) == 0 ? random.nextInt() : EDGES[random.nextInt(EDGES.length)];
    }

    /** Wild ones, or such as mostly are there. */
    private int any(boolean tame) {
        return tame && random.nextInt(10) != 0 ? random.nextInt(8) : wild();
    }

    private void callAll(boolean tame) {
        for (int i = 0; i < 512; i++) {
            int call = random.nextInt(38);
            long before = tame ? 0 : seen();
            int got = call < 17 ? callSums(call, tame) : callOthers(call, tame);
            boolean refused = got == BracketLetters.BAD || got == BracketLetters.STATE || got == BracketLetters.FULL;
            if (!tame && refused && seen() != before) {
                wrong++;
                System.out.println("call " + call + " answered " + got + " and changed something");
            }
        }
    }

    /** All that can be seen of the state, in one number. */
    private long seen() {
        long so = 7;
        for (int r = 0; r < 8; r++) {
            for (int told = 0; told < 90; told++) {
                so = so * 31 + x.at(r, told);
            }
        }
        for (int what = 0; what < 7; what++) {
            so = so * 31 + x.count(what);
        }
        return so;
    }

    private int callSums(int call, boolean tame) {
        int a = any(tame);
        int b = any(tame);
        int c = any(tame);
        int d = any(tame);
        switch (call) {
            case 0: return x.clear(a);
            case 1: return x.put(a, b, c, d);
            case 2: return x.at(a, b);
            case 3: return x.fraction(a, b) == BracketLetters.NO ? 0 : 1;
            case 4: return x.add(a, b, c, d);
            case 5: return x.times(a, b, c);
            case 6: return x.bracket(a, b, c);
            case 7: return x.shuffle(a, b, c);
            case 8: return x.turn(a, b);
            case 9: return x.exp(a, b);
            case 10: return x.log(a, b);
            case 11: return x.inverse(a, b);
            case 12: return x.group(a, b, c);
            case 13: return x.derive(a, b, c, d);
            case 14: return x.replace(a, b, c, d);
            case 15: return x.part(a, b, c);
            default: return x.pair(a, b);
        }
    }

    private int callOthers(int call, boolean tame) {
        int a = any(tame);
        int b = any(tame);
        int c = any(tame);
        switch (call) {
            case 17: return x.lyndon(a);
            case 18: return x.lyndons(a);
            case 19: return x.side(a, b);
            case 20: return x.basis(a, b);
            case 21: return x.text(a, b);
            case 22: return x.share(a, b);
            case 23: return x.lie(a);
            case 24: return x.table(a, b, c) == BracketLetters.NO ? 0 : 1;
            case 25: return x.step(a, b, c);
            case 26: return x.unstep();
            case 27: return x.scheme(a);
            case 28: return x.order() + 100;
            case 29: return x.relate(a);
            case 30: return x.size(a);
            case 31: case 32: case 33: case 34: return x.feed(signs(), any(tame));
            case 35: return x.read(a) == 0 ? 0 : BracketLetters.NONE;
            case 36: return x.put(a, 0, random.nextInt(2), 1);
            default: return x.count(a);
        }
    }

    private long signs() {
        if (random.nextInt(5) == 0) {
            return random.nextLong();
        }
        long w = 0;
        for (int i = 0; i < 8; i++) {
            w = w << 8 | SIGNS.charAt(random.nextInt(SIGNS.length()));
        }
        return w;
    }
}
