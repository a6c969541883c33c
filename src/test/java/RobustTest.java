import java.util.Random;

/** All promises: no call may throw or fail to end, whatever it is given; and the same calls answer the same. */
final class RobustTest {
    private static final String[] BITS = {
        "'", "'a b'", "'a*2 ~ [b,c]?'", "'<a b>/3'", "'{a b c}%5'", "'1 0 2'(", "(", ")", "&", ";", "#", "+", "-", "*", ".", "=", "\n",
        "fast 3:2 ", "slow 4 ", "early 1:3 ", "late 5:4 ", "rev ", "every 2 ", "when 3 1 ", "off 1:8 ", "over ", "iter 4 ", "ply 3 ",
        "chunk 4 ", "inside 2 ", "rot 1 ", "struct ", "mask ", "drop 400 ", "keep 400 ", "some 500 ", "within 1:4 1 ", "squeeze 0 1:2 ",
        "a ", "b ", "f ", "g ", "a = ", "b = ", "f x = ", "g x y = ", "x ", "y ", "(rev) ", "(# 'x') ", "0", "33", "1:0", "12345", "A", "\u00ff"
    };

    private static final int MOST_CALLS = 512;
    /** A tape of bits has at most some 200 bytes: ten calls that feed it, one that reads it. */
    private static final int MOST_AT_ONCE = 11;
    private static int calls = 0;

    public static void main(String[] args) {
        for (int seed = 0; seed < 1500; seed++) {
            Check.same("run " + seed, run(seed), run(seed));
        }
        heavy();
        Check.finish("RobustTest");
    }

    private static long run(int seed) {
        Random random = new Random(seed);
        CycleStudio x = new CycleStudio();
        long all = 0;
        calls = 0;
        while (calls <= MOST_CALLS - MOST_AT_ONCE) {
            all = all * 31 + one(x, random);
        }
        return all;
    }

    private static int any(Random random) {
        int kind = random.nextInt(6);
        return kind == 0 ? random.nextInt() : kind == 1 ? random.nextInt(5000) - 1000 : random.nextInt(10) - 1;
    }

    private static int one(CycleStudio x, Random random) {
        int a = any(random);
        int b = any(random);
        calls++;
        switch (random.nextInt(22)) {
            case 0: return x.feed(random.nextInt(), a, b, a ^ b, random.nextInt()) ? 1 : 0;
            case 1: calls++; return x.end(random.nextInt(3) == 0 ? a : x.about(6)) ? 1 : 0;
            case 2: return x.read();
            case 3: return x.hang(a);
            case 4: return x.hush(a) ? 1 : 0;
            case 5: return x.told(a);
            case 6: return x.bound(a, b);
            case 7: return x.ask(a, b);
            case 8: return x.event(a, b);
            case 9: return x.letter(a, b);
            case 10: return x.play(a);
            case 11: return x.heard(a, b);
            case 12: return x.heardLetter(a, b);
            case 13: return x.jump(a) ? 1 : 0;
            case 14: return x.mute(a, b > 3) ? 1 : 0;
            case 15: return x.solo(a, b > 3) ? 1 : 0;
            case 16: x.seed(a); return 0;
            case 17: return x.about(a);
            default: return tapeOf(x, random);
        }
    }

    /** Feeds bits of the language, in any order, and lets them be read. */
    private static int tapeOf(CycleStudio x, Random random) {
        StringBuilder text = new StringBuilder();
        int many = 1 + random.nextInt(12);
        for (int i = 0; i < many; i++) {
            text.append(BITS[random.nextInt(BITS.length)]);
        }
        String plain = text.toString().replace('\'', '"');
        for (int from = 0; from < plain.length(); from += 20) {
            int[] four = new int[5];
            for (int i = 0; i < 20; i++) {
                int b = from + i < plain.length() ? plain.charAt(from + i) : ' ';
                four[i / 4] |= b << (24 - 8 * (i % 4));
            }
            x.feed(four[0], four[1], four[2], four[3], four[4]);
            calls++;
        }
        return random.nextBoolean() ? x.read() : x.hang(random.nextInt(8));
    }

    /** Patterns near all their bounds. */
    private static void heavy() {
        Check all = new Check();
        all.with("f x = x # (slow 64 'a')\ng x = f (f (f x))\nd = 'a*5'");
        all.on(0, "ply 3 (slow 64 'a')");
        all.on(1, "fast 32 '{~ ~ ~ ~ ~ ~ ~ ~ ~ ~ ~ ~ ~ ~ ~ ~ ~ ~ a}%12'");
        all.on(2, "g (g (g d))");
        all.on(3, "rev (rot 7 (off 1:3 rev '[a*10]*13'))");
        all.on(4, "struct '1*4' (slow 64 '[[a,b]*4 c]*2')");
        all.on(5, "d" + Check.times(30, "&d"));
        all.on(6, "chunk 7 (iter 5) (slow 7:5 (late 3:7 '[[a b c]*5,[d e]*7]'))");
        all.on(7, "some 500 (ply 2) (mask '1 0' (fast 7:3 '[[a b]*5,c d e]'))");
        int many = 0;
        for (int i = 0; i < 20; i++) {
            many += all.x().play(3840);
        }
        Check.same("in all", all.x().about(5), many);
    }
}
