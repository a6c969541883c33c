/** What README.md tells under "Use" is as the class answers it. */
public final class ReadmeTest {
    public static void main(String[] args) {
        CycleStudio x = new CycleStudio();
        oneTrack(x);
        definitions(x);
        Check.finish("ReadmeTest");
    }

    private static void oneTrack(CycleStudio x) {
        Check.same("feed", x.feed(0x22626420, 0x736e2a32, 0x22000000, 0, 0), true);
        Check.same("end(9)", x.end(9), true);
        Check.same("hang(0)", x.hang(0), 0);
        Check.same("ask(0, 5)", x.ask(0, 5), 3);
        Check.same("event(1, 0)", x.event(1, 0), 1);
        Check.same("event(1, 1)", x.event(1, 1), 2);
        Check.same("letter(1, 0)", x.letter(1, 0), 's');
        Check.same("play(960)", x.play(960), 3);
        Check.same("heard(2, 2)", x.heard(2, 2), 3);
        Check.same("heard(2, 3)", x.heard(2, 3), 4);
    }

    private static void definitions(CycleStudio x) {
        tape(x, "hat = \"hh*4\"\ntwice p = fast 2 p & rev p\n");
        Check.same("read()", x.read(), 0);
        Check.same("about(2)", x.about(2), 2);
        tape(x, "every 2 twice (hat # \"1 2\")");
        Check.same("hang(1)", x.hang(1), 0);
        tape(x, "fast 2 (hat & kick)");
        Check.same("hang(2)", x.hang(2), 2);
        Check.same("told(1)", x.told(1), 14);
        Check.same("about(6)", x.about(6), 0);
        Check.same("about(3)", x.about(3), 2);
    }

    private static void tape(CycleStudio x, String text) {
        int[] five = new int[5];
        for (int from = 0; from < text.length(); from += 20) {
            for (int i = 0; i < 20; i++) {
                int b = from + i < text.length() ? text.charAt(from + i) : 0;
                five[i / 4] = five[i / 4] << 8 | b;
            }
            x.feed(five[0], five[1], five[2], five[3], five[4]);
        }
        x.end(text.length());
    }
}
