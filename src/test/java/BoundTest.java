/** Promise 8 (and what told(2) says): GRAIN, CROWD, REACH, WORK and DEPTH of every way to make a pattern. */
final class BoundTest {
    public static void main(String[] args) {
        texts();
        functions();
        functionsOfFuns();
        expressions();
        asked();
        Check.finish("BoundTest");
    }

    private static void are(String exp, String bounds, int counted) {
        Check all = new Check().on(0, exp);
        Check.same("bounds of " + exp, all.bounds(0), bounds);
        Check.same("counted of " + exp, all.x().told(2), counted);
    }

    private static void texts() {
        are("'a'", "1 1 1 2 2", 2);
        are("'5'", "1 1 1 2 2", 2);
        are("'~'", "1 0 1 2 2", 2);
        are("'a b c'", "3 3 1 4 2", 4);
        are("'a@3 b!2 ~@2'", "7 3 1 5 2", 4);
        are("'[a b]!3'", "6 6 1 10 3", 4);
        are("'[a b,c d e]'", "6 5 1 9 4", 9);
        are("'<a [b c] ~>'", "2 2 1 5 4", 7);
        are("'<a b!2>'", "1 1 1 3 3", 4);
        are("'{a [b c] ~}%4'", "8 8 1 14 4", 7);
        are("'a(3,8)'", "8 3 1 5 3", 3);
        are("'[a b](0,4)'", "8 0 1 2 4", 5);
        are("'a*3'", "3 3 1 5 3", 3);
        are("'a*1'", "1 1 1 3 3", 3);
        are("'[a b]/3'", "2 4 3 8 4", 5);
        are("'a/1'", "1 1 1 3 3", 3);
        are("'a?*2?'", "2 2 1 7 5", 5);
        are("'bd*2 [sn cp] <a b c> a(3,8) ~ 5'", "48 9 1 15 3", 14);
    }

    private static void functions() {
        are("fast 3:2 'a b c'", "9 9 1 13 3", 5);
        are("fast 2:4 'a b'", "2 4 2 7 3", 4);
        are("fast 64:63 'a'", "64 3 1 7 3", 3);
        are("slow 3 'a b c d'", "4 8 3 11 3", 6);
        are("slow 3:2 'a'", "2 2 2 5 3", 3);
        are("slow 5:2 (slow 3:2 'a')", "4 4 5 11 4", 4);
        are("early 2:4 'a b c'", "6 6 1 9 3", 5);
        are("early 3 'a b c'", "3 3 1 5 3", 5);
        are("late 0:5 'a b c'", "3 3 1 5 3", 5);
        are("late 63:64 'a b c'", "192 6 1 9 3", 5);
        are("rev 'a b'", "2 2 1 4 3", 4);
        are("rev (slow 3 'a b')", "2 4 1 8 4", 5);
        are("iter 4 'a b c'", "12 6 1 9 3", 5);
        are("ply 3 'a b'", "6 12 1 19 3", 4);
        are("ply 2 (slow 3 'a')", "2 16 3 37 4", 4);
        are("rot 2 'a b c'", "3 3 1 8 3", 5);
        are("drop 5 'a b'", "2 2 1 4 3", 4);
        are("keep 5 'a b'", "2 2 1 4 3", 4);
        are("squeeze 1:4 1 'a b'", "8 2 1 4 3", 4);
        are("squeeze 1:3 5:6 'a'", "6 1 1 3 3", 3);
        are("squeeze 1:6 1:2 'a b c'", "18 3 1 5 3", 5);
        are("struct 'a b' (slow 2 'c')", "2 2 1 34 4", 7);
        are("struct (slow 2 'c') 'a b'", "1 2 2 18 4", 7);
        are("mask (slow 2 'c') 'a b'", "2 2 1 34 4", 7);
        are("mask 'a b' (slow 2 'c')", "1 2 2 18 4", 7);
    }

    private static void functionsOfFuns() {
        are("every 2 (fast 3) 'a b'", "6 6 1 11 4", 5);
        are("when 2 1 (slow 3) 'a b'", "2 4 3 8 4", 5);
        are("off 1:3 rev 'a b'", "6 6 1 13 5", 6);
        are("over (fast 3) 'a b'", "6 8 1 14 4", 5);
        are("chunk 5 (fast 3) 'a b'", "6 8 1 14 4", 5);
        are("within 1:7 1:2 (slow 3) 'a b'", "2 6 3 11 4", 5);
        are("inside 3 rev 'a b'", "6 12 1 25 5", 6);
        are("some 100 (fast 3) 'a b'", "6 8 1 18 5", 7);
        are("every 1 (fast 2 . # 'x y') 'a b'", "4 4 1 34 5", 9);
    }

    private static void expressions() {
        are("'a b' & 'c d e' & 'f'", "6 6 1 10 3", 11);
        are("'a b' ; 'c d e' ; 'f'", "6 3 1 5 3", 11);
        are("'a b' # 'c d e'", "2 2 1 20 3", 8);
        are("'a b' + 'c' - 'd' * 'e'", "2 2 1 30 5", 12);
        are("('a')", "1 1 1 2 2", 2);
        Check all = new Check().with("p = 'a b'\nf x y = x & y & 'c'");
        Check.same("a definition", all.on(0, "p").bounds(0), "2 2 1 3 2");
        Check.same("one with parameters", all.on(0, "f p (rev p)").bounds(0), "2 5 1 10 4");
        Check.same("counted of it", all.x().told(2), 6);
    }

    private static void asked() {
        Check all = new Check();
        Check.same("without one", all.x().bound(0, 0), -1);
        all.on(7, "'a'");
        Check.same("its own", all.x().bound(7, 4), 2);
        Check.same("5", all.x().bound(7, 5), -1);
        Check.same("-1", all.x().bound(7, -1), -1);
        Check.same("no track", all.x().bound(8, 0), -1);
        Check.same("no track", all.x().bound(-1, 0), -1);
        all.x().play(1);
        all.on(7, "'a b c'");
        Check.same("it has the former one until the next cycle", all.x().bound(7, 0), 1);
        all.x().play(959);
        Check.same("then the next", all.x().bound(7, 0), 3);
    }
}
