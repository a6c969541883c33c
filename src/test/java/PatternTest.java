/** Promises 9 to 11: what patterns are, row by row. The rows are those of a second program, worked out in fractions. */
final class PatternTest {
    public static void main(String[] args) {
        texts();
        times();
        choices();
        meetings();
        expressions();
        definitions();
        seeds();
        farCycles();
        asking();
        Check.finish("PatternTest");
    }

    private static void rowIs(String exp, int c, String due) {
        Check.same("row " + c + " of " + exp, new Check().on(0, exp).row(0, c), due);
    }

    private static void texts() {
        rowIs("'bd*2 [sn cp] <a b c> a(3,8) ~ 5'", 0, "0+1/12:bd 1/12+1/12:bd 1/6+1/12:sn 1/4+1/12:cp 1/3+1/6:a 1/2+1/48:a 9/16+1/48:a 5/8+1/48:a 5/6+1/6:#5");
        rowIs("'bd*2 [sn cp] <a b c> a(3,8) ~ 5'", 1, "0+1/12:bd 1/12+1/12:bd 1/6+1/12:sn 1/4+1/12:cp 1/3+1/6:b 1/2+1/48:a 9/16+1/48:a 5/8+1/48:a 5/6+1/6:#5");
        rowIs("'bd*2 [sn cp] <a b c> a(3,8) ~ 5'", -1, "0+1/12:bd 1/12+1/12:bd 1/6+1/12:sn 1/4+1/12:cp 1/3+1/6:c 1/2+1/48:a 9/16+1/48:a 5/8+1/48:a 5/6+1/6:#5");
        rowIs("'a@3 b!2 c'", 0, "0+1/2:a 1/2+1/6:b 2/3+1/6:b 5/6+1/6:c");
        rowIs("'a [b c]/2 d'", 0, "0+1/3:a 1/3+1/3:b 2/3+1/3:d");
        rowIs("'a [b c]/2 d'", 1, "0+1/3:a 1/3+1/3:c 2/3+1/3:d");
        rowIs("'a [b c]/2 d'", -1, "0+1/3:a 1/3+1/3:c 2/3+1/3:d");
        rowIs("'abcdefgh -123456 007'", 0, "0+1/3:abcdefgh 1/3+1/3:#-123456 2/3+1/3:#7");
        rowIs("'[a b, c d e, 1]'", 0, "0+1/2:a 0+1/3:c 0+1:#1 1/3+1/3:d 1/2+1/2:b 2/3+1/3:e");
        rowIs("'[a*2,b,c*2]'", 0, "0+1/2:a 0+1:b 0+1/2:c 1/2+1/2:a 1/2+1/2:c");
        rowIs("'<a b@2 c!2>'", 0, "0+1:a");
        rowIs("'<a b@2 c!2>'", 1, "0+1:b");
        rowIs("'<a b@2 c!2>'", 2, "0+1:b");
        rowIs("'<a b@2 c!2>'", 3, "0+1:c");
        rowIs("'<a b@2 c!2>'", 4, "0+1:c");
        rowIs("'<a b@2 c!2>'", 5, "0+1:a");
        rowIs("'<a b@2 c!2>'", -1, "0+1:c");
        rowIs("'<[a b]/2 <c d>>'", 0, "0+1:a");
        rowIs("'<[a b]/2 <c d>>'", 1, "0+1:c");
        rowIs("'<[a b]/2 <c d>>'", 2, "0+1:b");
        rowIs("'<[a b]/2 <c d>>'", 3, "0+1:d");
        rowIs("'<[a b]/2 <c d>>'", 4, "0+1:a");
        rowIs("'<[a b]/2 <c d>>'", -2, "0+1:b");
        rowIs("'{a b c}%4'", 0, "0+1/4:a 1/4+1/4:b 1/2+1/4:c 3/4+1/4:a");
        rowIs("'{a b c}%4'", 1, "0+1/4:b 1/4+1/4:c 1/2+1/4:a 3/4+1/4:b");
        rowIs("'{a b c}%4'", -1, "0+1/4:c 1/4+1/4:a 1/2+1/4:b 3/4+1/4:c");
        rowIs("'{a@2 <b c>}%2'", 0, "0+1/2:a 1/2+1/2:a");
        rowIs("'{a@2 <b c>}%2'", 1, "0+1/2:b 1/2+1/2:a");
        rowIs("'{a@2 <b c>}%2'", 2, "0+1/2:a 1/2+1/2:c");
        rowIs("'{a@2 <b c>}%2'", 3, "0+1/2:a 1/2+1/2:a");
        rowIs("'a(3,8) b(3,8,2)'", 0, "0+1/16:a 3/16+1/16:a 3/8+1/16:a 9/16+1/16:b 3/4+1/16:b 7/8+1/16:b");
        rowIs("'a(0,4) b(4,4) c(1,1,31)'", 0, "1/3+1/12:b 5/12+1/12:b 1/2+1/12:b 7/12+1/12:b 2/3+1/3:c");
        rowIs("'a/3 [b c]/2'", 0, "0+3/2:a 1/2+1/2:b");
        rowIs("'a/3 [b c]/2'", 1, "1/2+1/2:c");
        rowIs("'a/3 [b c]/2'", 2, "1/2+1/2:b");
        rowIs("'a? b? c? d? e?*4'", 0, "0+1/5:a 4/5+1/20:e 17/20+1/20:e");
        rowIs("'a? b? c? d? e?*4'", 1, "0+1/5:a 3/5+1/5:d 9/10+1/20:e");
        rowIs("'a? b? c? d? e?*4'", 2, "1/5+1/5:b 3/5+1/5:d 4/5+1/20:e 19/20+1/20:e");
        rowIs("'a? b? c? d? e?*4'", -7, "0+1/5:a 1/5+1/5:b 2/5+1/5:c 4/5+1/20:e 9/10+1/20:e 19/20+1/20:e");
    }

    private static void times() {
        rowIs("fast 3:2 'a b c'", 0, "0+2/9:a 2/9+2/9:b 4/9+2/9:c 2/3+2/9:a 8/9+2/9:b");
        rowIs("fast 3:2 'a b c'", 1, "1/9+2/9:c 1/3+2/9:a 5/9+2/9:b 7/9+2/9:c");
        rowIs("fast 3:2 'a b c'", -1, "1/9+2/9:c 1/3+2/9:a 5/9+2/9:b 7/9+2/9:c");
        rowIs("slow 3 'a b c d'", 0, "0+3/4:a 3/4+3/4:b");
        rowIs("slow 3 'a b c d'", 1, "1/2+3/4:c");
        rowIs("slow 3 'a b c d'", 2, "1/4+3/4:d");
        rowIs("slow 3 'a b c d'", -1, "1/4+3/4:d");
        rowIs("early 1:3 'a b'", 0, "1/6+1/2:b 2/3+1/2:a");
        rowIs("early 1:3 'a b'", -1, "1/6+1/2:b 2/3+1/2:a");
        rowIs("late 5:4 '<a b> c'", 0, "1/4+1/2:b 3/4+1/2:c");
        rowIs("late 5:4 '<a b> c'", 1, "1/4+1/2:a 3/4+1/2:c");
        rowIs("rev 'a b@2 [c,d*2]'", 0, "0+1/4:c 0+1/8:d 1/8+1/8:d 1/4+1/2:b 3/4+1/4:a");
        rowIs("rev (late 1:4 'a b')", 0, "0+1/4:b 1/4+1/2:a");
        rowIs("rev '[a,b,c]'", 0, "0+1:a 0+1:b 0+1:c");
        rowIs("iter 4 'a b c d'", 0, "0+1/4:a 1/4+1/4:b 1/2+1/4:c 3/4+1/4:d");
        rowIs("iter 4 'a b c d'", 1, "0+1/4:b 1/4+1/4:c 1/2+1/4:d 3/4+1/4:a");
        rowIs("iter 4 'a b c d'", 2, "0+1/4:c 1/4+1/4:d 1/2+1/4:a 3/4+1/4:b");
        rowIs("iter 4 'a b c d'", 3, "0+1/4:d 1/4+1/4:a 1/2+1/4:b 3/4+1/4:c");
        rowIs("iter 4 'a b c d'", -1, "0+1/4:d 1/4+1/4:a 1/2+1/4:b 3/4+1/4:c");
        rowIs("ply 3 'a [b,c]'", 0, "0+1/6:a 1/6+1/6:a 1/3+1/6:a 1/2+1/6:b 1/2+1/6:c 2/3+1/6:b 2/3+1/6:c 5/6+1/6:b 5/6+1/6:c");
        rowIs("ply 2 (slow 3 'a')", 0, "0+3/2:a");
        rowIs("ply 2 (slow 3 'a')", 1, "1/2+3/2:a");
        rowIs("ply 2 (slow 3 'a')", 2, "");
        rowIs("ply 2 (late 1:2 'a')", 0, "0+1/2:a 1/2+1/2:a");
        rowIs("ply 2 (late 1:2 'a')", 1, "0+1/2:a 1/2+1/2:a");
        rowIs("ply 2 '[a b,c]'", 0, "0+1/4:a 0+1/2:c 1/4+1/4:a 1/2+1/2:c 1/2+1/4:b 3/4+1/4:b");
        rowIs("squeeze 1:4 1 'a b'", 0, "1/4+3/8:a 5/8+3/8:b");
        rowIs("squeeze 1:4 1 'a b'", -2, "1/4+3/8:a 5/8+3/8:b");
        rowIs("squeeze 1:9 4:9 'a b'", 0, "1/9+1/6:a 5/18+1/6:b");
        rowIs("squeeze 1:10 1:2 'a b/2'", 0, "1/10+1/5:a 3/10+2/5:b");
        rowIs("squeeze 1:10 1:2 'a b/2'", 1, "1/10+1/5:a");
    }

    private static void choices() {
        rowIs("every 3 (fast 2) 'a b'", 0, "0+1/4:a 1/4+1/4:b 1/2+1/4:a 3/4+1/4:b");
        rowIs("every 3 (fast 2) 'a b'", 1, "0+1/2:a 1/2+1/2:b");
        rowIs("every 3 (fast 2) 'a b'", 2, "0+1/2:a 1/2+1/2:b");
        rowIs("every 3 (fast 2) 'a b'", 3, "0+1/4:a 1/4+1/4:b 1/2+1/4:a 3/4+1/4:b");
        rowIs("every 3 (fast 2) 'a b'", -3, "0+1/4:a 1/4+1/4:b 1/2+1/4:a 3/4+1/4:b");
        rowIs("every 3 (fast 2) 'a b'", -1, "0+1/2:a 1/2+1/2:b");
        rowIs("when 4 2 rev 'a b'", 0, "0+1/2:a 1/2+1/2:b");
        rowIs("when 4 2 rev 'a b'", 1, "0+1/2:a 1/2+1/2:b");
        rowIs("when 4 2 rev 'a b'", 2, "0+1/2:b 1/2+1/2:a");
        rowIs("when 4 2 rev 'a b'", 3, "0+1/2:b 1/2+1/2:a");
        rowIs("when 4 2 rev 'a b'", -1, "0+1/2:b 1/2+1/2:a");
        rowIs("when 4 2 rev 'a b'", -4, "0+1/2:a 1/2+1/2:b");
        rowIs("off 1:8 (# '7') 'a b'", 0, "0+1/2:a 1/8+1/2:a#7 1/2+1/2:b 5/8+1/2:b#7");
        rowIs("over (+ '10') '1 2'", 0, "0+1/2:#1 0+1/2:#11 1/2+1/2:#2 1/2+1/2:#12");
        rowIs("chunk 4 (# '9') 'a b c d'", 0, "0+1/4:a#9 1/4+1/4:b 1/2+1/4:c 3/4+1/4:d");
        rowIs("chunk 4 (# '9') 'a b c d'", 1, "0+1/4:a 1/4+1/4:b#9 1/2+1/4:c 3/4+1/4:d");
        rowIs("chunk 4 (# '9') 'a b c d'", 2, "0+1/4:a 1/4+1/4:b 1/2+1/4:c#9 3/4+1/4:d");
        rowIs("chunk 4 (# '9') 'a b c d'", 3, "0+1/4:a 1/4+1/4:b 1/2+1/4:c 3/4+1/4:d#9");
        rowIs("chunk 4 (# '9') 'a b c d'", -1, "0+1/4:a 1/4+1/4:b 1/2+1/4:c 3/4+1/4:d#9");
        rowIs("chunk 2 (fast 2) 'a b'", 0, "0+1/4:a 1/4+1/4:b 1/2+1/2:b");
        rowIs("chunk 2 (fast 2) 'a b'", 1, "0+1/2:a 1/2+1/4:a 3/4+1/4:b");
        rowIs("inside 2 rev 'a b c d'", 0, "0+1/4:b 1/4+1/4:a 1/2+1/4:d 3/4+1/4:c");
        rowIs("within 1:4 3:4 (fast 2) 'a b c d'", 0, "0+1/4:a 1/4+1/8:c 3/8+1/8:d 1/2+1/8:a 5/8+1/8:b 3/4+1/4:d");
        rowIs("some 500 (# '1') 'a*8'", 0, "0+1/8:a 1/8+1/8:a 1/4+1/8:a#1 3/8+1/8:a 1/2+1/8:a#1 5/8+1/8:a 3/4+1/8:a 7/8+1/8:a#1");
        rowIs("some 500 (# '1') 'a*8'", 1, "0+1/8:a 1/8+1/8:a 1/4+1/8:a#1 3/8+1/8:a 1/2+1/8:a 5/8+1/8:a 3/4+1/8:a#1 7/8+1/8:a#1");
        rowIs("drop 500 'a*8'", 0, "0+1/8:a 1/8+1/8:a 3/8+1/8:a 5/8+1/8:a 3/4+1/8:a");
        rowIs("drop 500 'a*8'", 1, "0+1/8:a 1/8+1/8:a 3/8+1/8:a 1/2+1/8:a 5/8+1/8:a");
        rowIs("drop 500 'a*8'", -5, "0+1/8:a 3/8+1/8:a 5/8+1/8:a 3/4+1/8:a");
        rowIs("keep 500 'a*8'", 0, "1/4+1/8:a 1/2+1/8:a 7/8+1/8:a");
        rowIs("keep 500 'a*8'", 1, "1/4+1/8:a 3/4+1/8:a 7/8+1/8:a");
        rowIs("keep 500 'a*8'", -5, "1/8+1/8:a 1/4+1/8:a 1/2+1/8:a 7/8+1/8:a");
        rowIs("drop 0 'a*8'", 3, "0+1/8:a 1/8+1/8:a 1/4+1/8:a 3/8+1/8:a 1/2+1/8:a 5/8+1/8:a 3/4+1/8:a 7/8+1/8:a");
        rowIs("keep 1000 'a*8'", 3, "0+1/8:a 1/8+1/8:a 1/4+1/8:a 3/8+1/8:a 1/2+1/8:a 5/8+1/8:a 3/4+1/8:a 7/8+1/8:a");
        rowIs("rot 1 'a ~ b 3'", 0, "0+1/4:b 1/2+1/4:#3 3/4+1/4:a");
        rowIs("rot 32 'a b c'", 0, "0+1/3:c 1/3+1/3:a 2/3+1/3:b");
    }

    private static void meetings() {
        rowIs("struct '1 0 x ~ -1' 'a b'", 0, "0+1/5:a 2/5+1/5:a 4/5+1/5:b");
        rowIs("struct '1*2' (slow 3 'a ~ b')", 0, "0+1/2:a 1/2+1/2:a");
        rowIs("struct '1*2' (slow 3 'a ~ b')", 1, "");
        rowIs("struct '1*2' (slow 3 'a ~ b')", 2, "0+1/2:b 1/2+1/2:b");
        rowIs("mask '1 0 x' 'a*6'", 0, "0+1/6:a 1/6+1/6:a 2/3+1/6:a 5/6+1/6:a");
        rowIs("mask '1 ~' 'a*4'", 0, "0+1/4:a 1/4+1/4:a");
        rowIs("'a 1 b 2' # '<5 x> y'", 0, "0+1/4:a#5 1/4+1/4:#5 1/2+1/4:y 3/4+1/4:y#2");
        rowIs("'a 1 b 2' # '<5 x> y'", 1, "0+1/4:x 1/4+1/4:x#1 1/2+1/4:y 3/4+1/4:y#2");
        rowIs("('a' # '3') # '[4,b]'", 0, "0+1:b#3");
        rowIs("'a*4' # '[1, 2 ~]'", 0, "0+1/4:a#2 1/4+1/4:a#2 1/2+1/4:a#1 3/4+1/4:a#1");
        rowIs("'1 2 a' + '10'", 0, "0+1/3:#11 1/3+1/3:#12 2/3+1/3:a");
        rowIs("'1 2' - '10 a'", 0, "0+1/2:#-9 1/2+1/2:#2");
        rowIs("('999999' * '999999') * '-7'", 0, "0+1:#810692473");
        rowIs("'1' - '2' - '3' * '5'", 0, "0+1:#-20");
        rowIs("'a*2' # (late 3:4 '1 2')", 0, "0+1/2:a#1 1/2+1/2:a#2");
    }

    private static void expressions() {
        rowIs("'a b' & 'c' & 'd e f'", 0, "0+1/2:a 0+1:c 0+1/3:d 1/3+1/3:e 1/2+1/2:b 2/3+1/3:f");
        rowIs("'a b' ; 'c' ; '<d e>'", 0, "0+1/2:a 1/2+1/2:b");
        rowIs("'a b' ; 'c' ; '<d e>'", 1, "0+1:c");
        rowIs("'a b' ; 'c' ; '<d e>'", 2, "0+1:d");
        rowIs("'a b' ; 'c' ; '<d e>'", 5, "0+1:e");
        rowIs("'a b' ; 'c' ; '<d e>'", -1, "0+1:e");
        rowIs("every 1 (rev . fast 2 . # '1') 'a b'", 0, "0+1/4:b#1 1/4+1/4:a#1 1/2+1/4:b#1 3/4+1/4:a#1");
        rowIs("over ((late 1:2 . (+ '1')) . * '3') '2'", 0, "0+1:#2 1/2+1:#7");
        rowIs("every 1 (off 1:4 (every 1 (+ '1')) . struct '1 1') '5'", 0, "0+1/2:#5 1/4+1/2:#6 1/2+1/2:#5 3/4+1/2:#6");
    }

    private static void definitions() {
        Check all = new Check().with("d = 'a b'\nf x = fast 2 x\ng x y = x # y\nk = f d\nd = 'z'\n");
        Check.same("a definition with parameters", all.on(0, "g 'a b' '1'").row(0, 0), "0+1/2:a#1 1/2+1/2:b#1");
        Check.same("one as a FUN", all.on(0, "every 1 f 'a'").row(0, 0), "0+1/2:a 1/2+1/2:a");
        Check.same("one as a piece", all.on(0, "every 1 (g 'x' . f) '1 2'").row(0, 0), "0+1:x#1");
        Check.same("what was made stays so", all.on(0, "k").row(0, 0), "0+1/4:a 1/4+1/4:b 1/2+1/4:a 3/4+1/4:b");
        Check.same("the later one holds", all.on(0, "d").row(0, 0), "0+1:z");
        all.with("f x = rev x");
        Check.same("told again", all.on(0, "f 'a b'").row(0, 0), "0+1/2:b 1/2+1/2:a");
        all.with("h x = f x\nf x = x # '9'");
        Check.same("a body names what held", all.on(0, "h 'a b'").row(0, 0), "0+1/2:b 1/2+1/2:a");
        all.with("p d = d & 'q'");
        Check.same("a parameter goes ahead", all.on(0, "p 'w'").row(0, 0), "0+1:w 0+1:q");
        all.with("z a b c d = a ; b ; c ; d");
        Check.same("four parameters", all.on(0, "z '1' '2' '3' '4'").row(0, 2), "0+1:#3");
    }

    private static void seeds() {
        Check all = new Check().on(0, "'a*8?' & drop 500 'b*8'");
        String before = all.row(0, 4);
        all.x().seed(12345);
        Check.same("another seed", all.row(0, 4).equals(before), false);
        all.x().seed(0);
        Check.same("seed 0 again", all.row(0, 4), before);
        all.x().seed(-1);
        Check.same("seed below 0", all.on(0, "drop 500 'a*8'").row(0, 7), "0+1/8:a 1/4+1/8:a 1/2+1/8:a 5/8+1/8:a 7/8+1/8:a");
    }

    private static void farCycles() {
        rowIs("late 63:64 'a'", 100000, "63/64+1:a");
        rowIs("fast 7:3 '<a b c d e>'", 100000, "2/7+3/7:e 5/7+3/7:a");
        rowIs("'{a b c d e f g}%3'", -1000, "0+1/3:d 1/3+1/3:e 2/3+1/3:f");
        rowIs("inside 5 rev '{a b c d e f g}%3'", 99999, "0+1/5:f 1/5+1/15:g 3/5+2/15:a");
        rowIs("early 64 (slow 63:64 '<a b c d e> f')", 100000, "23/128+63/128:f 43/64+63/128:d");
        rowIs("drop 500 (fast 13 'a')", 100000, "0+1/13:a 1/13+1/13:a 3/13+1/13:a 6/13+1/13:a 12/13+1/13:a");
    }

    private static void asking() {
        Check all = new Check();
        Check.same("event ahead of ask", all.x().event(0, 0), -1);
        Check.same("letter ahead of ask", all.x().letter(0, 0), -1);
        Check.same("ask without a pattern", all.x().ask(0, 0), -1);
        all.on(0, "'ab 5'");
        Check.same("ask", all.x().ask(0, 0), 2);
        Check.same("ask of no track", all.x().ask(8, 0), -1);
        Check.same("ask of no track", all.x().ask(-1, 0), -1);
        Check.same("ask of a track without one", all.x().ask(1, 0), -1);
        Check.same("ask too early", all.x().ask(0, -1001), -1);
        Check.same("ask too late", all.x().ask(0, 100001), -1);
        Check.same("what was asked stays", all.x().event(1, 4), 5);
        Check.same("event -1", all.x().event(-1, 0), -1);
        Check.same("event 2", all.x().event(2, 0), -1);
        Check.same("event's 7", all.x().event(0, 7), -1);
        Check.same("event's -1", all.x().event(0, -1), -1);
        Check.same("number without one", all.x().event(0, 4), 0);
        Check.same("has a number", all.x().event(0, 5), 0);
        Check.same("has a number", all.x().event(1, 5), 1);
        Check.same("letters", all.x().event(0, 6), 2);
        Check.same("letters", all.x().event(1, 6), 0);
        Check.same("letter 0", all.x().letter(0, 0), 'a');
        Check.same("letter 1", all.x().letter(0, 1), 'b');
        Check.same("letter 2", all.x().letter(0, 2), -1);
        Check.same("letter -1", all.x().letter(0, -1), -1);
        Check.same("letter of a number", all.x().letter(1, 0), -1);
        Check.same("letter of no event", all.x().letter(2, 0), -1);
        Check.same("letter of no event", all.x().letter(-1, 0), -1);
        all.x().hush(0);
        Check.same("what was asked stays", all.x().letter(0, 1), 'b');
        Check.same("the first cycle", all.on(0, "'a'").x().ask(0, -1000), 1);
        Check.same("the last cycle", all.x().ask(0, 100000), 1);
        Check.same("a row of none", all.on(0, "'~'").x().ask(0, 0), 0);
        Check.same("no event of it", all.x().event(0, 0), -1);
        Check.same("a row of 400", all.on(0, "'[a*20]*20'").x().ask(0, 0), 400);
        Check.same("its last", all.x().event(399, 0), 399);
    }
}
