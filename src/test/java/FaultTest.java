/** Promises 4, 5 and 7: faults, their places (where ^ stands) and what was counted ahead of them. */
final class FaultTest {
    public static void main(String[] args) {
        tokens();
        expressions();
        inTexts();
        names();
        headers();
        counts();
        fractions();
        numbersInTexts();
        openOnes();
        tooManyCounted();
        besides();
        boundsBroken();
        order();
        nestedUses();
        places();
        tooManyDefinitions();
        linesInTurn();
        Check.finish("FaultTest");
    }

    private static void hang1(String... all) {
        for (String marked : all) {
            new Check().hangFault(marked, 1, 0);
        }
    }

    private static void hangAll(int fault, String... all) {
        for (String marked : all) {
            new Check().with("p = 'a'\nf x = x\ng x y = x & y").hangFault(marked, fault, 0);
        }
    }

    private static void tokens() {
        hang1("^", "  ^", "^\n", "^A", "^\u0000", "^\u007f", "^\u00e9", "'a' ^, 'b'", "^[", "^abcdefghijklm", "^a23456789012b 'x'");
        hang1("fast ^12345 'a'", "fast ^3:12345 'a'", "fast ^12345:3 'a'", "fast 3^: 'a'", "fast 3^:x 'a'", "fast 3 ^:4 'a'");
        hang1("fast 3:4^:5 'a'", "^'a", "^'a\nb'", "^'a\u0001'", "'a' & ^'b", "every ^00001 rev 'a'");
        new Check().hangFault("^abcdefghijkl", 2, 0);
        Check.same("no blanks needed", new Check().on(0, "fast 2'a b'&rev'c'").x().ask(0, 0), 5);
        Check.same("four digits", new Check().on(0, "fast 0003:0002 'a'").x().bound(0, 0), 3);
    }

    private static void expressions() {
        hang1("'a' ^'b'", "'a'\n^b", "'a'\n\n ^'b'", "('a'^", "('a'^\n)", "'a'^)", "(^)", "'a' & ^", "'a' ; ^& 'b'");
        hang1("'a' # ^", "'a' ^= 'b'", "'a' ^. 'b'", "^& 'a'", "^# 'a'", "(^# 'a')", "rev^", "fast 2^", "fast ^", "fast ^'a' 'b'");
        hang1("every ^rev 'a'", "every 2 ^'a' 'b'", "every 2 rev^", "every 2 (^) 'a'", "every 2 (rev ^'a'");
        hang1("every 2 (rev .^) 'a'", "every 2 (^'a') 'b'", "every 2 (fast 2 ^'a') 'b'", "every 2 (# ^) 'a'", "every 2 (^2) 'a'");
        hang1("every 2 (^. rev) 'a'", "every 2 ((rev) ^(rev)) 'a'", "off ^x rev 'a'", "when 2 ^rev 'a'", "'a' ^2");
        Check.same("lines' ends behind", new Check().hang(0, "'a' \n \n\n "), 0);
        Check.same("told of it", new Check().on(0, "'a'\n").told(), "0 -1 2");
        Check.same("a sole definition", new Check().with("p = 'a'").on(0, "p").told(), "0 -1 0");
    }

    private static void inTexts() {
        hang1("'^'", "'  ^'", "'a^[b]'", "'[a]^b'", "'a^5'", "'5^a'", "'a^~'", "'abcdefgh^i'", "'123456^7'", "'-123456^7'", "'-^'", "'-^ 5'", "'-^a'");
        hang1("'a*^'", "'a* ^b'", "'a*1234^5'", "'a*0001^0'", "'a*0001^9'", "'a*2^b'", "'a@2^*2'", "'a!2 ^@2'", "'a!2^?'", "'a@2!3 ^!2'", "'a?^b'", "'a^,b'", "'a b^]'");
        hang1("'[a^'", "'[a b ^>'", "'[^]'", "'[a,^]'", "'[^,a]'", "'<^>'", "'<a^,b>'", "'<a^]'", "'{a}^'", "'{a} ^4'", "'{a}%^'", "'{a}% ^x'", "'{^}%2'");
        hang1("'a(^)'", "'a(3^)'", "'a(3 ^8)'", "'a(3,^)'", "'a(3,8^'", "'a(3,8,^)'", "'a(3,8,1^,1)'", "'a(^-3,8)'", "'a(1234^5,8)'");
        hang1("'a(3,8)^b'", "'^*2'", "'^@2'", "'a ^)'", "'^A'", "'a ^.'", "'a*^-2'", "'a ^='", "'~^a'", "'a -^ 5'");
        Check.same("blanks", new Check().on(0, "' [ a  b , c ] * 2 ( 3 , 8 , 1 ) ? @ 2 ! 3  -5 { a } % 2 '").told(), "0 -1 13");
    }

    private static void names() {
        hangAll(2, "^x", "fast 2 ^rev 'a'", "fast 2 ^f 'a'", "fast 2 ^x", "^x 'a'", "p & ^q", "g 'a' ^f", "g ^rev 'a'", "(^x)");
        hangAll(2, "every 2 ^fast 'a'", "every 2 ^p 'a'", "every 2 ^g 'a'", "every 2 ^x 'a'", "every 2 (^p) 'a'", "every 2 (^x) 'a'", "every 2 (# ^f) 'a'");
        hangAll(1, "p ^p", "p ^x", "f 'a' ^'b'", "g 'a'^", "every 2 (g 'a' ^'b') 'c'", "every ^p rev 'a'", "every 2 (^&) 'a'");
        Check all = new Check().with("f x = x");
        all.readFault("k f = every 2 ^f 'a'", 2, 0);
        all.readFault("k f = f ^'a'", 1, 0);
        all.readFault("r = ^r", 2, 0);
        all.readFault("r x = ^r x", 2, 0);
        all.readFault("r x = ^y", 2, 0);
        all.with("f x = f x");
        Check.same("the former of its name", all.on(0, "f 'a'").told(), "0 -1 4");
    }

    private static void headers() {
        for (String name : "fast slow early late rev every when off over iter ply chunk inside rot struct mask drop keep some within squeeze".split(" ")) {
            new Check().readFault("^" + name + " = 'a'", 2, 0);
            new Check().readFault("f ^" + name + " = 'a'", 2, 0);
        }
        Check all = new Check();
        all.readFault("f ^f = 'a'", 2, 0);
        all.readFault("f x y ^x = 'a'", 2, 0);
        all.readFault("f a b c d ^e = 'a'", 2, 0);
        all.readFault("^= 'a'", 1, 0);
        all.readFault("^'a'", 1, 0);
        all.readFault("^2 = 'a'", 1, 0);
        all.readFault("a^", 1, 0);
        all.readFault("a ^\n= 'a'", 1, 0);
        all.readFault("a =^", 1, 0);
        all.readFault("a = ^\n'a'", 1, 0);
        all.readFault("a ^2 = 'a'", 1, 0);
        all.readFault("a = 'a' ^= 'b'", 1, 0);
        all.readFault("a = 'a' ^)", 1, 0);
        all.readFault("a ^abcdefghijklm = 'a'", 1, 0);
        all.readFault("a = ^b 'x'", 2, 0);
        Check.same("an empty tape", all.read(""), 0);
        Check.same("empty lines", all.read("\n  \n\n"), 0);
        Check.same("none", all.x().about(2), 0);
        Check.same("lines", all.read("\na='x'\n\n  b c d e f = c\nabcdefghijkl = a"), 0);
        Check.same("three", all.x().about(2), 3);
    }

    private static void range(String before, int least, int most, String after) {
        for (int n : new int[] {least, most}) {
            Check.same(before + n + after, new Check().hang(0, before + n + after), 0);
        }
        new Check().hangFault(before + "^" + (most + 1) + after, 3, 0);
        if (least > 0) {
            new Check().hangFault(before + "^" + (least - 1) + after, 3, 0);
        }
    }

    private static void counts() {
        range("every ", 1, 32, " rev 'a'");
        range("iter ", 1, 32, " 'a'");
        range("ply ", 1, 32, " 'a'");
        range("chunk ", 1, 32, " rev 'a'");
        range("inside ", 1, 32, " rev 'a'");
        range("when ", 1, 32, " 1 rev 'a'");
        range("when 3 ", 0, 32, " rev 'a'");
        range("rot ", 0, 32, " 'a'");
        range("drop ", 0, 1000, " 'a'");
        range("keep ", 0, 1000, " 'a'");
        range("some ", 0, 1000, " rev 'a'");
        hangAll(3, "every ^1:2 rev 'a'", "when 2 ^2:1 rev 'a'", "rot ^1:1 'a'", "every 2 (ply ^0) 'a'", "every 2 (every ^33 x) 'a'");
    }

    private static void fractions() {
        range("fast ", 1, 64, " 'a'");
        range("slow ", 1, 64, " 'a'");
        range("early ", 0, 64, " 'a'");
        range("late ", 0, 64, " 'a'");
        range("off ", 0, 64, " rev 'a'");
        hangAll(3, "fast ^0:3 'a'", "slow ^0 'a'", "early ^1:0 'a'", "late ^65:1 'a'", "off ^1:65 rev 'a'", "fast ^66:33 'a'", "fast ^9999 'a'", "fast ^1:65 'a'");
        hangAll(3, "within ^2 1 rev 'a'", "within 0 ^2 rev 'a'", "within 1:2 ^1:2 rev 'a'", "within 1:2 ^1:3 rev 'a'", "within 1 ^1 rev 'a'");
        hangAll(3, "squeeze ^5:4 1 'a'", "squeeze 1:4 ^5:4 'a'", "squeeze 2:4 ^1:2 'a'", "squeeze 0 ^0 'a'", "squeeze ^1:65 1 'a'", "every 2 (squeeze 0 ^0) 'a'");
        Check.same("a whole", new Check().hang(0, "within 0 1 rev 'a'"), 0);
        Check.same("a whole", new Check().hang(0, "squeeze 0:64 64:64 'a'"), 0);
    }

    private static void numbersInTexts() {
        range("'a*", 1, 32, "'");
        range("'a/", 1, 32, "'");
        range("'{a}%", 1, 32, "'");
        range("'a@", 1, 16, "'");
        range("'a!", 1, 16, "'");
        range("'a(1,", 1, 32, ")'");
        range("'a(", 0, 5, ",5)'");
        range("'a(1,2,", 0, 31, ")'");
        hangAll(3, "'a*^0 ]'", "'a(9,^33,99)'", "'a(9,^0)'", "'a(^9,8,99)'", "'a(^9,8x'", "'a(1,8,^32'", "'a @ ^17 ! 17'", "'{a} % ^9999'");
    }

    private static void openOnes() {
        String open = Check.times(19, "(");
        String close = Check.times(19, ")");
        Check.same("20 open", new Check().hang(0, open + "'a'" + close), 0);
        Check.same("closed and open again", new Check().hang(0, open + "'a' & 'b' & rev 'c'" + close), 0);
        hangAll(4, open + "(^'a')" + close, open + "(^('a'))", open + "'^[a]'", open + "'^<a>'", open + "'^{a}%2'", open + "'a^(1,2)'");
        hangAll(4, open + "(every 2 ^(rev) 'a'", open + "every 2 (^(rev)) 'a'");
        hangAll(1, open + "(^[", open + "'a^[b]'", open + "'a^<b>'", open + "(p ^('b'))");
        Check.same("in a text", new Check().hang(0, "'" + Check.times(19, "[") + "a" + Check.times(19, "]") + "'"), 0);
        new Check().hangFault("'" + Check.times(19, "[") + "^[a" + Check.times(20, "]") + "'", 4, 0);
        new Check().hangFault("'" + Check.times(19, "<") + "a^(1,2)'", 4, 0);
        new Check().hangFault("^'" + Check.times(19, "<") + "a(1,2)", 1, 0);
    }

    private static void tooManyCounted() {
        String words = Check.times(199, "a ");
        Check.same("200", new Check().on(0, "'" + words + "'").told(), "0 -1 200");
        new Check().hangFault("'^" + words + "a'", 5, 200);
        new Check().hangFault("'" + words + "a ^b'", 5, 200);
        new Check().hangFault("'" + words + "a ^-12'", 5, 200);
        new Check().hangFault("'" + words + "a ^~'", 5, 200);
        new Check().hangFault("'" + words + "a^?'", 5, 200);
        new Check().hangFault("'" + words + "a ^*2'", 5, 200);
        new Check().hangFault("'" + words + "a^(1,2)'", 5, 200);
        new Check().hangFault("'" + Check.times(198, "a ") + "[a [^b, c]]'", 5, 200);
        new Check().hangFault("'" + Check.times(196, "a ") + "^[b, c]'", 5, 200);
        new Check().hangFault("'" + Check.times(197, "a ") + "[ ^b c d]'", 5, 200);
        new Check().hangFault("'" + Check.times(197, "a ") + "^< b c d>'", 5, 200);
        new Check().hangFault("'" + Check.times(197, "a ") + "^{b c d}%2'", 5, 200);
        new Check().hangFault("^rev '" + words + "'", 5, 200);
        new Check().hangFault("^fast 64 '" + words + "'", 5, 200);
        new Check().hangFault("'" + Check.times(197, "a ") + "' & (^rev 'c')", 5, 200);
        Check all = new Check().with("f x = x");
        all.hangFault("^f '" + words + "'", 5, 200);
        Check.same("a use counts", all.on(0, "f '" + Check.times(198, "a ") + "'").told(), "0 -1 200");
        all.with("g x = (rev x) & (rev x)");
        all.hangFault("^g '" + Check.times(197, "a ") + "'", 5, 200);
        Check lines = new Check();
        lines.readFault("a = '" + Check.times(150, "a ") + "'\nb = '" + Check.times(49, "a ") + "^a'", 5, 200);
        lines.with("a = '" + Check.times(150, "a ") + "'\nb = '" + Check.times(48, "a ") + "'");
        Check.same("lines together", lines.told(), "0 -1 200");
    }

    private static void besides() {
        Check all = new Check().with("p = 'a'\nq = '~'");
        Check.same("an & of 2", all.on(0, "p & p").told(), "0 -1 1");
        Check.same("an & of 5", all.on(0, "p & p & p & p & p").told(), "0 -1 4");
        Check.same("a ; of 5", all.on(0, "p ; p ; p ; p ; p").told(), "0 -1 4");
        Check.same("[ , ] of 3", all.on(0, "'[a,b,c]'").told(), "0 -1 8");
        Check.same("an & of 201", all.on(0, "p" + Check.times(200, "&p")).told(), "0 -1 200");
        all.hangFault("p^&p" + Check.times(200, "&p"), 5, 200);
        all.hangFault("q^;p" + Check.times(200, ";p"), 5, 200);
        all.hangFault("q^;p" + Check.times(400, ";p"), 5, 200);
        all.with("r = 'a*20'");
        all.hangFault("r^&r" + Check.times(28, "&r"), 7, 28);
    }

    private static void boundsBroken() {
        String five = "[[[[[[[~@5]@5]@5]@5]@5]@5]@16]";
        Check.same("GRAIN 1000000", new Check().on(0, "'" + five + "@4'").x().bound(0, 0), 1000000);
        new Check().hangFault("'^" + five + "@5'", 6, 8);
        new Check().hangFault("^fast 64 (fast 64 (fast 64 (fast 4 '~')))", 6, 5);
        new Check().hangFault("'[[[~*32]*32]*32]^*32'", 6, 7);
        Check.same("CROWD 400", new Check().on(0, "'[a*20]*20'").x().bound(0, 1), 400);
        new Check().hangFault("'[a*20]^*21'", 7, 3);
        Check.same("REACH 64", new Check().on(0, "slow 64 'a'").x().bound(0, 2), 64);
        Check.same("REACH of less than one", new Check().on(0, "fast 64:63 'a'").x().bound(0, 2), 1);
        new Check().hangFault("^slow 2 (slow 64 'b')", 8, 3);
        String heavy = "fast 32 '[~*30]!16 [~*30]!16 [~*30]!16 ~!16 ~!8' ";
        Check.same("WORK 50000", new Check().on(0, heavy + "& '~!16 ~!16 ~!13'").x().bound(0, 3), 50000);
        new Check().hangFault(heavy + "^& '~!16 ~!16 ~!12 [~]'", 9, 19);
        new Check().hangFault("'a*20 b*20 c*20 d*20 e*20 f*20' ^# '[a,b]*20 [a,b]*20 [a,b]*20'", 9, 32);
        String sum = "'a' " + Check.times(58, "+ 'b' ");
        Check.same("DEPTH 60", new Check().on(0, sum).x().bound(0, 4), 60);
        new Check().hangFault(sum + "^+ 'c'", 10, 2 + 58 * 3 + 2);
    }

    private static void order() {
        new Check().hangFault("'[[[[[[[a*13]@5]@5]@5]@5]@5]@5]^*32'", 6, 9);
        new Check().hangFault("^slow 64 (slow 2 'a*32 b*32 c*32 d*32')", 7, 10);
        new Check().hangFault("^slow 64 (slow 2 '[[~*32]*32]*18')", 8, 8);
        new Check().hangFault("every 2 (# '[a*20]^*21') 'b'", 7, 3);
        new Check().hangFault("every 2 (# 'a') '[b*20]^*21'", 7, 5);
        new Check().hangFault("every 2 (^fast 32 . fast 32) 'b'", 7, 3);
    }

    private static void nestedUses() {
        StringBuilder lines = new StringBuilder("aa x = x\n");
        for (char c = 'b'; c <= 'm'; c++) {
            lines.append('a').append(c).append(" x = a").append((char) (c - 1)).append(" x\n");
        }
        Check all = new Check().with(lines.toString());
        Check.same("12 within one another", all.on(0, "al 'a'").told(), "0 -1 14");
        all.hangFault("^am 'a'", 10, 14);
        all.hangFault("aa (ab 'a') & ^am 'b'", 10, 2 + 2 + 1 + 2 + 12);
        all.hangFault("every 2 ^am 'a'", 10, 14);
        all.hangFault("every 2 (# 'c' . ^am) 'a'", 10, 16);
        Check.same("one behind another", all.on(0, "al (al (al 'a'))").told(), "0 -1 38");
        all.hangFault("^am '" + Check.times(187, "a ") + "'", 10, 200);
        all.hangFault("^am '" + Check.times(188, "a ") + "'", 5, 200);
        all.readFault("x = al 'a'\ny q = al q\nz = ^y 'a'", 10, 14 + 2 + 12);
    }

    private static void places() {
        Check all = new Check().with("f x = fast 32 x\ng x = f (f x)\nh x y = x # y\nt x = '[a*20]*21' & x");
        all.hangFault("^f 'a*20'", 7, 4);
        all.hangFault("rev (^g 'a*2')", 7, 7);
        all.hangFault("every 2 ^f 'a*20'", 7, 4);
        all.hangFault("every 2 (rev . ^f . rev) 'a*20'", 7, 5);
        all.hangFault("^t 'a'", 7, 2 + 1 + 3);
        all.hangFault("^off 1:3 rev 'a*32 b*32 c*32 d*32 e*32 f*32'", 7, 15);
        all.hangFault("^off 0 rev 'a*32 b*32 c*32 d*32 e*32 f*32 g*32'", 7, 15 + 2);
        all.hangFault("^some 500 rev 'a*32 b*32 c*32 d*32 e*32 f*32 g*32'", 7, 15 + 3);
        all.hangFault("^over rev 'a*32 b*32 c*32 d*32 e*32 f*32 g*32'", 7, 15 + 1);
        all.hangFault("^inside 32 rev (slow 3 'a')", 8, 3);
        all.hangFault("^inside 32 (ply 5) 'a'", 7, 4);
        all.hangFault("inside 32 (^ply 32) 'a'", 7, 3);
    }

    private static void tooManyDefinitions() {
        StringBuilder lines = new StringBuilder();
        for (int i = 0; i < 40; i++) {
            lines.append('n').append(i).append("='a'\n");
        }
        Check all = new Check().with(lines.toString());
        Check.same("40", all.x().about(2), 40);
        Check.same("one more", all.read("n0 = 'b'\nmore = 'a'"), 11);
        Check.same("told of it", all.told(), "11 -1 4");
        Check.same("none of them holds", all.on(0, "n0").row(0, 0), "0+1:a");
        all.readFault("more = 'a'\nn0 = ^x", 2, 2);
        all.with("n0 = 'b'\nn0 = 'c'");
        Check.same("told again", all.on(0, "n0").row(0, 0), "0+1:c");
        Check.same("still 40", all.x().about(2), 40);
        Check.same("41 at once", new Check().read(lines + "z='a'"), 11);
        Check.same("lines of one name", new Check().read(Check.times(199, "p x=x\n")), 0);
    }

    private static void linesInTurn() {
        Check all = new Check();
        all.readFault("a = '[a*20]^*21'\nb = x", 7, 3);
        all.readFault("a = '[a*20]*20'\nb = ^x\nc = '[a*20]*21'", 2, 5);
        all.readFault("a = '[a*20]*21' ^x", 1, 0);
        all.hangFault("'[a*20]*21'\n^x", 1, 0);
        all.readFault("f x = '[a*20]*21' & x\na = ^f 'b'", 7, 6);
        Check.same("none made of one with parameters", all.with("f x = '[a*20]*21'").told(), "0 -1 0");
        all.readFault("ok = 'a'\n^'b'", 1, 2);
        all.hangFault("^ok", 2, 0);
    }
}
