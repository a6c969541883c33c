/** The edges of GRAMMAR, COUNTS, FRACTIONS and FAULTS 1 to 4: each sentence at its edge and right beside it. */
final class ReadEdgeTest {
    private static final String[] FUNCTIONS = {
        "fast 2", "slow 2", "early 1:2", "late 1:2", "rev", "every 2 rev", "when 2 1 rev", "off 1:4 rev", "over rev", "iter 2", "ply 2",
        "chunk 2 rev", "inside 2 rev", "rot 1", "struct '1'", "mask '1'", "drop 5", "keep 5", "some 5 rev", "within 0 1 rev", "squeeze 0 1"
    };

    public static void main(String[] args) {
        countsOfFunctions();
        fractionsOfFunctions();
        spans();
        lowestTerms();
        somethingElse();
        numbersInTexts();
        euclidNumbers();
        tooManyDigits();
        wordsAndNumbers();
        blanksInTexts();
        stepsInTexts();
        everyFunctionWantsItsOwn();
        everyFunctionAsAPiece();
        functionNames();
        parameters();
        whichDefinitions();
        namesOfTheWrongKind();
        funs();
        expressions();
        openAtOneTime();
        openAndClosed();
        whereItCanStand();
        theFirstIsTold();
        Check.finish("ReadEdgeTest");
    }

    private static void fault(int fault, String... all) {
        for (String marked : all) {
            new Check().with("p = 'a'\nf x = x\ng x y = x & y").hangFault(marked, fault, 0);
        }
    }

    private static void none(String... all) {
        for (String text : all) {
            new Check().with("p = 'a'\nf x = x\ng x y = x & y").on(0, text);
        }
    }

    /** Every count from 'least' to 'most' is as told, and those beside are not. */
    private static void counts(String before, int least, int most, String after) {
        none(before + least + after, before + (least + 1) + after, before + (most - 1) + after, before + most + after);
        fault(3, before + "^" + (most + 1) + after, before + "^9999" + after);
        if (least > 0) {
            fault(3, before + "^" + (least - 1) + after, before + "^0000" + after);
        }
    }

    private static void countsOfFunctions() {
        String[] ofOne = {"every ", "chunk ", "inside ", "some "};
        for (String name : ofOne) {
            boolean isSome = name.equals("some ");
            counts(name, isSome ? 0 : 1, isSome ? 1000 : 32, " rev 'a'");
            counts("over (" + name, isSome ? 0 : 1, isSome ? 1000 : 32, " rev) 'a'");
            fault(3, name + "^2:1 rev 'a'", name + "^1:1 rev 'a'", name + "^0:1 rev 'a'");
            fault(1, name + "^rev 'a'", name + "^'a'", name + "^", name + "^p rev 'a'", name + "^(2) rev 'a'", name + "^-1 rev 'a'");
        }
        String[] ofNone = {"iter ", "ply ", "rot ", "drop ", "keep "};
        int[] least = {1, 1, 0, 0, 0};
        int[] most = {32, 32, 32, 1000, 1000};
        for (int i = 0; i < ofNone.length; i++) {
            counts(ofNone[i], least[i], most[i], " 'a'");
            counts("over (" + ofNone[i], least[i], most[i], ") 'a'");
            fault(3, ofNone[i] + "^2:1 'a'", ofNone[i] + "^1:1 'a'");
            fault(1, ofNone[i] + "^'a'", ofNone[i] + "^", ofNone[i] + "^p 'a'", ofNone[i] + "^-1 'a'");
        }
        counts("when ", 1, 32, " 1 rev 'a'");
        counts("when 32 ", 0, 32, " rev 'a'");
        counts("when 1 ", 0, 32, " rev 'a'");
        fault(3, "when ^2:1 1 rev 'a'", "when 2 ^1:1 rev 'a'", "when ^33 33 rev 'a'", "when ^0 33 rev 'a'");
        fault(1, "when 2 ^rev 'a'", "when ^rev 'a'", "when 2 2 ^2 rev 'a'");
    }

    /** A whole number and both counts of a fraction, of a function that may have such values. */
    private static void fractionsOfFunctions() {
        String[] names = {"fast ", "slow ", "early ", "late ", "off "};
        for (String name : names) {
            boolean above0 = name.equals("fast ") || name.equals("slow ");
            String after = name.equals("off ") ? " rev 'a'" : " 'a'";
            none(name + "1" + after, name + "64" + after, name + "1:64" + after, name + "64:1" + after, name + "64:64" + after, name + "63:64" + after);
            fault(3, name + "^65" + after, name + "^65:1" + after, name + "^1:65" + after, name + "^65:65" + after, name + "^65:64" + after);
            fault(3, name + "^1:0" + after, name + "^0:0" + after, name + "^64:0" + after, name + "^65:0" + after, name + "^66:2" + after);
            if (above0) {
                fault(3, name + "^0" + after, name + "^0:1" + after, name + "^0:64" + after, name + "^0000" + after);
            } else {
                none(name + "0" + after, name + "0:1" + after, name + "0:64" + after);
            }
            fault(3, name + "^0:65" + after);
            fault(1, name + "^" + after.trim(), name + "^-1" + after, name + "^", name + "1:2 ^1:2" + after);
        }
    }

    private static void spans() {
        String[] names = {"within ", "squeeze "};
        for (String name : names) {
            String after = name.equals("within ") ? " rev 'a'" : " 'a'";
            none(name + "0 1" + after, name + "0 1:64" + after, name + "63:64 1" + after, name + "63:64 64:64" + after, name + "0:64 1:1" + after);
            none(name + "21:64 1:3" + after, name + "1:3 22:64" + after, name + "62:63 63:64" + after);
            fault(3, name + "^65:64 1" + after, name + "^2 1" + after, name + "^2:1 1" + after, name + "^1:0 1" + after, name + "^1:65 1" + after);
            fault(3, name + "1 ^1" + after, name + "0 ^0" + after, name + "1:2 ^1:2" + after, name + "1:2 ^2:4" + after, name + "64:64 ^1" + after);
            fault(3, name + "0 ^65:64" + after, name + "0 ^2" + after, name + "1 ^2" + after, name + "0 ^1:0" + after, name + "0 ^1:65" + after);
            fault(3, name + "1:3 ^21:64" + after, name + "22:64 ^1:3" + after, name + "63:64 ^62:63" + after, name + "1:64 ^0" + after);
            fault(3, name + "^65:64 65:64" + after, name + "^2 0" + after);
            fault(1, name + "^" + after.trim(), name + "0 ^" + after.trim(), name + "0 1 ^1" + after);
        }
        fault(3, "over (within 1 ^1 rev) 'a'", "over (squeeze 1 ^1) 'a'");
        none("over (within 0 1 rev) 'a'", "over (squeeze 0 1) 'a'");
    }

    private static void bounds(String text, String due) {
        Check.same("bounds of " + text, new Check().on(0, text).bounds(0), due);
    }

    private static void lowestTerms() {
        bounds("fast 64:64 'a'", "1 1 1 3 3");
        bounds("fast 64:63 'a'", "64 3 1 7 3");
        bounds("fast 4:2 'a'", "2 2 1 5 3");
        bounds("fast 5:2 'a'", "5 4 1 9 3");
        bounds("slow 2:4 'a'", "2 2 1 5 3");
        bounds("slow 4:2 'a'", "1 2 2 5 3");
        bounds("late 64:32 'a'", "1 1 1 3 3");
        bounds("late 63:32 'a'", "32 2 1 5 3");
        bounds("late 6:4 'a'", "2 2 1 5 3");
        bounds("early 0:64 'a'", "1 1 1 3 3");
        bounds("early 1:64 'a'", "64 2 1 5 3");
        bounds("squeeze 2:4 6:8 'a'", "4 1 1 3 3");
        bounds("squeeze 0:7 64:64 'a'", "1 1 1 3 3");
        bounds("off 2:2 rev 'a'", "1 2 1 7 5");
        bounds("off 2:4 rev 'a'", "2 3 1 10 5");
    }

    private static void somethingElse() {
        String[] functions = {"fast ", "every ", "when ", "drop ", "within ", "when 2 ", "within 0 "};
        String[] others = {"^'a'", "^p", "^f", "^rev", "^(2)", "^- 2", "^+ 2", "^. 2", "^= 2", "^& 2", "^; 2", "^# 2", "^* 2", "^) 2", "^\n", "^", "^:2", "^[2]", "^A"};
        for (String function : functions) {
            for (String other : others) {
                fault(1, function + other);
            }
        }
    }

    private static void numbersInTexts() {
        counts("'a*", 1, 32, "'");
        counts("'a/", 1, 32, "'");
        counts("'{a}%", 1, 32, "'");
        counts("'a@", 1, 16, "'");
        counts("'a!", 1, 16, "'");
        counts("'a @ 16 ! ", 1, 16, "'");
        counts("'a @ ", 1, 16, "! 16'");
        counts("'< a * ", 1, 32, " >'");
        counts("'[ a / ", 1, 32, " , b ]'");
        none("'a*0032'", "'a/0001'", "'{a}%0032'", "'a@0016'", "'a!0001'");
        fault(3, "'a*^0'", "'a/^0'", "'{a}%^0'", "'a@^0'", "'a!^0'", "'a *  ^33'", "'a@^17!17'", "'a@16!^17'", "'a*^33 b*33'");
    }

    private static void euclidNumbers() {
        counts("'a(1,", 1, 32, ")'");
        counts("'a(0,", 1, 32, ")'");
        counts("'a(0,", 1, 32, ",31)'");
        counts("'a(1,2,", 0, 31, ")'");
        for (int n : new int[] {1, 2, 31, 32}) {
            none("'a(0," + n + ")'", "'a(" + n + "," + n + ")'", "'a(" + (n - 1) + "," + n + ")'", "'a(" + n + "," + n + ",31)'");
            fault(3, "'a(^" + (n + 1) + "," + n + ")'", "'a(^9999," + n + ")'", "'a(^" + (n + 1) + "," + n + ",32)'", "'a(^" + (n + 1) + "," + n + ",31)'");
        }
        none("'a(0003,0008,0031)'", "'a( 3 , 8 , 2 )'");
        fault(3, "'a(9999,^33)'", "'a(9999,^0)'", "'a(9999,^9999)'", "'a(^9999,32)'", "'a(^0033,0032)'", "'a(34,^33)'", "'a(33,^33)'", "'a(32,^33)'", "'a(1,^0)'", "'a(0,^0)'", "'a(9,^33,32)'", "'a(9,^0,32)'", "'a(8,8,^32)'", "'a(8,8,^9999)'");
    }

    /** The fifth digit of an n, the seventh of a NUMBER and the ninth letter of a WORD are FAULTS of their own bytes. */
    private static void tooManyDigits() {
        fault(1, "'a*0001^0'", "'a/0001^0'", "'{a}%0001^0'", "'a@0001^0'", "'a!0001^0'", "'a(0001^0,2)'", "'a(1,0002^0)'", "'a(1,2,0000^0)'");
        fault(1, "'a*0000^1'", "'a*9999^9'", "'a(9999^9,0)'", "'a(9,0000^0)'", "'a* 0001^0'", "'a*0001^00000'");
        none("'a*0001'", "'a/0001'", "'{a}%0001'", "'a@0001'", "'a!0001'", "'a(0001,2)'", "'a(1,0002)'", "'a(1,2,0000)'");
        fault(1, "'123456^7'", "'000000^0'", "'-123456^7'", "'a 123456^7'", "'[123456^7]'", "'abcdefgh^i'", "'a abcdefgh^i'", "'<abcdefgh^ijkl>'");
        none("'123456'", "'000000'", "'-123456'", "'abcdefgh'", "'1'", "'-1'", "'a'", "'-0'");
    }

    private static void row(String text, String due) {
        Check.same("row 0 of " + text, new Check().on(0, text).row(0, 0), due);
    }

    private static void wordsAndNumbers() {
        row("'abcdefgh'", "0+1:abcdefgh");
        row("'a'", "0+1:a");
        row("'z az'", "0+1/2:z 1/2+1/2:az");
        row("'999999'", "0+1:#999999");
        row("'-999999'", "0+1:#-999999");
        row("'-0 000007'", "0+1/2:#0 1/2+1/2:#7");
        row("'0'", "0+1:#0");
        fault(1, "'-^'", "'-^-1'", "'-^ 1'", "'-^a'", "'^+1'", "'1^-1'", "'a^-1'", "'1^.5'", "'^A'", "'a^A'", "'a^1'", "'1^a'", "'^:'", "'^_'", "'^`'", "'^|'");
    }

    private static void blanksInTexts() {
        Check.same("blanks", new Check().on(0, "'  a  *  2  @  3  !  2   [  b  ,  c  ]   {  d  }  %  2  e  (  1  ,  2  ,  0  )  ?  '").told(), "0 -1 13");
        Check.same("none", new Check().on(0, "'a*2@3!2 [b,c] {d}%2 e(1,2,0)?'").told(), "0 -1 13");
        none("' a'", "'a '", "'[ a]'", "'[a ]'", "'a ?'", "'a? ?'", "'a *2'", "'a* 2'", "'a! 2'", "'a @2'", "'{ a}%2'", "'{a} %2'", "'{a}% 2'", "'a (1,2)'");
        fault(1, "'a*1 ^)'", "'-^ 1'", "'a* ^x'");
        row("'a b'", "0+1/2:a 1/2+1/2:b");
        row("'a    b'", "0+1/2:a 1/2+1/2:b");
        row("'ab'", "0+1:ab");
        row("'1 2'", "0+1/2:#1 1/2+1/2:#2");
        row("'a*2 1'", "0+1/4:a 1/4+1/4:a 1/2+1/2:#1");
        row("'a -1'", "0+1/2:a 1/2+1/2:#-1");
    }

    /** At least one blank stands between steps; what is no step's beginning goes on with none. */
    private static void stepsInTexts() {
        fault(1, "'a^[b]'", "'a^<b>'", "'a^{b}%2'", "'a^~'", "'~^a'", "'~^~'", "'[a]^[b]'", "'[a]^b'", "'[a]^1'", "'<a>^b'", "'{a}%2^b'", "'a?^b'", "'a*2^b'", "'a(1,2)^b'", "'a!2^b'", "'a@2^b'");
        none("'a [b]'", "'a <b>'", "'a {b}%2'", "'a ~'", "'~ a'", "'[a] [b]'", "'<a> b'", "'{a}%2 b'", "'a? b'", "'a*2 b'", "'a(1,2) b'", "'a!2 b'", "'a@2 b'");
        fault(1, "'a@2 ^@2'", "'a!2 ^!2'", "'a!2 ^@2'", "'a@2 ^*2'", "'a!2 ^*2'", "'a@2 ^?'", "'a!2 ^(1,2)'", "'a@2 ^/2'");
        none("'a*2/2*2'", "'a??'", "'a(1,2)(1,2)'", "'a?*2(1,2)/2@2!2'", "'a@2!2'", "'a!2'");
        fault(1, "'^'", "'[^]'", "'<^>'", "'{^}%2'", "'[a,^]'", "'[^,a]'", "'[a,^,b]'", "'<a^,b>'", "'{a^,b}%2'", "'a^,b'", "'[a^>'", "'<a^]'", "'{a^]%2'", "'a^]'", "'a^>'", "'a^}'", "'a^)'");
        fault(1, "'[a^'", "'<a^'", "'{a^'", "'{a}^'", "'{a} ^2'", "'{a}%^'", "'[a]^%2'", "'<a>^%2'", "'a(^'", "'a(1^'", "'a(1,^'", "'a(1,2^'", "'a(1,2,^'", "'a(1,2,3^'", "'a(1,2,3^,4)'", "'a(^,2)'", "'a(1^)'", "'a(1 ^2)'");
        none("'[a]'", "'[a,b]'", "'[a,b,c]'", "'<a>'", "'{a}%1'", "'[<{a}%1>]'");
    }

    private static void everyFunctionWantsItsOwn() {
        for (String function : FUNCTIONS) {
            none(function + " 'a'", function + " p", function + " (rev 'a')", "rev (" + function + " 'a')");
            fault(1, function + "^", function + " ^2", function + " ^)", function + " ^\n'a'", function + " 'a' ^'b'", function + " p ^p", function + " ^& 'a'");
            fault(2, function + " ^rev 'a'", function + " ^f 'a'", function + " ^q", "fast 2 ^" + function + " 'a'");
        }
        fault(1, "struct 'a'^", "mask 'a'^", "struct ^2 'a'", "mask ^", "every 2^", "over^", "off 1^", "some 5^");
        fault(2, "struct ^rev 'a' 'b'", "mask ^f 'a' 'b'", "struct ^q 'a'");
    }

    private static void everyFunctionAsAPiece() {
        for (String function : FUNCTIONS) {
            none("over (" + function + ") 'a'", "over (" + function + " . " + function + ") 'b'", "over ((" + function + ")) 'a'");
            fault(1, "over (" + function + " ^'a') 'b'", "over (" + function + "^", "over (" + function + " .^) 'a'", "over (" + function + " ^p) 'a'", "over (" + function + " ^& 'a') 'b'");
            if (!function.equals("rev")) {
                fault(2, "over ^" + function + " 'a'");
            }
        }
    }

    private static void functionNames() {
        for (String function : FUNCTIONS) {
            String name = function.split(" ")[0];
            new Check().readFault("^" + name + " = 'a'", 2, 0);
            new Check().readFault("d ^" + name + " = 'a'", 2, 0);
            new Check().readFault("d x ^" + name + " = 'a'", 2, 0);
            Check beside = new Check().with(name + "x = 'a'\n" + name.substring(1) + "x q" + name + " = 'b'");
            Check.same("names beside " + name, beside.x().about(2), 2);
            Check.same("in use", beside.on(0, name + "x").row(0, 0), "0+1:a");
        }
    }

    private static void parameters() {
        new Check().with("d = 'a'");
        new Check().with("d a = a");
        Check four = new Check().with("d a b c e = a ; b ; c ; e");
        Check.same("four of them", four.on(0, "d '0' '1' '2' '3'").row(0, 3), "0+1:#3");
        four.hangFault("d '0' '1' '2'^", 1, 0);
        four.hangFault("d '0' '1' '2' '3' ^'4'", 1, 0);
        four.hangFault("d '0' '1' '2' ^& '3'", 1, 0);
        Check.same("all but the last as a piece", four.on(0, "over (d '0' '1' '2') '3'").row(0, 3), "0+1:#3 0+1:#3");
        four.hangFault("over (d '0' '1'^) '3'", 1, 0);
        four.hangFault("over (d '0' '1' '2' ^'3') '4'", 1, 0);
        new Check().readFault("d a b c e ^g = a", 2, 0);
        new Check().readFault("d a b c e ^g h = a", 2, 0);
        new Check().readFault("d a b c e ^a = a", 2, 0);
        new Check().readFault("d ^d = d", 2, 0);
        new Check().readFault("d a ^a = a", 2, 0);
        new Check().readFault("d a b c ^a = a", 2, 0);
        new Check().readFault("d a b c ^d = a", 2, 0);
        new Check().readFault("d a b c e^", 1, 0);
        new Check().readFault("d a b c e ^'x'", 1, 0);
        new Check().readFault("d a ^2 = a", 1, 0);
        new Check().readFault("d a = ^b", 2, 0);
        new Check().readFault("d a = a\ne b = ^a", 2, 0);
        Check same = new Check().with("d a = a\na d = d");
        Check.same("names of another line", same.x().about(2), 2);
    }

    private static void whichDefinitions() {
        Check all = new Check();
        all.readFault("a = ^b\nb = 'x'", 2, 0);
        all.readFault("a = ^a", 2, 0);
        all.readFault("a x = ^a x", 2, 0);
        all.with("b = 'x'\na = b");
        all.with("a = a & b");
        Check.same("the one ahead of its own", all.on(0, "a").row(0, 0), "0+1:x 0+1:x");
        all.with("d b = b");
        Check.same("a parameter goes ahead", all.on(0, "d 'y'").row(0, 0), "0+1:y");
        all.with("e d = d\nh d = fast 2 d");
        Check.same("also of one with parameters", all.on(0, "e 'z'").row(0, 0), "0+1:z");
        all.readFault("e d = d ^'x'", 1, 0);
        all.readFault("e d = over ^d 'x'", 2, 0);
        all.readFault("e d = over (^d) 'x'", 2, 0);
        all.readFault("b = 'n'\nc = ^n", 2, 2);
        Check.same("none of them holds", all.on(0, "b").row(0, 0), "0+1:x");
        all.with("b = 'n'\nc = b");
        Check.same("those of lines ahead", all.on(0, "c").row(0, 0), "0+1:n");
        Check.same("what was made stays so", all.on(0, "a").row(0, 0), "0+1:x 0+1:x");
    }

    private static void namesOfTheWrongKind() {
        fault(2, "^q", "f ^f", "f ^g", "f ^rev", "f ^q", "rev ^f", "rev ^rev", "p & ^q", "p ; ^q", "p # ^q", "(^q)", "g p ^f", "g ^f p", "fast 2 ^g");
        fault(1, "f^", "f ^2", "g^", "g p^", "p ^p", "p ^f", "p ^q", "p ^rev", "f p ^p");
        fault(2, "over ^p 'a'", "over ^q 'a'", "over ^g 'a'", "over ^fast 'a'", "over (^p) 'a'", "over (^q) 'a'", "over (rev . ^p) 'a'", "over (# ^f) 'a'", "over (# ^rev) 'a'", "over (g ^f) 'a'");
        none("over f 'a'", "over (f) 'a'", "over rev 'a'", "over (g p) 'a'", "over (# p) 'a'", "over (f . g p . rev) p");
        fault(1, "over (g^) 'a'", "over ^'a' 'b'", "over ^2 'b'", "over ^# 'a'", "over^");
    }

    private static void funs() {
        fault(1, "over (^) 'a'", "over (^'x') 'a'", "over (^2) 'a'", "over (rev ^rev) 'a'", "over (rev .^) 'a'", "over (^. rev) 'a'", "over (rev .^.rev) 'a'", "over (#^) 'a'", "over (^&) 'a'", "over (^=) 'a'", "over (rev^", "over (rev ^; rev) 'a'");
        none("over (rev) 'a'", "over (rev . rev) 'a'", "over ((rev)) 'a'", "over ((rev) . (rev)) 'a'", "over ((rev . rev) . rev) 'a'", "over (# 'x') 'a'", "over (+ 'x' . - 'y' . * 'z') 'a'", "over (# ('x' & 'y')) 'a'");
        row("over (+ '1' . * '2') '5'", "0+1:#5 0+1:#11");
        row("over (* '2' . + '1') '5'", "0+1:#5 0+1:#12");
        row("over (- '1') '5'", "0+1:#5 0+1:#4");
        row("over ((+ '1' . * '2') . - '3') '5'", "0+1:#5 0+1:#5");
        row("over (+ '1' . (* '2' . - '3')) '5'", "0+1:#5 0+1:#5");
    }

    private static void expressions() {
        row("'1' & '2' ; '3'", "0+1:#1 0+1:#2");
        Check.same("; ahead of &", new Check().on(0, "'1' & '2' ; '3'").row(0, 1), "0+1:#1 0+1:#3");
        row("'1' ; '2' + '3'", "0+1:#1");
        Check.same("OP ahead of ;", new Check().on(0, "'1' ; '2' + '3'").row(0, 1), "0+1:#5");
        row("'9' - '4' - '3'", "0+1:#2");
        row("'9' - ('4' - '3')", "0+1:#8");
        row("'1' + '2' * '3'", "0+1:#9");
        row("fast 2 '1' + '2'", "0+1/2:#3 1/2+1/2:#3");
        fault(1, "^& 'a'", "'a' &^", "'a' & ^& 'b'", "'a' ;^", "'a' ; ^; 'b'", "'a' #^", "'a' # ^# 'b'", "'a' + ^- 'b'", "(^)", "('a'^", "('a' ^'b')", "'a'^)", "'a' ^= 'b'", "'a' ^. 'b'", "^= 'a'", "^2");
        none("('a')", "(('a'))", "('a' & 'b')", "'a' & ('b' ; 'c') # 'd'");
    }

    private static void openAtOneTime() {
        for (int many = 18; many <= 20; many++) {
            int inner = many - 1;
            none(Check.times(inner, "(") + "'a'" + Check.times(inner, ")"));
            none("'" + Check.times(inner, "[") + "a" + Check.times(inner, "]") + "'");
            none("'" + Check.times(inner, "<") + "a" + Check.times(inner, ">") + "'");
            none("'" + Check.times(inner, "{") + "a" + Check.times(inner, "}%1") + "'");
            none("'" + Check.times(inner - 1, "[") + "a(1,1)" + Check.times(inner - 1, "]") + "'");
            none(Check.times(inner - 1, "(") + "over (rev) 'a'" + Check.times(inner - 1, ")"));
            none("over " + Check.times(many, "(") + "rev" + Check.times(many, ")") + " 'a'");
        }
        String open = Check.times(20, "(");
        fault(4, open + "^'a'" + Check.times(20, ")"), open + "^('a')", open + "over ^(rev) 'a'", "over " + open + "^(rev)");
        fault(4, "over " + open + "# ^'a'", "over " + open + "# ^('a')", "over " + open + "struct ^'a'", "over " + open + "every 2 ^(rev)");
        String text = Check.times(19, "(") + "'";
        fault(4, text + "^[a]'", text + "^<a>'", text + "^{a}%2'", text + "a^(1,2)'", text + "a ^[b]'", text + "a?^(1,2)'", text + "a b*2 ^<c>'");
        for (String nineteen : new String[] {Check.times(19, "["), Check.times(19, "<"), Check.times(19, "{")}) {
            fault(4, "'" + nineteen + "^[a'", "'" + nineteen + "^<a'", "'" + nineteen + "^{a'", "'" + nineteen + "a^(1,1)'", "'" + nineteen + "a ^[b'");
        }
    }

    /** What is closed is open no more. */
    private static void openAndClosed() {
        String nineteen = Check.times(19, "(");
        String close = Check.times(19, ")");
        none(nineteen + "'a' & 'b' & 'c'" + close, Check.times(18, "(") + "('a') & ('b') & rev ('c')" + Check.times(18, ")"));
        none("'" + Check.times(25, "[a] ") + "'", "'" + Check.times(25, "<a> ") + "'", "'" + Check.times(25, "{a}%1 ") + "'", "'a" + Check.times(25, "(1,1)") + "'");
        none("'a'" + Check.times(25, "&'a'"), "('a')" + Check.times(25, "&('a')"), "'a'" + Check.times(20, " # ('b')"));
        none("over (" + Check.times(25, "(rev) . ") + "rev) 'a'", "over (# 'b'" + Check.times(15, " . # 'b'") + ") 'a'");
        none("'" + Check.times(18, "[") + "[a] [b] <c> {d}%1 e(1,1) f" + Check.times(18, "]") + "'");
        new Check().with(Check.times(25, "d = ('a')\n"));
        Check all = new Check();
        all.hangFault(nineteen + "^'a", 1, 0);
        all.hangFault("'" + Check.times(9, "[<") + "[^<a'", 4, 0);
        all.hangFault("'" + Check.times(9, "[{") + "a(1,2 ^x'", 1, 0);
        all.readFault("d = " + nineteen + "over (rev . ^q", 2, 0);
        all.on(0, nineteen + "'a'" + close);
    }

    /** Where one more could not stand, it is FAULT 1, however many are open. */
    private static void whereItCanStand() {
        String open = Check.times(20, "(");
        fault(1, open + "^[", open + "^)", "over " + open + "rev ^(", "over " + open + "^'a'", "over " + open + "# ^[");
        String text = Check.times(19, "(") + "'";
        fault(1, text + "a^[b]'", text + "a^<b>'", text + "a^{b}%2'", text + "a@2^(1,2)'", text + "^(1,2)'", text + "a! ^[2]'");
        fault(2, open + "^q (", "over " + open + "^q (");
        fault(1, open + "^'a");
    }

    private static void theFirstIsTold() {
        fault(1, "'a' ^'b' & q & fast 99 'c'");
        fault(2, "'a' & ^q 'b' & fast 99 'c'");
        fault(3, "fast ^99 'c' & q & 'a' 'b'");
        fault(4, Check.times(20, "(") + "^(q");
        fault(1, "'a b^] [c] d*99' & q", "'[a*20]*21' & ^)");
        fault(3, "'a*^33 b]' & q");
        Check all = new Check();
        all.readFault("a = 'x'\nb = ^q\nc = fast 99 'y'", 2, 2);
        all.readFault("a = '[a*20]^*21'\nb = q", 7, 3);
        all.readFault("a = '[a*20]*21' & ^q\nb = )", 2, 0);
        all.readFault("a = 'x'\n\n^= 'y'", 1, 2);
        all.readFault("a = 'x'\nb c = '[a*20]*21' & c\nd = 'y' ^d", 1, 2);
    }
}
