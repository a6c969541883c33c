/** The edges of MAKING: what is COUNTED, FAULTS 5 to 11, and the bounds, each at its edge and right beside it. */
final class MakeEdgeTest {
    public static void main(String[] args) {
        eachIsCounted();
        eachInATextIsCounted();
        usesAreCounted();
        theRestOfSeveral();
        whatIsNotMadeAgain();
        countedInOneTape();
        grain();
        crowd();
        reach();
        work();
        depth();
        oneAheadOfAnother();
        onePartAheadOfAnother();
        roundedUp();
        usesWithinOthers();
        fortyDefinitions();
        whatFaultsLeave();
        Check.finish("MakeEdgeTest");
    }

    /** A line that counts so many. */
    private static String line(int counts) {
        return counts < 2 ? "" : "pad = '" + Check.times(counts - 1, "~ ") + "'\n";
    }

    /** Reads a line whose marked one is the n-th counted: the 200th of a tape is as it should be, the 201st is FAULT 5. */
    private static void isCounted(String marked, int n) {
        String before = "f x = rev x\ng x = f (f x)\nh x y = x & y\n";
        Check all = new Check().with(before);
        all.readFault(line(201 - n) + "d = " + marked, 5, 200);
        String text = marked.replace("^", "");
        Check alone = new Check().with(before);
        int fault = alone.read(line(200 - n) + "d = " + text);
        boolean isLast = fault == 0;
        Check.same("the 200th of " + marked, isLast || fault == 5, true);
        Check.same("how many", alone.x().told(2), 200);
        Check.same("it holds", alone.x().about(2), isLast ? n < 199 ? 5 : 4 : 3);
    }

    private static void eachIsCounted() {
        String[] ofNone = {"fast 2", "slow 2", "early 1:2", "late 1:2", "rev", "iter 2", "ply 2", "rot 1", "drop 5", "keep 5", "squeeze 0 1"};
        for (String function : ofNone) {
            isCounted("^" + function + " 'a'", 3);
        }
        String[] ofFun = {"every 2", "when 2 1", "chunk 2", "within 0 1", "over"};
        for (String function : ofFun) {
            isCounted(function + " ^rev 'a'", 3);
            isCounted("^" + function + " rev 'a'", 4);
        }
        isCounted("off 1 ^rev 'a'", 3);
        isCounted("^off 1 rev 'a'", 4);
        isCounted("^off 1 rev 'a'", 5);
        isCounted("^some 5 rev 'a'", 3);
        isCounted("^some 5 rev 'a'", 4);
        isCounted("some 5 ^rev 'a'", 5);
        isCounted("^some 5 rev 'a'", 6);
        isCounted("^inside 2 rev 'a'", 3);
        isCounted("inside 2 ^rev 'a'", 4);
        isCounted("^inside 2 rev 'a'", 5);
        isCounted("^struct '1' 'a'", 5);
        isCounted("^mask '1' 'a'", 5);
        for (String op : new String[] {"#", "+", "-", "*"}) {
            isCounted("'a' ^" + op + " 'b'", 5);
            isCounted("'a' " + op + " 'b' ^" + op + " 'c'", 8);
            isCounted("over (^" + op + " 'b') 'a'", 5);
        }
        isCounted("over (rev . ^fast 2 . + 'b') 'a'", 6);
        isCounted("over (^rev . fast 2 . + 'b') 'a'", 7);
    }

    private static void eachInATextIsCounted() {
        isCounted("'^a'", 1);
        isCounted("'^a'", 2);
        isCounted("'  ^12  b'", 1);
        isCounted("'a ^-12'", 2);
        isCounted("'a ^~'", 2);
        isCounted("'  ^a b'", 3);
        isCounted("'a^*2'", 2);
        isCounted("'a ^/2'", 2);
        isCounted("'a^?'", 2);
        isCounted("'a^(1,2)'", 2);
        isCounted("'a*2^?'", 3);
        isCounted("'^<a b>'", 3);
        isCounted("'^{a b}%2'", 3);
        isCounted("'[^a b]'", 3);
        isCounted("'[ ^a b ]'", 3);
        isCounted("'[a, ^b]'", 4);
        isCounted("'^[a, b]'", 5);
        isCounted("'^[a, b, c]'", 7);
        isCounted("'^[a, b, c]'", 8);
        isCounted("'a!16 ^b!16'", 2);
        isCounted("'^a!16 b!16'", 3);
        isCounted("struct 'a' '^b'", 3);
        isCounted("over (# '^b') 'a'", 1);
        isCounted("over (# 'b') '^a'", 3);
    }

    private static void usesAreCounted() {
        isCounted("^f 'a'", 3);
        isCounted("^f 'a'", 4);
        isCounted("^g 'a'", 3);
        isCounted("^g 'a'", 4);
        isCounted("^g 'a'", 7);
        isCounted("over ^f 'a'", 3);
        isCounted("over ^f 'a'", 4);
        isCounted("^over f 'a'", 5);
        isCounted("over (^h 'b') 'a'", 5);
        isCounted("over (^h 'b') 'a'", 6);
        isCounted("^h 'a' 'b'", 5);
        isCounted("^h (f 'a') 'b'", 7);
    }

    private static void theRestOfSeveral() {
        isCounted("'a' ^& 'b'", 5);
        isCounted("'a' ^; 'b'", 5);
        isCounted("'a' ^& 'b' & 'c'", 7);
        isCounted("'a' ^& 'b' & 'c'", 8);
        isCounted("'a' ^; 'b' ; 'c'", 7);
        isCounted("'a' ^; 'b' ; 'c'", 8);
        isCounted("'a' ^& 'b' & 'c' & 'd'", 9);
        isCounted("'a' ^& 'b' & 'c' & 'd'", 10);
        isCounted("'a' ^& 'b' & 'c' & 'd'", 11);
        isCounted("'a' & 'b' ^; 'c'", 7);
        isCounted("'a' ^& 'b' ; 'c'", 8);
        Check all = new Check().with("p = 'a'");
        Check.same("201 of them", all.on(0, "p" + Check.times(200, "&p")).told(), "0 -1 200");
        all.hangFault("p^&p" + Check.times(200, "&p"), 5, 200);
        Check.same("401 would be too many of all", new Check().with("p='~'").hang(0, "p" + Check.times(400, ";p")), 5);
    }

    private static void whatIsNotMadeAgain() {
        Check all = new Check().with("p = 'a b c'\nf x = x & x & p");
        Check.same("a definition in use", all.on(0, "p").told(), "0 -1 0");
        Check.same("more than once", all.on(0, "p # p").told(), "0 -1 1");
        Check.same("a pattern that is given", all.on(0, "f 'x y'").told(), "0 -1 6");
        Check.same("each time that it is used", all.on(0, "f (f p)").told(), "0 -1 6");
        Check.same("a body that is read only", all.with("g x = 'a b c' & x").told(), "0 -1 0");
        Check.same("a body with a text", all.on(0, "g p").told(), "0 -1 6");
        Check.same("! n", all.on(0, "'[a b]!16'").told(), "0 -1 4");
    }

    private static void countedInOneTape() {
        Check all = new Check().with("a = '" + Check.times(99, "~ ") + "'\nb = '" + Check.times(99, "~ ") + "'");
        Check.same("200 in two lines", all.told(), "0 -1 200");
        Check.same("and again in the next tape", all.on(0, "'" + Check.times(199, "~ ") + "'").told(), "0 -1 200");
        new Check().readFault("a = '" + Check.times(99, "~ ") + "'\nb = '^" + Check.times(100, "~ ") + "'", 5, 200);
        new Check().readFault("a = '" + Check.times(199, "~ ") + "'\nb x = x\nc = '^a'", 5, 200);
        Check.same("no more is made", new Check().with("a = '" + Check.times(199, "~ ") + "'\nb x = 'a' & x\nc = a").told(), "0 -1 200");
    }

    private static void bounds(String text, String due) {
        Check.same("bounds of " + text, new Check().on(0, text).bounds(0), due);
    }

    /** The first text is within all bounds, the second one breaks one where ^ stands. */
    private static void edge(int fault, String within, String marked) {
        new Check().on(0, within);
        Check all = new Check();
        Check.same("hang of " + marked, all.hang(0, marked.replace("^", "")), fault);
        Check.same("place of " + marked, all.x().told(1), marked.indexOf('^'));
        Check.same("no pattern", all.x().about(3), 0);
    }

    /** GRAIN: 1000000 is as it should be, 1000001 is FAULT 6. */
    private static void grain() {
        String wide = Check.times(38, "~@16!16 ") + "~@16!10 ";
        bounds("'" + wide + "[~@16!6 ~@4]@12'", "990000 0 1 627 3");
        new Check().hangFault("'^" + wide + "[~@16!6 ~@5]@13'", 6, 42);
        String g = "[~*25]*25 ";
        String of1599 = Check.times(6, "~@16!16 ") + "~@16!3 ~@15";
        bounds("'" + g + of1599 + "'", "1000000 0 1 777 5");
        edge(6, "'" + g + of1599 + "'", "'^" + g + of1599 + " ~'");
        edge(6, "'" + g + of1599 + "' & '~*5'", "'" + g + of1599 + "' ^& '~*3'");
        edge(6, "'" + g + of1599 + "' ; '~*16' ; '~'", "'" + g + of1599 + "' ^; '~' ; '~*3'");
        String g40000 = g + "~@16!3 ~@15";
        bounds("fast 25 '" + g40000 + "'", "1000000 0 1 17026 6");
        edge(6, "fast 25 '" + g40000 + "'", "^fast 26 '" + g40000 + "'");
        edge(6, "fast 25:3 '" + g40000 + "'", "^slow 3:26 '" + g40000 + "'");
        edge(6, "'[" + g40000 + "]*25'", "'[" + g40000 + "]^*26'");
        edge(6, "'[" + g40000 + "](0,25)'", "'[" + g40000 + "]^(0,26)'");
        edge(6, "'{[" + g40000 + "]}%25'", "'^{[" + g40000 + "]}%26'");
        edge(6, "ply 25 '" + g40000 + "'", "^ply 26 '" + g40000 + "'");
        String g31250 = g + "~@16!3 ~";
        bounds("ply 32 '" + g31250 + "'", "1000000 0 1 1363 6");
        String g31875 = g + "~@16!3 ~@2";
        String g32500 = g + "~@16!3 ~@3";
        edge(6, "iter 31 '" + g31875 + "'", "^iter 31 '" + g32500 + "'");
        edge(6, "'" + g31875 + "' & '~*31'", "'" + g32500 + "' ^& '~*31'");
        edge(6, "'" + g31875 + "' ; '~*31'", "'" + g32500 + "' ^; '~*31'");
        edge(6, "'[" + g31875 + ",~*31]'", "'^[" + g32500 + ",~*31]'");
        edge(6, "'<[" + g31875 + "] ~*31>'", "'^<[" + g32500 + "] ~*31>'");
        for (String function : new String[] {"every 2", "when 2 1", "chunk 2", "within 0 1", "over"}) {
            edge(6, function + " (struct '~*31') '" + g31875 + "'", "^" + function + " (struct '~*31') '" + g32500 + "'");
        }
        String g15625 = g + "~@9 ~@15";
        String g16250 = g + "~@9 ~@16";
        bounds("late 1:64 '" + g15625 + "'", "1000000 0 1 1359 6");
        bounds("squeeze 1:64 1 '" + g15625 + "'", "1000000 0 1 680 6");
        for (String function : new String[] {"late 1:63", "early 1:63", "squeeze 0 1:63", "squeeze 1:63 1", "off 1:63 rev"}) {
            edge(6, function + " '" + g15625 + "'", "^" + function + " '" + g16250 + "'");
        }
    }

    /** CROWD: 400 is as it should be, 401 is FAULT 7. */
    private static void crowd() {
        bounds("'a*20!16 a*20!4'", "400 400 1 421 3");
        edge(7, "'a*20!16 a*20!4 ~'", "'^a*20!16 a*20!4 b'");
        edge(7, "'[[a*20]*20,~]'", "'^[[a*20]*20,b]'");
        edge(7, "'[a*20]*20' & '~'", "'[a*20]*20' ^& 'b'");
        edge(7, "'<[a*20]*20 b>'", "'<[a*20]*20 b>' ^& 'b'");
        edge(7, "'[a*20]*20' ; 'b'", "'[a*20]*20 ~' ^& 'b'");
        edge(7, "'{a*20 b}%20'", "'^{a*20 b}%21'");
        edge(7, "'[a*20](20,32)'", "'[a*20]^(21,32)'");
        edge(7, "fast 20 'a*20'", "^fast 21 'a*20'");
        edge(7, "fast 37:2 'a*20'", "^fast 39:2 'a*20'");
        edge(7, "ply 25 (slow 3 'a b')", "^ply 26 (slow 3 'a b')");
        edge(7, "ply 2 '[a*20]*5'", "^ply 2 '[a*20]*5 b'");
        edge(7, "inside 2 rev '[a*20]*5'", "^inside 2 rev '[a*20]*5 b'");
        for (String function : new String[] {"slow 2", "early 1:2", "late 3:2", "iter 1", "over rev", "chunk 2 rev", "within 0 1 rev", "some 5 rev", "off 1 rev"}) {
            edge(7, function + " '[a*20]*10'", "^" + function + " '[a*20]*10 b'");
        }
        for (String function : new String[] {"early 1", "late 64", "rev", "rot 1", "drop 0", "keep 0", "squeeze 0 1", "every 2 rev", "when 2 1 rev", "struct '[~*20]*20'", "mask 'a'", "fast 1", "slow 1"}) {
            edge(7, function + " '[a*20]*20'", function + " '[a*20]^*21'");
        }
        edge(7, "struct '[a*20]*20' 'b'", "'[a*20]*20' # 'b' ^& 'b'");
        Check all = new Check().on(0, "'[a*20]*20'");
        Check.same("as many as 400", all.x().ask(0, 99999), 400);
        Check.same("the last", all.x().event(399, 0) + "/" + all.x().event(399, 1), "399/400");
        Check.same("no other", all.x().event(400, 0), -1);
        Check.same("heard", all.x().play(960), 400);
        Check.same("the last", all.x().heard(399, 2) + "/" + all.x().heard(399, 3), "399/400");
        Check.same("no other", all.x().heard(400, 0), -1);
    }

    /** REACH: 64 is as it should be, 65 is FAULT 8. */
    private static void reach() {
        bounds("slow 64 'a'", "1 2 64 5 3");
        bounds("slow 64 (rev (slow 64 'a'))", "1 4 64 13 5");
        edge(8, "slow 8 (slow 8 'a')", "^slow 5 (slow 13 'a')");
        edge(8, "slow 64:63 (slow 63 'a')", "^slow 63:62 (slow 63 'a')");
        edge(8, "'a/32/2'", "'a/32^/3'");
        edge(8, "slow 63:64 (slow 64 'a')", "^slow 64:63 (slow 64 'a')");
        edge(8, "inside 32 rev (slow 2 'a')", "^inside 32 rev (slow 3 'a')");
        edge(8, "slow 64 (slow 2:3 'a')", "^slow 64 (slow 3:2 'a')");
        String two = "(slow 2 'a')";
        String nine = "(slow 9 'b')";
        String[] ofTwo = {"('b' & 'a/2')", "('b' ; 'a/2')", "'a/2 b'", "'[b,a/2]'", "'<a/2 b>'", "'{a/2 b}%4'", "'a/2(1,4)'", "'a/2?'", "(every 2 (slow 2) 'a')",
            "(when 2 1 (slow 2) 'a')", "(chunk 2 (slow 2) 'a')", "(within 0 1 (slow 2) 'a')", "(over (slow 2) 'a')", "(off 1 (slow 2) 'a')", "(some 5 (slow 2) 'a')",
            "(early 1:2 " + two + ")", "(late 1 " + two + ")", "(iter 2 " + two + ")", "(ply 2 " + two + ")", "(rot 1 " + two + ")", "(drop 5 " + two + ")", "(keep 5 " + two + ")",
            "(squeeze 0 1:4 " + two + ")", "(struct " + two + nine + ")", "(mask " + nine + two + ")", "(" + two + " # " + nine + ")", "(" + two + " + " + nine + ")"};
        for (String pattern : ofTwo) {
            edge(8, "slow 32 " + pattern, "^slow 33 " + pattern);
        }
    }

    /** WORK: 50000 is as it should be, 50001 is FAULT 9. */
    private static void work() {
        String heavy = "fast 32 '[~*30]!16 [~*30]!16 [~*30]!16 ~!16 ~!8' ";
        bounds(heavy + "& '~!16 ~!16 ~!13'", "69120 0 1 50000 6");
        edge(9, heavy + "& '~!16 ~!16 ~!13'", heavy + "^& '~!16 ~!16 ~!12 [~]'");
        String half = "(fast 32 '" + Check.times(48, "~!16 ") + "~!12' & '~ ~ ~";
        bounds("'[a]' # " + half + "')", "1 1 1 50000 5");
        edge(9, "'[a]' # " + half + "')", "'[a]' ^# " + half + " ~')");
        edge(9, "struct '[a]' " + half + "')", "^struct '[a]' " + half + " ~')");
        edge(9, "mask " + half + "') '[a]'", "^mask " + half + " ~') '[a]'");
        edge(9, "'~' # " + half + " ~')", "'a b' ^# " + half + "')");
    }

    /** DEPTH: 60 is as it should be, 61 is FAULT 10. */
    private static void depth() {
        String revs = "rev" + Check.times(56, " . rev");
        bounds("over (" + revs + ") '~'", "1 0 1 62 60");
        for (String function : new String[] {"over", "every 2", "when 2 1", "chunk 2", "within 0 1"}) {
            edge(10, function + " (" + revs + ") '~'", "^" + function + " (" + revs + " . rev) '~'");
        }
        String ones = "a" + Check.times(57, "*1");
        edge(10, "'" + ones + "*1'", "'^" + ones + "*1*1'");
        edge(10, "'" + ones + "' & 'b'", "'" + ones + "*1' ^& 'b'");
        edge(10, "'b' ; '" + ones + "'", "'b' ^; '" + ones + "*1'");
        edge(10, "'<b " + ones + ">'", "'^<b " + ones + "*1>'");
        edge(10, "'{b " + ones + "}%2'", "'^{b " + ones + "*1}%2'");
        edge(10, "'b' # '" + ones + "'", "'b' ^# '" + ones + "*1'");
        edge(10, "'" + ones + "' # 'b'", "'" + ones + "*1' ^# 'b'");
        for (String function : new String[] {"fast 2", "slow 2", "early 1", "late 1", "rev", "iter 2", "ply 1", "rot 0", "drop 0", "keep 0", "squeeze 0 1", "struct 'b'", "mask 'b'"}) {
            edge(10, function + " '" + ones + "'", "^" + function + " '" + ones + "*1'");
        }
        edge(10, "struct '" + ones + "' 'b'", "^struct '" + ones + "*1' 'b'");
        edge(10, "mask '" + ones + "' 'b'", "^mask '" + ones + "*1' 'b'");
        edge(10, "'" + ones + "?'", "'^" + ones + "*1?'");
        edge(10, "'" + ones + "(1,1)'", "'^" + ones + "*1(1,1)'");
    }

    /** FAULTS 6 to 10 go ahead of one another in this order, and FAULT 5 ahead of them all. */
    private static void oneAheadOfAnother() {
        edge(6, "rev '~'", "'[[[[[[[a*13]@5]@5]@5]@5]@5]@5]^*32'");
        edge(7, "rev '~'", "^slow 64 (slow 2 '[a*20]*10')");
        edge(8, "rev '~'", "^slow 64 (slow 2 'a')");
        edge(8, "rev '~'", "^slow 64 (slow 2 '[[~*32]*32]*18')");
        String sixty = "'a'" + Check.times(58, " + '~'");
        edge(9, sixty, sixty + " ^+ (fast 32 '[~*30]!16 [~*30]!16')");
        edge(10, sixty, sixty + " ^+ (fast 32 '[~*30]!8')");
        String words = Check.times(199, "a ");
        edge(5, "'" + words + "'", "^fast 64 '" + words + "'");
        edge(5, "'" + words + "'", "^fast 3 '" + words + "'");
        edge(7, "'" + words + "'", "^fast 3 '" + Check.times(198, "a ") + "'");
    }

    /** All ARGS as they stand, those of a FUN, too, then what FUNS make, then the part: the first FAULT of these is told. */
    private static void onePartAheadOfAnother() {
        String wrong = "'[a*20]*21'";
        String marked = "'[a*20]^*21'";
        new Check().hangFault("struct " + marked + " " + wrong, 7, 3);
        new Check().hangFault("struct 'a' " + marked, 7, 5);
        new Check().hangFault(marked + " # " + wrong + " & " + wrong, 7, 3);
        new Check().hangFault("'a' # " + marked + " & " + wrong, 7, 5);
        new Check().hangFault("'a' & 'b' ; " + marked + " & " + wrong, 7, 7);
        new Check().hangFault("'[a*20]*20' ^& '[b*20]*20' & 'c' # 'd'", 7, 16);
        new Check().hangFault("every 2 (# " + marked + ") " + wrong, 7, 3);
        new Check().hangFault("every 2 (# 'a' . # " + marked + ") " + wrong, 7, 5);
        new Check().hangFault("every 2 (fast 32 . fast 32) " + marked, 7, 3);
        new Check().hangFault("every 2 (^fast 32 . fast 32) 'a'", 7, 3);
        new Check().hangFault("every 2 (fast 32 . ^fast 32) 'a*20'", 7, 3);
        new Check().hangFault("every 2 (every 2 (^fast 32) . fast 32) 'a'", 7, 3);
        new Check().hangFault("every 2 (struct " + marked + " . fast 32) " + wrong, 7, 3);
        new Check().hangFault("some 5 (^fast 32) 'a*20'", 7, 5);
        new Check().hangFault("off 1 (^fast 32) 'a*20'", 7, 3);
        new Check().hangFault("inside 2 (^fast 32) 'a*20'", 7, 4);
        new Check().hangFault("fast 32 (fast 2 " + marked + ")", 7, 3);
        new Check().hangFault("^fast 32 (fast 32 'a')", 7, 3);
        Check all = new Check().with("f x = fast 32 x\ng x y = x & f y");
        all.hangFault("g " + marked + " " + wrong, 7, 3);
        all.hangFault("g 'a' " + marked, 7, 5);
        all.hangFault("^g 'a' 'b*20'", 7, 7);
        all.hangFault("over (g " + marked + ") " + wrong, 7, 3);
        all.hangFault("over (^g 'a') 'b*20'", 7, 7);
    }

    /** T of fast and slow: rounded up, and one more if it is not by 1. */
    private static void roundedUp() {
        bounds("fast 1 'a b'", "2 2 1 4 3");
        bounds("fast 2 'a b'", "4 4 1 7 3");
        bounds("fast 3:2 'a b'", "6 6 1 10 3");
        bounds("fast 4:3 'a b'", "8 6 1 10 3");
        bounds("fast 5:3 'a b'", "10 6 1 10 3");
        bounds("fast 7:3 'a b'", "14 8 1 13 3");
        bounds("fast 1:2 'a b'", "2 4 2 7 3");
        bounds("fast 2:3 'a b'", "4 4 2 7 3");
        bounds("slow 2:3 'a b'", "6 6 1 10 3");
        bounds("slow 1 'a b'", "2 2 1 4 3");
        bounds("'[a b]/2'", "2 4 2 8 4");
        bounds("'[a b]/1'", "2 2 1 5 4");
        bounds("slow 3:2 (slow 3 'a b')", "4 8 5 15 4");
        bounds("slow 4:3 (slow 3 'a b')", "6 8 4 15 4");
        bounds("fast 3:2 (slow 3 'a b')", "6 12 2 22 4");
        bounds("fast 4:3 (slow 3 'a b')", "8 12 3 22 4");
        bounds("late 2 'a b'", "2 2 1 4 3");
        bounds("late 3:2 'a b'", "2 4 1 7 3");
        bounds("late 1:3 'a b'", "6 4 1 7 3");
    }

    /** A use within the bodies of twelve others is FAULT 10, ahead of 5. */
    private static void usesWithinOthers() {
        StringBuilder lines = new StringBuilder("u1 x = x\n");
        for (int i = 2; i <= 14; i++) {
            lines.append("u").append(i).append(" x = u").append(i - 1).append(" x\n");
        }
        String all = lines.toString();
        Check.same("eleven others", new Check().with(all).on(0, "u12 'a'").told(), "0 -1 14");
        new Check().with(all).hangFault("^u13 'a'", 10, 14);
        new Check().with(all).hangFault("^u14 'a'", 10, 14);
        new Check().with(all).hangFault("rev (^u13 'a')", 10, 14);
        new Check().with(all).hangFault("over ^u13 'a'", 10, 14);
        new Check().with(all).hangFault("over (rev . ^u13) 'a'", 10, 14);
        new Check().with(all).hangFault("u12 'b' & ^u13 'a'", 10, 28);
        Check.same("behind one another", new Check().with(all).on(0, "u12 (u12 (u12 'a'))").told(), "0 -1 38");
        Check.same("as a FUN within one", new Check().with(all + "v x = over u11 x").on(0, "v 'a'").told(), "0 -1 15");
        new Check().with(all + "v x = over u12 x").hangFault("^v 'a'", 10, 14);
        new Check().with(all).hangFault("^u13 '" + Check.times(187, "a ") + "'", 10, 200);
        new Check().with(all).hangFault("^u13 '" + Check.times(188, "a ") + "'", 5, 200);
        Check.same("200 with the twelfth", new Check().with(all).on(0, "u12 '" + Check.times(187, "a ") + "'").told(), "0 -1 200");
        new Check().with(all).readFault("w = u12 'a'\nz = ^u13 w", 10, 26);
        Check.same("what a definition is, is not within", new Check().with(all + "w = u12 'a'\nz x = u11 (x & w)").on(0, "z w").told(), "0 -1 13");
    }

    private static String names(int from, int to, String end) {
        StringBuilder all = new StringBuilder();
        for (int i = from; i <= to; i++) {
            all.append("d").append(i).append("='a'").append(i < to ? "\n" : end);
        }
        return all.toString();
    }

    /** FAULT 11: more than 40 definitions in all; those told again count once. */
    private static void fortyDefinitions() {
        Check.same("39", new Check().with(names(1, 39, "")).x().about(2), 39);
        Check.same("40", new Check().with(names(1, 40, "\n")).x().about(2), 40);
        Check at41 = new Check();
        Check.same("41", at41.read(names(1, 41, "")), 11);
        Check.same("told of it", at41.told(), "11 -1 82");
        Check.same("none of them holds", at41.x().about(2), 0);
        at41.hangFault("^d1", 2, 0);
        Check all = new Check().with(names(1, 20, "\n")).with(names(21, 39, ""));
        Check.same("two more are one too many", all.read("x = 'b'\ny = 'c'"), 11);
        Check.same("none of them holds", all.x().about(2), 39);
        all.with("x = 'b'\nx = 'c'\nd1 = 'd'\nx = 'e'");
        Check.same("those told again count once", all.x().about(2), 40);
        Check.same("the latest", all.on(0, "x & d1").row(0, 0), "0+1:e 0+1:d");
        Check.same("one more", all.read("y x = x"), 11);
        Check.same("told of it", all.told(), "11 -1 0");
        Check.same("one in the place of another", all.read("x y = y"), 0);
        Check.same("still", all.x().about(2), 40);
        all.readFault("y = 'a'\nz = ^q", 2, 2);
        all.readFault("y = 'a'\nz = '[a*20]^*21'", 7, 5);
        all.readFault("y = 'a'\nz^", 1, 2);
    }

    private static void whatFaultsLeave() {
        Check all = new Check().with("p = 'a'").on(0, "p");
        all.hangFault("^fast 64 (fast 64 (fast 64 (fast 4 '~')))", 6, 5);
        all.readFault("p = 'b'\nq = '[a*20]^*21'", 7, 5);
        Check.same("the track's pattern stays", all.row(0, 0), "0+1:a");
        Check.same("the definition stays", all.on(1, "p").row(1, 0), "0+1:a");
        Check.same("told of a use of it", all.told(), "0 -1 0");
        all.x().play(1);
        all.on(1, "'c'");
        all.hangFault("'a' &^& 'b'", 1, 0);
        Check.same("what waits stays", all.x().about(4), 1);
        all.x().play(959);
        Check.same("and becomes so", all.row(1, 0), "0+1:c");
    }
}
