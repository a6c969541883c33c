/** The edges of promises 1 to 3 and of THE TAPE and its TOKENS: each sentence at its edge and right beside it. */
final class TapeEdgeTest {
    private static final int BLANKS = 0x20202020;

    public static void main(String[] args) {
        aNewObject();
        roomForTwentyBytes();
        refusedFeedBringsNone();
        highestByteFirst();
        endKeepsTheFirst();
        feedGoesOnBehindTheEnd();
        bytesBehindTheEnd();
        fullTapeIsRead();
        everyByteBehindAnExpression();
        everyByteInAText();
        everyByteAlone();
        everyByteInAName();
        lengthOfNames();
        lengthOfCounts();
        lengthOfFractions();
        fractionsInOnePiece();
        textsHaveTheirOtherSign();
        blanksBetweenTokens();
        Check.finish("TapeEdgeTest");
    }

    private static void aNewObject() {
        CycleStudio x = new CycleStudio();
        for (int what = 0; what <= 6; what++) {
            Check.same("about(" + what + ") of a new object", x.about(what), 0);
        }
        for (int what = 0; what <= 2; what++) {
            Check.same("told(" + what + ") ahead of any", x.told(what), -1);
        }
        for (int track = 0; track < 8; track++) {
            Check.same("bound of a track without one", x.bound(track, 0), -1);
            Check.same("ask of a track without one", x.ask(track, 0), -1);
            Check.same("not muted", x.mute(track, false), false);
            Check.same("not solo", x.solo(track, false), false);
        }
        Check.same("nothing ASKED", x.event(0, 0), -1);
        Check.same("nothing ASKED", x.letter(0, 0), -1);
        Check.same("nothing HEARD", x.heard(0, 0), -1);
        Check.same("nothing HEARD", x.heardLetter(0, 0), -1);
        Check.same("an empty tape has no byte", x.end(1), false);
        Check.same("an empty tape is a SOURCE", x.read(), 0);
        Check.same("but no EXP", x.hang(0), 1);
        Check.same("it ends too early at 0", x.told(1), 0);
        Check all = new Check().on(0, "drop 500 'a*16'");
        String ofNew = all.row(0, 3);
        all.x().seed(1);
        boolean other = !all.row(0, 3).equals(ofNew);
        all.x().seed(0);
        Check.same("seed 0 is the one of a new object", all.row(0, 3), ofNew);
        Check.same("and 1 is not", other, true);
    }

    private static CycleStudio blanks(int twenties) {
        CycleStudio x = new CycleStudio();
        for (int i = 0; i < twenties; i++) {
            Check.same("feed " + i, x.feed(BLANKS, BLANKS, BLANKS, BLANKS, BLANKS), true);
            Check.same("twenty bytes more", x.about(6), 20 * (i + 1));
        }
        return x;
    }

    private static void roomForTwentyBytes() {
        for (int size = 1979; size <= 2000; size++) {
            CycleStudio x = blanks(100);
            Check.same("end(" + size + ")", x.end(size), true);
            boolean fits = size <= 1980;
            Check.same("feed behind " + size, x.feed(BLANKS, BLANKS, BLANKS, BLANKS, BLANKS), fits);
            Check.same("bytes behind it", x.about(6), fits ? size + 20 : size);
        }
    }

    private static void refusedFeedBringsNone() {
        CycleStudio x = blanks(99);
        Check.same("the last twenty", x.feed(0x22616222, BLANKS, BLANKS, BLANKS, BLANKS), true);
        Check.same("no room", x.feed(-1, -1, -1, -1, -1), false);
        Check.same("2000", x.about(6), 2000);
        Check.same("the first ones are the same", x.hang(0), 0);
        x = blanks(99);
        x.feed(0x22616222, BLANKS, BLANKS, BLANKS, BLANKS);
        x.end(1984);
        Check.same("room for sixteen", x.feed(-1, -1, -1, -1, -1), false);
        Check.same("1984", x.about(6), 1984);
        Check.same("none came", x.hang(0), 0);
        Check.same("ab", x.ask(0, 0) == 1 && x.letter(0, 0) == 'a' && x.letter(0, 1) == 'b', true);
    }

    private static void highestByteFirst() {
        CycleStudio x = new CycleStudio();
        Check.same("feed", x.feed(0x22616263, 0x64206566, 0x67206869, 0x6a6b6c6d, 0x6e6f2022), true);
        Check.same("bytes", x.about(6), 20);
        Check.same("hang", x.hang(0), 0);
        String[] words = {"abcd", "efg", "hijklmno"};
        Check.same("words", x.ask(0, 0), words.length);
        for (int k = 0; k < words.length; k++) {
            Check.same("letters of " + words[k], x.event(k, 6), words[k].length());
            for (int i = 0; i < words[k].length(); i++) {
                Check.same("letter " + i + " of " + words[k], x.letter(k, i), words[k].charAt(i));
            }
        }
    }

    private static void endKeepsTheFirst() {
        CycleStudio x = new CycleStudio();
        Check.same("feed", x.feed(0x2261220a, 0x22622220, BLANKS, BLANKS, BLANKS), true);
        int[] wrong = {-1, -20, Integer.MIN_VALUE, 21, 2000, 2001, Integer.MAX_VALUE};
        for (int n : wrong) {
            Check.same("end(" + n + ") of 20 bytes", x.end(n), false);
            Check.same("nothing happens", x.about(6), 20);
        }
        Check.same("all of them", x.end(20), true);
        Check.same("20", x.about(6), 20);
        Check.same("the first three", x.end(3), true);
        Check.same("3", x.about(6), 3);
        Check.same("a fourth is gone", x.end(4), false);
        Check.same("3", x.about(6), 3);
        Check.same("hang", x.hang(0), 0);
        Check.same("the tape is empty then", x.end(1), false);
        Check.same("none", x.end(0), true);
        x.feed(0x22612220, BLANKS, BLANKS, BLANKS, BLANKS);
        Check.same("none of them", x.end(0), true);
        Check.same("0", x.about(6), 0);
        Check.same("hang of none", x.hang(0), 1);
    }

    private static void feedGoesOnBehindTheEnd() {
        CycleStudio x = new CycleStudio();
        x.feed(0x22616161, 0x61616161, 0x61616161, 0x61616161, 0x61616161);
        Check.same("the first three", x.end(3), true);
        x.feed(0x62632220, BLANKS, BLANKS, BLANKS, BLANKS);
        Check.same("23", x.about(6), 23);
        Check.same("hang", x.hang(0), 0);
        Check.same("one", x.ask(0, 0), 1);
        Check.same("aabc", x.event(0, 6), 4);
        Check.same("b", x.letter(0, 2), 'b');
    }

    /** Reads the first bytes of a tape only, up to where ^ stands: what stood behind them is none of the tape's. */
    private static void cut(String marked, int fault, int place) {
        int size = marked.indexOf('^');
        Check all = new Check().tape(marked.replace("^", ""));
        Check.same("end of " + marked, all.x().end(size), true);
        Check.same("hang of " + marked, all.x().hang(0), fault);
        Check.same("place of " + marked, all.x().told(1), place);
        Check again = new Check();
        again.hang(0, marked.replace("^", ""));
        again.tape(marked.substring(0, size));
        Check.same("hang of " + marked + " behind a longer one", again.x().hang(0), fault);
        Check.same("place of it", again.x().told(1), place);
    }

    private static void bytesBehindTheEnd() {
        cut("'a'^ & 'b'", 0, -1);
        cut("'a' &^ 'b'", 1, 5);
        cut("'a^'", 1, 0);
        cut("'a^ b'", 1, 0);
        cut("fast^ 2 'a'", 1, 4);
        cut("fast 2^ 'a'", 1, 6);
        cut("fast 2^9 'a'", 1, 6);
        cut("fast 6^9 'a'", 1, 6);
        cut("fast 2^:0 'a'", 1, 6);
        cut("fast 2:^1 'a'", 1, 6);
        cut("fast 2:1^00 'a'", 1, 8);
        cut("drop 1000^0 'a'", 1, 9);
        cut("over re^v 'a'", 2, 5);
        cut("over rev^x 'a'", 1, 8);
        cut("re^v 'a'", 2, 0);
        cut("abcdefghijkl^m", 2, 0);
        cut("('a'^)", 1, 4);
        cut("'a'\n^x", 0, -1);
        cut("'a' ^x", 0, -1);
        cut("^'a'", 1, 0);
        Check all = new Check().with("x = 'a'\ny = 'b'");
        all.tape("xy = 'c'");
        all.x().end(1);
        Check.same("a shorter name", all.x().hang(0), 0);
        Check.same("is its own", all.row(0, 0), "0+1:a");
    }

    private static void fullTapeIsRead() {
        Check.same("the last byte is read", new Check().on(0, Check.times(1997, " ") + "'a'").row(0, 0), "0+1:a");
        new Check().hangFault(Check.times(2000, " ") + "^", 1, 0);
        new Check().hangFault(Check.times(1996, " ") + "'a'&^", 1, 0);
        new Check().hangFault(Check.times(1998, " ") + "^'a", 1, 0);
        new Check().with(Check.times(2000, "\n"));
        new Check().readFault(Check.times(1996, "\n") + "x=^'a", 1, 0);
        Check all = new Check().with(Check.times(1995, "\n") + "x='a'");
        Check.same("a line up to the end", all.x().about(2), 1);
        Check.same("a name up to the end", all.on(1, Check.times(1999, " ") + "x").row(1, 0), "0+1:a");
        String longText = Check.times(1970, " ") + "fast 2 'a" + Check.times(19, " ") + "b'";
        Check.same("a text up to the end", longText.length(), 2000);
        Check.same("a text up to the end", new Check().on(2, longText).row(2, 0), "0+1/4:a 1/4+1/4:b 1/2+1/4:a 3/4+1/4:b");
    }

    private static void faultIs(String what, Check all, int fault, int place) {
        Check.same(what, all.x().told(0) + " at " + all.x().told(1), fault + " at " + (fault == 0 ? -1 : place));
    }

    private static boolean isIn(String all, int b) {
        return b > 0 && all.indexOf(b) >= 0;
    }

    private static boolean isLetter(int b) {
        return b >= 97 && b <= 122;
    }

    private static boolean isDigit(int b) {
        return b >= 48 && b <= 57;
    }

    private static void everyByteBehindAnExpression() {
        for (int b = 0; b < 256; b++) {
            Check all = new Check().plainTape("\"a\"" + (char) b);
            all.x().hang(0);
            boolean goesOn = isIn("&;#+-*", b);
            faultIs("byte " + b + " behind an EXP", all, b == 10 || b == 32 ? 0 : 1, goesOn ? 4 : 3);
        }
    }

    private static void everyByteInAText() {
        for (int b = 0; b < 256; b++) {
            Check all = new Check().plainTape("\"a" + (char) b + "\"");
            all.x().hang(0);
            if (b == 32 || b == '?' || isLetter(b)) {
                faultIs("byte " + b + " in a TEXT", all, 0, 0);
            } else if (b < 32 || b > 126) {
                faultIs("byte " + b + " lets it be no TEXT", all, 1, 0);
            } else {
                faultIs("byte " + b + " in a TEXT", all, 1, b == '"' || isIn("*/@!(", b) ? 3 : 2);
            }
        }
    }

    private static void everyByteAlone() {
        for (int b = 0; b < 256; b++) {
            Check all = new Check().plainTape("" + (char) b);
            all.x().hang(0);
            faultIs("hang of byte " + b, all, isLetter(b) ? 2 : 1, b == 32 || b == '(' ? 1 : 0);
            all.plainTape("" + (char) b).x().read();
            faultIs("read of byte " + b, all, b == 10 || b == 32 ? 0 : 1, isLetter(b) ? 1 : 0);
        }
    }

    private static void everyByteInAName() {
        for (int b = 0; b < 256; b++) {
            Check all = new Check().plainTape("a" + (char) b + "=\"x\"");
            all.x().read();
            boolean stays = b == 32 || isLetter(b) || isDigit(b);
            faultIs("byte " + b + " in a NAME", all, stays ? 0 : 1, b == '=' ? 2 : 1);
            Check.same("definitions", all.x().about(2), stays ? 1 : 0);
            if (isLetter(b) || isDigit(b)) {
                all.on(0, "a" + (char) b).hangFault("^a", 2, 0);
            }
            all.plainTape((char) b + "b=\"x\"").x().read();
            boolean begins = b == 10 || b == 32 || isLetter(b);
            faultIs("byte " + b + " ahead of a NAME", all, begins ? 0 : 1, 0);
        }
    }

    private static void lengthOfNames() {
        Check all = new Check();
        all.with("abcdefghijkl = 'a'\nz23456789012 = 'b'");
        all.on(0, "abcdefghijkl").on(1, "z23456789012");
        all.hangFault("^abcdefghijk", 2, 0);
        all.hangFault("^abcdefghijklm", 1, 0);
        all.hangFault("^z234567890123", 1, 0);
        all.hangFault("^" + Check.times(100, "abcdefghijklm"), 1, 0);
        all.readFault("^abcdefghijklm = 'a'", 1, 0);
        all.readFault("f ^abcdefghijklm = 'a'", 1, 0);
        all.readFault("f abcdefghijkl = ^abcdefghijklm", 1, 0);
        all.with("f abcdefghijkl = abcdefghijkl");
        all.hangFault("every 2 ^abcdefghijklm 'a'", 1, 0);
        all.hangFault("every 2 (^abcdefghijklm) 'a'", 1, 0);
        all.hangFault("every ^abcdefghijklm rev 'a'", 1, 0);
        all.hangFault("'a' ^abcdefghijklm", 1, 0);
    }

    private static void lengthOfCounts() {
        Check all = new Check();
        all.on(0, "drop 0 'a'").on(0, "drop 00 'a'").on(0, "drop 0000 'a'").on(0, "drop 1000 'a'").on(0, "rot 0032 'a'");
        all.hangFault("drop ^00000 'a'", 1, 0);
        all.hangFault("drop ^01000 'a'", 1, 0);
        all.hangFault("drop ^10000 'a'", 1, 0);
        all.hangFault("drop ^9999 'a'", 3, 0);
        all.hangFault("drop ^1001 'a'", 3, 0);
        all.hangFault("every ^00002 rev 'a'", 1, 0);
        all.hangFault("when 2 ^00001 rev 'a'", 1, 0);
        all.hangFault("drop ^" + Check.times(50, "0") + "1 'a'", 1, 0);
        all.hangFault("'a' ^12345", 1, 0);
    }

    private static void lengthOfFractions() {
        Check all = new Check();
        all.on(0, "fast 0064 'a'").on(0, "fast 0064:0064 'a'").on(0, "early 0000:0001 'a'");
        all.hangFault("fast ^00064 'a'", 1, 0);
        all.hangFault("fast ^00064:1 'a'", 1, 0);
        all.hangFault("fast ^1:00001 'a'", 1, 0);
        all.hangFault("fast ^00001:00001 'a'", 1, 0);
        all.hangFault("fast ^1:9999 'a'", 3, 0);
        all.hangFault("fast ^9999:1 'a'", 3, 0);
        all.hangFault("within 0 ^00001 rev 'a'", 1, 0);
        all.hangFault("squeeze 0 ^1:00001 'a'", 1, 0);
        all.hangFault("every ^1:00001 rev 'a'", 1, 0);
        all.hangFault("every ^1:0001 rev 'a'", 3, 0);
    }

    private static void fractionsInOnePiece() {
        Check all = new Check();
        Check.same("3:2", all.on(0, "fast 3:2 'a b'").bounds(0), "6 6 1 10 3");
        Check.same("a text right behind", all.on(0, "fast 3:2'a b'").bounds(0), "6 6 1 10 3");
        all.hangFault("fast 3^:", 1, 0);
        all.hangFault("fast 3^: 2 'a'", 1, 0);
        all.hangFault("fast 3 ^:2 'a'", 1, 0);
        all.hangFault("fast 3 ^: 2 'a'", 1, 0);
        all.hangFault("fast 3^:'a'", 1, 0);
        all.hangFault("fast 3^::2 'a'", 1, 0);
        all.hangFault("fast 3^:x 'a'", 1, 0);
        all.hangFault("fast 3^:\n", 1, 0);
        all.hangFault("fast 3:2^:1 'a'", 1, 0);
        all.hangFault("fast 3:2 ^1 'a'", 1, 0);
        all.hangFault("fast ^:2 'a'", 1, 0);
        all.hangFault("every 2^: rev 'a'", 1, 0);
        all.hangFault("every ^2:1 rev 'a'", 3, 0);
    }

    private static void textsHaveTheirOtherSign() {
        Check all = new Check();
        all.hangFault("^'", 1, 0);
        all.hangFault("'^'", 1, 0);
        all.hangFault("' ^'", 1, 0);
        all.hangFault("^'a", 1, 0);
        all.hangFault("^'a\n'", 1, 0);
        all.hangFault("'a'^'", 1, 0);
        all.hangFault("'a' & ^'b\n'c'", 1, 0);
        all.hangFault("^'a\u001f'", 1, 0);
        all.hangFault("'a ^}'", 1, 0);
        all.hangFault("^'a\u007f'", 1, 0);
        all.on(0, "'a'").on(0, "'~'").on(0, "'a'&'b'");
        all.readFault("x = ^'a\ny = 'b'", 1, 0);
        all.readFault("x = 'a'\ny = ^'b", 1, 2);
    }

    private static void blanksBetweenTokens() {
        Check all = new Check().with("f x=x\n  g   x   =   x   \n");
        Check.same("as many as one likes", all.on(0, "   fast   2   'a'   &   f   'b'   ").told(), "0 -1 7");
        Check.same("or none", all.on(0, "fast 2'a'&f'b'").told(), "0 -1 7");
        Check.same("none between signs", all.on(0, "every 2(#'x'.rev)(f('a'))").told(), "0 -1 8");
        all.hangFault("^fast2 'a'", 2, 0);
        all.hangFault("fast 2 ^f'b'", 2, 0);
        all.hangFault("fast 2^x", 2, 0);
        Check.same("a digit and a letter are two tokens", all.x().told(0), 2);
        Check.same("lines' ends behind", all.on(0, "'a'\n \n").told(), "0 -1 2");
        all.hangFault("^\n'a'", 1, 0);
        all.hangFault("'a' & ^\n'b'", 1, 0);
        all.hangFault("fast ^\n2 'a'", 1, 0);
    }
}
