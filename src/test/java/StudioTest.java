/** Promises 1 to 7 and 12 to 19: the tape, the tracks and the transport. */
final class StudioTest {
    public static void main(String[] args) {
        aNewObject();
        theTape();
        readingAndHanging();
        hushing();
        telling();
        playing();
        swapping();
        theEndOfTime();
        hearing();
        manyHeard();
        jumping();
        mutingAndSolo();
        seeds();
        about();
        Check.finish("StudioTest");
    }

    private static void aNewObject() {
        CycleStudio x = new CycleStudio();
        for (int what = 0; what < 7; what++) {
            Check.same("about " + what, x.about(what), 0);
        }
        for (int what = -1; what < 4; what++) {
            Check.same("told " + what, x.told(what), -1);
        }
        Check.same("NONE", CycleStudio.NONE, -1);
        Check.same("no definitions", new Check().hang(0, "a"), 2);
        Check.same("play", x.play(960), 0);
        Check.same("heard", x.heard(0, 0), -1);
        Check.same("heardLetter", x.heardLetter(0, 0), -1);
        Check fresh = new Check().on(0, "drop 500 'a*8'");
        String row = fresh.row(0, 0);
        fresh.x().seed(0);
        Check.same("seed 0", fresh.row(0, 0), row);
    }

    private static void theTape() {
        CycleStudio x = new CycleStudio();
        Check.same("end of more than none", x.end(1), false);
        Check.same("end below 0", x.end(-1), false);
        Check.same("end of none", x.end(0), true);
        int blanks = 0x20202020;
        Check.same("the highest first", x.feed(0x22616220, 0x63206420, 0x65222020, blanks, blanks), true);
        Check.same("bytes", x.about(6), 20);
        Check.same("end behind it", x.end(21), false);
        Check.same("bytes stay", x.about(6), 20);
        Check.same("all of it", x.end(20), true);
        Check.same("hang", x.hang(0), 0);
        Check.same("four events", x.ask(0, 0), 4);
        Check.same("the first has two letters", x.event(0, 6), 2);
        Check.same("b", x.letter(0, 1), 'b');
        Check.same("empty then", x.about(6), 0);
        for (int i = 0; i < 100; i++) {
            Check.same("feed " + i, x.feed(blanks, blanks, blanks, blanks, -1), true);
        }
        Check.same("full", x.about(6), 2000);
        Check.same("no room", x.feed(blanks, blanks, blanks, blanks, blanks), false);
        Check.same("none comes", x.about(6), 2000);
        Check.same("one less", x.end(1981), true);
        Check.same("no room for all", x.feed(blanks, blanks, blanks, blanks, blanks), false);
        Check.same("twenty less", x.end(1980), true);
        Check.same("room", x.feed(blanks, blanks, blanks, blanks, 0x20226122), true);
        Check.same("a byte that is none", x.hang(0), 1);
        Check.same("its place", x.told(1), 16);
    }

    private static void readingAndHanging() {
        Check all = new Check().with("a = 'x y'");
        Check.same("definitions", all.x().about(2), 1);
        all.tape("a");
        Check.same("no such track", all.x().hang(8), -1);
        Check.same("no such track", all.x().hang(-1), -1);
        Check.same("nothing happens", all.x().about(6), 1);
        Check.same("told of the latest that read", all.told(), "0 -1 3");
        Check.same("hang", all.x().hang(7), 0);
        Check.same("the tape is empty", all.x().about(6), 0);
        Check.same("one track has a pattern", all.x().about(3), 1);
        Check.same("a fault", all.hang(7, "b"), 2);
        Check.same("all stays", all.x().ask(7, 0), 2);
        Check.same("a fault of read", all.read("b = 'x'\na = 'z'\nc = q"), 2);
        Check.same("none holds", all.hang(6, "b"), 2);
        String[] names = {"b", "bb", "bbb", "c", "aa", "a0", "a1", "az", "z", "zz", "z9", "b0", "abcdefghijkl", "abcdefghijk9"};
        for (int i = 0; i < names.length; i++) {
            all.with(names[i] + " = '" + i + "'");
        }
        Check.same("names that are not the same", all.x().about(2), 1 + names.length);
        for (int i = 0; i < names.length; i++) {
            Check.same(names[i], all.on(6, names[i]).row(6, 0), "0+1:#" + i);
        }
        Check.same("the former holds", all.on(6, "a").row(6, 0), "0+1/2:x 1/2+1/2:y");
    }

    private static void hushing() {
        Check all = new Check().on(3, "'a'");
        Check.same("no such track", all.x().hush(8), false);
        Check.same("no such track", all.x().hush(-1), false);
        Check.same("still there", all.x().about(3), 1);
        Check.same("hush", all.x().hush(3), true);
        Check.same("none", all.x().about(3), 0);
        Check.same("nothing to ask", all.x().ask(3, 0), -1);
        Check.same("hush of none", all.x().hush(3), true);
    }

    private static void telling() {
        Check all = new Check().on(0, "'a b'");
        Check.same("without a fault", all.told(), "0 -1 3");
        all.hang(0, "'a' b");
        Check.same("with a fault", all.told(), "1 4 0");
        Check.same("3", all.x().told(3), -1);
        Check.same("-1", all.x().told(-1), -1);
        all.read("a = 'x'\nb = a");
        Check.same("of read", all.told(), "0 -1 2");
    }

    private static void playing() {
        Check all = new Check().on(2, "'a b'").on(0, "'1 [2,3] 4'");
        Check.same("play 0", all.x().play(0), -1);
        Check.same("play -1", all.x().play(-1), -1);
        Check.same("play 3841", all.x().play(3841), -1);
        Check.same("nothing happens", all.x().about(0) + all.x().about(1), 0);
        Check.same("a cycle", all.x().play(960), 6);
        String cycle = "0@0,0+1/3:#1 2@0,0+1/2:a 0@0,1/3+1/3:#2 0@0,1/3+1/3:#3 2@0,1/2+1/2:b 0@0,2/3+1/3:#4";
        Check.same("heard", all.heard(6), cycle);
        Check.same("a third but one", all.x().play(319), 2);
        Check.same("the last one", all.x().play(1), 0);
        Check.same("from there on", all.x().play(160), 2);
        Check.same("heard", all.heard(2), "0@1,1/3+1/3:#2 0@1,1/3+1/3:#3");
        Check.same("the one of its end is the next's", all.x().play(1), 1);
        Check.same("heard", all.heard(1), "2@1,1/2+1/2:b");
        Check.same("now", all.x().about(1), 481);
        Check.same("over three ends", all.x().play(3840), 24);
        Check.same("now", all.x().about(0), 5);
        Check.same("the last", all.x().heard(23, 1), 5);
        Check.same("in all", all.x().about(5), 6 + 2 + 2 + 1 + 24);
        Check later = new Check().on(0, "'~ a b'").on(1, "'c ~ ~ d'").on(2, "'e'");
        Check.same("two cycles", later.x().play(1920), 10);
        String both = "1@0,0+1/4:c 2@0,0+1:e 0@0,1/3+1/3:a 0@0,2/3+1/3:b 1@0,3/4+1/4:d";
        Check.same("by begins, then by tracks", later.heard(10), both + " " + both.replace("@0", "@1"));
    }

    private static void swapping() {
        Check all = new Check().on(0, "'a'");
        all.x().play(480);
        all.on(0, "'b b'").on(1, "'c'");
        Check.same("two wait", all.x().about(4), 2);
        Check.same("one has a pattern", all.x().about(3), 1);
        all.on(0, "'d d d'");
        Check.same("told again", all.x().about(4), 2);
        all.x().hush(1);
        Check.same("hushed again", all.x().about(4), 2);
        Check.same("the former plays", all.x().play(479), 0);
        Check.same("swapped where a cycle begins", all.x().play(10), 1);
        Check.same("heard", all.heard(1), "0@1,0+1/3:d");
        Check.same("none waits", all.x().about(4), 0);
        Check.same("hush waits, too", all.x().hush(0), true);
        Check.same("one waits", all.x().about(4), 1);
        Check.same("it has one still", all.x().about(3), 1);
        Check.same("up to the end", all.x().play(951), 2);
        Check.same("at the end of this", all.x().about(4), 0);
        Check.same("gone", all.x().about(3), 0);
        all.on(0, "'e'");
        Check.same("at once", all.x().about(3), 1);
        all.x().play(1);
        all.on(0, "'<f g>'");
        Check.same("each cycle by what tracks have then", all.x().play(3000), 3);
        Check.same("heard", all.heard(3), "0@3,0+1:g 0@4,0+1:f 0@5,0+1:g");
        Check.same("a fault lets nothing wait", all.hang(0, "'"), 1);
        Check.same("none waits", all.x().about(4), 0);
    }

    private static void theEndOfTime() {
        Check all = new Check().on(0, "'a'");
        Check.same("jump", all.x().jump(99999), true);
        Check.same("too far", all.x().play(961), -1);
        Check.same("nothing happens", all.x().about(1), 0);
        Check.same("up to there", all.x().play(960), 1);
        Check.same("100000", all.x().about(0), 100000);
        Check.same("no further", all.x().play(1), -1);
        Check.same("what was heard stays", all.heard(1), "0@99999,0+1:a");
    }

    private static void hearing() {
        Check all = new Check().on(5, "'ab' # '-7' & 'late'");
        Check.same("play", all.x().play(1), 2);
        Check.same("heard", all.heard(2), "5@0,0+1:ab#-7 5@0,0+1:late");
        Check.same("k 2", all.x().heard(2, 0), -1);
        Check.same("k -1", all.x().heard(-1, 0), -1);
        Check.same("what 8", all.x().heard(0, 8), -1);
        Check.same("what -1", all.x().heard(0, -1), -1);
        Check.same("no number", all.x().heard(1, 6), 0);
        Check.same("letter 0", all.x().heardLetter(0, 0), 'a');
        Check.same("letter 2", all.x().heardLetter(0, 2), -1);
        Check.same("letter -1", all.x().heardLetter(0, -1), -1);
        Check.same("letter of none", all.x().heardLetter(2, 0), -1);
        Check.same("letter of none", all.x().heardLetter(-1, 0), -1);
        Check.same("a play of none", all.x().play(0), -1);
        Check.same("stays", all.x().heardLetter(1, 3), 'e');
        Check.same("a silent one", all.x().play(5), 0);
        Check.same("none heard", all.x().heard(0, 0), -1);
        all.x().jump(0);
        all.x().hush(5);
        all.on(5, "late 1:7 'a'");
        Check.same("it begins between two 960ths", all.x().play(137), 0);
        Check.same("the next one has it", all.x().play(1), 1);
        Check.same("its begin", all.heard(1), "5@0,1/7+1:a");
        Check.same("no other", all.x().play(822), 0);
    }

    private static void manyHeard() {
        Check all = new Check().on(6, "'[a*20]*20'").on(3, "'[b*20]*19'").on(7, "'c'");
        Check.same("all of them", all.x().play(1920), 2 * (400 + 380 + 1));
        Check.same("the first", all.x().heard(0, 0), 3);
        Check.same("the second", all.x().heard(1, 0), 6);
        Check.same("the third", all.x().heard(2, 0), 7);
        Check.same("the last one kept", all.x().heard(399, 0), 6);
        Check.same("its begin", all.x().heard(399, 2), 51);
        Check.same("its begin", all.x().heard(399, 3), 100);
        Check.same("400", all.x().heard(400, 0), -1);
        Check.same("no letter", all.x().heardLetter(400, 0), -1);
        Check.same("a letter", all.x().heardLetter(399, 0), 'a');
        Check.same("in all", all.x().about(5), 1562);
    }

    private static void jumping() {
        Check all = new Check().on(0, "'<a b c>'");
        Check.same("below 0", all.x().jump(-1), false);
        Check.same("too far", all.x().jump(100000), false);
        all.x().play(100);
        all.on(1, "'d'");
        Check.same("a wrong one lets things wait", all.x().jump(-5), false);
        Check.same("one waits", all.x().about(4), 1);
        Check.same("jump", all.x().jump(7), true);
        Check.same("none waits", all.x().about(4), 0);
        Check.same("cycle", all.x().about(0), 7);
        Check.same("960ths", all.x().about(1), 0);
        Check.same("play", all.x().play(960), 2);
        Check.same("heard", all.heard(2), "0@7,0+1:b 1@7,0+1:d");
        Check.same("back", all.x().jump(0), true);
        Check.same("heard stays", all.x().heard(1, 1), 7);
    }

    private static void mutingAndSolo() {
        Check all = new Check().on(0, "'a'").on(1, "'b'").on(2, "'c'");
        Check.same("no such track", all.x().mute(8, true), false);
        Check.same("no such track", all.x().mute(-1, true), false);
        Check.same("no such track", all.x().solo(8, true), false);
        Check.same("no such track", all.x().solo(-1, true), false);
        Check.same("mute", all.x().mute(0, true), false);
        Check.same("mute again", all.x().mute(0, true), true);
        Check.same("two", all.x().play(960), 2);
        Check.same("b and c", all.heard(2), "1@0,0+1:b 2@0,0+1:c");
        Check.same("solo", all.x().solo(2, true), false);
        Check.same("solo again", all.x().solo(2, true), true);
        Check.same("one", all.x().play(960), 1);
        Check.same("c", all.heard(1), "2@1,0+1:c");
        Check.same("two solo", all.x().solo(0, true), false);
        Check.same("one of them muted", all.x().play(960), 1);
        Check.same("not muted any more", all.x().mute(0, false), true);
        Check.same("was not", all.x().mute(0, false), false);
        Check.same("two", all.x().play(960), 2);
        Check.same("a and c", all.heard(2), "0@3,0+1:a 2@3,0+1:c");
        Check.same("not solo", all.x().solo(0, false), true);
        Check.same("not solo", all.x().solo(2, false), true);
        Check.same("was not", all.x().solo(2, false), false);
        Check.same("all", all.x().play(960), 3);
        all.x().solo(7, true);
        Check.same("a solo track without a pattern", all.x().play(960), 0);
        Check.same("asking hears muted ones, too", all.x().ask(0, 0), 1);
    }

    private static void seeds() {
        Check all = new Check().on(0, "'a*8' & '~'").on(1, "drop 500 'a*16'");
        all.x().seed(99);
        int asked = all.x().ask(1, 0);
        all.x().mute(0, true);
        Check.same("play draws as ask does", all.x().play(960), asked);
        String with99 = all.heard(asked);
        all.x().seed(Integer.MIN_VALUE);
        all.x().jump(0);
        String other = all.heard(all.x().play(960));
        Check.same("another seed, other draws", other.equals(with99), false);
        all.x().seed(99);
        all.x().jump(0);
        Check.same("the same seed, the same draws", all.heard(all.x().play(960)), with99);
    }

    private static void about() {
        Check all = new Check().with("a = 'x'\nb c = c").on(0, "a").on(4, "b a");
        all.x().play(1000);
        all.x().hush(3);
        all.tape("abc");
        int[] due = {1, 40, 2, 2, 1, 4, 3};
        for (int what = 0; what < due.length; what++) {
            Check.same("about " + what, all.x().about(what), due[what]);
        }
        Check.same("about 7", all.x().about(7), -1);
        Check.same("about -1", all.x().about(-1), -1);
    }
}
