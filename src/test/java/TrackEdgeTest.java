/** The edges of TRACKS, NOW, SOUNDING and of promises 4 to 19: refused calls, ends of ranges, what waits, what is kept. */
final class TrackEdgeTest {
    private static final int[] NO_TRACKS = {-1, 8, 9, -8, 100, Integer.MIN_VALUE, Integer.MAX_VALUE};

    public static void main(String[] args) {
        everyTrack();
        noSuchTrack();
        theTapeIsEmptyThen();
        telling();
        bounds();
        cyclesToAsk();
        eventsAsked();
        lettersAsked();
        ticksToPlay();
        fromNowUpToThere();
        betweenTicks();
        theOrderOfWhatIsHeard();
        fourHundredAreKept();
        whatWasHeard();
        lettersHeard();
        theEndOfTime();
        cyclesToJumpTo();
        whatWaits();
        toldAgainUntilThen();
        whereACycleBegins();
        swapsWithinAPlay();
        jumpsAndWhatWaits();
        mutedAndSolo();
        soundingFromNowOn();
        seeds();
        about();
        fiveHundredAndTwelveCalls();
        Check.finish("TrackEdgeTest");
    }

    private static void everyTrack() {
        Check all = new Check();
        for (int t = 0; t < 8; t++) {
            all.on(t, "'" + t + "'");
            Check.same("tracks with a pattern", all.x().about(3), t + 1);
        }
        for (int t = 0; t < 8; t++) {
            Check.same("its own pattern", all.row(t, 0), "0+1:#" + t);
            Check.same("its own bounds", all.x().bound(t, 3), 2);
        }
        Check.same("all of them", all.x().play(960), 8);
        for (int t = 0; t < 8; t++) {
            Check.same("by tracks", all.x().heard(t, 0), t);
            Check.same("its own event", all.x().heard(t, 6), t);
        }
        for (int t = 7; t >= 0; t--) {
            Check.same("hush", all.x().hush(t), true);
            Check.same("tracks with a pattern", all.x().about(3), t);
            Check.same("none to ask", all.x().ask(t, 0), -1);
            Check.same("none to bound", all.x().bound(t, 0), -1);
        }
        Check.same("hush of none", all.x().hush(7), true);
    }

    private static void noSuchTrack() {
        for (int t : NO_TRACKS) {
            Check all = new Check().with("d = 'x y z'").on(0, "'ab 5'");
            all.x().ask(0, 0);
            all.hang(0, "'[a*20]*21'");
            String told = all.told();
            all.tape("'c'");
            Check.same("hang(" + t + ")", all.x().hang(t), -1);
            Check.same("the tape stays", all.x().about(6), 3);
            Check.same("told stays", all.told(), told);
            Check.same("hush(" + t + ")", all.x().hush(t), false);
            Check.same("bound(" + t + ")", all.x().bound(t, 0), -1);
            Check.same("ask(" + t + ")", all.x().ask(t, 0), -1);
            Check.same("what was ASKED stays", all.events(0, 2), "0+1/2:ab 1/2+1/2:#5");
            Check.same("mute(" + t + ")", all.x().mute(t, true), false);
            Check.same("mute(" + t + ") again", all.x().mute(t, true), false);
            Check.same("solo(" + t + ")", all.x().solo(t, true), false);
            Check.same("solo(" + t + ") again", all.x().solo(t, true), false);
            Check.same("one track", all.x().about(3), 1);
            Check.same("nothing waits", all.x().about(4), 0);
            Check.same("it sounds", all.x().play(960), 2);
        }
    }

    private static void theTapeIsEmptyThen() {
        Check all = new Check();
        Check.same("read", all.read("a = 'x'"), 0);
        Check.same("empty", all.x().about(6), 0);
        Check.same("read with a fault", all.read("a = x"), 2);
        Check.same("empty", all.x().about(6), 0);
        Check.same("hang", all.hang(0, "a"), 0);
        Check.same("empty", all.x().about(6), 0);
        Check.same("hang with a fault", all.hang(0, "a a"), 1);
        Check.same("empty", all.x().about(6), 0);
        Check.same("hang again", all.x().hang(0), 1);
        Check.same("of an empty tape", all.told(), "1 0 0");
        Check.same("read again", all.x().read(), 0);
        Check.same("of an empty tape", all.told(), "0 -1 0");
        Check.same("one definition", all.x().about(2), 1);
        Check.same("the pattern stays", all.row(0, 0), "0+1:x");
    }

    private static void telling() {
        CycleStudio fresh = new CycleStudio();
        fresh.hang(8);
        fresh.hang(-1);
        for (int what = -1; what <= 3; what++) {
            Check.same("told(" + what + ") ahead of any that read", fresh.told(what), -1);
        }
        fresh.read();
        Check.same("0 without a FAULT", fresh.told(0), 0);
        Check.same("no place", fresh.told(1), -1);
        Check.same("none COUNTED", fresh.told(2), 0);
        Check all = new Check();
        all.hang(0, "'a b' & '[a*20]*21'");
        Check.same("FAULT, place, COUNTED", all.told(), "7 15 6");
        for (int what : new int[] {-1, 3, 4, Integer.MIN_VALUE, Integer.MAX_VALUE}) {
            Check.same("told(" + what + ")", all.x().told(what), -1);
        }
        all.x().hush(0);
        all.x().play(1);
        all.x().jump(0);
        Check.same("it stays so", all.told(), "7 15 6");
        all.on(0, "'a'");
        Check.same("until the next", all.told(), "0 -1 2");
        all.hang(0, "^");
        Check.same("a place of 0", all.told(), "1 0 0");
    }

    private static void bounds() {
        Check all = new Check().on(0, "slow 3 'a b'");
        int[] due = {2, 4, 3, 7, 3};
        for (int what = 0; what < 5; what++) {
            Check.same("bound(0, " + what + ")", all.x().bound(0, what), due[what]);
            Check.same("of a track without one", all.x().bound(1, what), -1);
        }
        for (int what : new int[] {-1, 5, 6, Integer.MIN_VALUE, Integer.MAX_VALUE}) {
            Check.same("bound(0, " + what + ")", all.x().bound(0, what), -1);
        }
        all.x().play(1);
        all.on(1, "'a'");
        Check.same("what waits is not what it has now", all.x().bound(1, 0), -1);
        all.x().hush(0);
        Check.same("nor is it gone", all.x().bound(0, 0), 2);
        all.x().play(959);
        Check.same("now it has it", all.x().bound(1, 0), 1);
        Check.same("now it is gone", all.x().bound(0, 0), -1);
    }

    private static void cyclesToAsk() {
        Check all = new Check().on(0, "'<a b c>'").on(1, "'~'");
        Check.same("-1000", all.row(0, -1000), "0+1:c");
        for (int c : new int[] {-1001, -1002, -100000, 100001, 100002, Integer.MIN_VALUE, Integer.MAX_VALUE}) {
            Check.same("ask(0, " + c + ")", all.x().ask(0, c), -1);
            Check.same("what was ASKED stays", all.events(0, 1), "0+1:c");
        }
        Check.same("-999", all.row(0, -999), "0+1:a");
        Check.same("99999", all.row(0, 99999), "0+1:a");
        Check.same("100000", all.row(0, 100000), "0+1:b");
        Check.same("a track without one", all.x().ask(2, 0), -1);
        Check.same("what was ASKED stays", all.events(0, 1), "0+1:b");
        Check.same("a ROW of none", all.x().ask(1, 0), 0);
        Check.same("is ASKED", all.x().event(0, 0), -1);
        Check.same("none of its letters", all.x().letter(0, 0), -1);
    }

    private static void eventsAsked() {
        Check all = new Check().on(0, "'[a 7@3] bcd@2 ~' & late 3:2 ('e' # '-9')");
        Check.same("four", all.x().ask(0, 4), 4);
        int[][] due = {{0, 1, 1, 16, 0, 0, 1}, {1, 16, 3, 16, 7, 1, 0}, {1, 4, 1, 2, 0, 0, 3}, {1, 2, 1, 1, -9, 1, 1}};
        for (int k = 0; k < 4; k++) {
            for (int what = 0; what < 7; what++) {
                Check.same("event(" + k + ", " + what + ")", all.x().event(k, what), due[k][what]);
            }
        }
        for (int wrong : new int[] {-1, 4, 5, 400, Integer.MIN_VALUE, Integer.MAX_VALUE}) {
            for (int what = 0; what < 7; what++) {
                Check.same("event(" + wrong + ", " + what + ")", all.x().event(wrong, what), -1);
            }
        }
        for (int wrong : new int[] {-1, 7, 8, Integer.MIN_VALUE, Integer.MAX_VALUE}) {
            Check.same("event(0, " + wrong + ")", all.x().event(0, wrong), -1);
            Check.same("event(3, " + wrong + ")", all.x().event(3, wrong), -1);
        }
        all.on(0, "slow 64 'a'");
        all.x().ask(0, -64);
        Check.same("a whole length", all.x().event(0, 2), 64);
        Check.same("by 1", all.x().event(0, 3), 1);
        all.x().hush(0);
        Check.same("what was ASKED stays when the track is hushed", all.x().event(0, 2), 64);
        all.x().play(960);
        all.x().jump(7);
        Check.same("and when time goes on", all.x().event(0, 2), 64);
    }

    private static void lettersAsked() {
        Check all = new Check().on(0, "'abcdefgh z 5' & '~'");
        Check.same("three", all.x().ask(0, 0), 3);
        for (int i = 0; i < 8; i++) {
            Check.same("letter " + i, all.x().letter(0, i), "abcdefgh".charAt(i));
        }
        for (int wrong : new int[] {-1, 8, 9, 64, Integer.MIN_VALUE, Integer.MAX_VALUE}) {
            Check.same("letter(0, " + wrong + ")", all.x().letter(0, wrong), -1);
        }
        Check.same("letter(1, 0)", all.x().letter(1, 0), 'z');
        Check.same("letter(1, 1)", all.x().letter(1, 1), -1);
        Check.same("a NUMBER has none", all.x().letter(2, 0), -1);
        for (int wrong : new int[] {-1, 3, 400, Integer.MIN_VALUE, Integer.MAX_VALUE}) {
            Check.same("letter(" + wrong + ", 0)", all.x().letter(wrong, 0), -1);
        }
    }

    private static void ticksToPlay() {
        Check all = new Check().on(0, "'a b c'");
        Check.same("1", all.x().play(1), 1);
        for (int n : new int[] {0, -1, -960, 3841, 3842, Integer.MIN_VALUE, Integer.MAX_VALUE}) {
            Check.same("play(" + n + ")", all.x().play(n), -1);
            Check.same("NOW stays", all.x().about(0) * 960 + all.x().about(1), 1);
            Check.same("what was HEARD stays", all.heard(1), "0@0,0+1/3:a");
            Check.same("in all", all.x().about(5), 1);
        }
        Check.same("3840", all.x().play(3840), 12);
        Check.same("NOW", all.x().about(0), 4);
        Check.same("NOW", all.x().about(1), 1);
        Check.same("3839", all.x().play(3839), 11);
        Check.same("NOW", all.x().about(0), 8);
        Check.same("NOW", all.x().about(1), 0);
        Check.same("in all", all.x().about(5), 24);
    }

    private static void fromNowUpToThere() {
        Check all = new Check().on(0, "'a b c d'");
        Check.same("the one of NOW is heard", all.x().play(240), 1);
        Check.same("the one of there is not", all.heard(1), "0@0,0+1/4:a");
        Check.same("it is the next's", all.x().play(1), 1);
        Check.same("b", all.heard(1), "0@0,1/4+1/4:b");
        Check.same("none", all.x().play(239), 0);
        Check.same("nothing HEARD", all.x().heard(0, 0), -1);
        Check.same("c, but not d", all.x().play(240), 1);
        Check.same("c", all.heard(1), "0@0,1/2+1/4:c");
        Check.same("d, and the next cycle's", all.x().play(241), 2);
        Check.same("d a", all.heard(2), "0@0,3/4+1/4:d 0@1,0+1/4:a");
        Check.same("up to a cycle's end", all.x().play(959), 3);
        Check.same("NOW", all.x().about(0) * 960 + all.x().about(1), 1920);
        Check first = new Check().on(0, "'~ a'");
        Check.same("a tick ahead", first.x().play(479), 0);
        Check.same("up to it", first.x().play(1), 0);
        Check.same("from it on", first.x().play(1), 1);
        Check.same("no more", first.x().play(479), 0);
    }

    /** Times that are no 960ths: they are heard by the tick that goes beyond them. */
    private static void betweenTicks() {
        Check all = new Check().on(0, "late 1:7 'a'");
        Check.same("137 of 137.14", all.x().play(137), 0);
        Check.same("138", all.x().play(1), 1);
        Check.same("its BEGIN", all.heard(1), "0@0,1/7+1:a");
        Check.same("once", all.x().play(959), 0);
        Check.same("and again", all.x().play(1), 1);
        Check fine = new Check().on(0, "late 63:64 '<a b>'");
        Check.same("945", fine.x().play(945), 0);
        Check.same("945 is 63 / 64", fine.x().play(1), 1);
        Check.same("its BEGIN", fine.heard(1), "0@0,63/64+1:a");
        Check last = new Check().on(0, "squeeze 63:64 1 (squeeze 63:64 1 'a')");
        Check.same("the last part of a cycle", last.x().play(959), 0);
        Check.same("is in its last tick", last.x().play(1), 1);
        Check.same("its BEGIN", last.heard(1), "0@0,4095/4096+1/4096:a");
        Check.same("not in the next", last.x().play(959), 0);
    }

    private static void theOrderOfWhatIsHeard() {
        Check all = new Check().on(5, "'a b'").on(2, "'[1,2] 3'").on(7, "'~ c d'").on(0, "late 1:2 'e'");
        Check.same("eight", all.x().play(960), 8);
        String due = "2@0,0+1/2:#1 2@0,0+1/2:#2 5@0,0+1/2:a 7@0,1/3+1/3:c 0@0,1/2+1:e 2@0,1/2+1/2:#3 5@0,1/2+1/2:b 7@0,2/3+1/3:d";
        Check.same("by BEGIN, tracks, ORDER", all.heard(8), due);
        Check.same("two cycles", all.x().play(1920), 16);
        Check.same("one behind the other", all.heard(16), due.replace("@0", "@1") + " " + due.replace("@0", "@2"));
    }

    private static void fourHundredAreKept() {
        Check all = new Check().on(0, "'[a*20]*20'");
        Check.same("400", all.x().play(960), 400);
        Check.same("the last is kept", all.x().heard(399, 2) * 1000 + all.x().heard(399, 3), 399400);
        Check.same("its letter", all.x().heardLetter(399, 0), 'a');
        Check.same("no more", all.x().heard(400, 0), -1);
        Check.same("401", all.x().play(962), 401);
        Check.same("the 400th is kept", all.x().heard(399, 1), 1);
        Check.same("the 401st is not", all.x().heard(400, 1), -1);
        Check.same("nor its letter", all.x().heardLetter(400, 0), -1);
        Check.same("all of them count", all.x().about(5), 801);
        all.x().jump(0);
        all.on(1, "'b'").on(7, "'[c*20]*20'");
        Check.same("801 in a cycle", all.x().play(960), 801);
        Check.same("a", all.x().heard(0, 0), 0);
        Check.same("b", all.x().heard(1, 0), 1);
        Check.same("c", all.x().heard(2, 0), 7);
        Check.same("the 400th", all.x().heard(399, 0), 0);
        Check.same("its BEGIN", all.x().heard(399, 2) + "/" + all.x().heard(399, 3), "199/400");
        Check.same("no more", all.x().heard(400, 0), -1);
        Check.same("3204 in four", all.x().play(3840), 3204);
        Check.same("the first 400", all.x().heard(399, 1), 1);
        Check.same("in all", all.x().about(5), 801 + 801 + 3204);
        all.x().hush(0);
        all.x().hush(7);
        Check.same("one alone", all.x().play(960), 1);
        Check.same("is kept alone", all.x().heard(1, 0), -1);
    }

    private static void whatWasHeard() {
        Check all = new Check().on(3, "'[~ abc]@3 7' & late 1:6 ('e' # '-9')");
        Check.same("heard", all.heard(all.x().play(960)), "3@0,1/6+1:e#-9 3@0,3/8+3/8:abc 3@0,3/4+1/4:#7");
        int[][] due = {{3, 0, 1, 6, 1, 1, -9, 1}, {3, 0, 3, 8, 3, 8, 0, 3}, {3, 0, 3, 4, 1, 4, 7, 0}};
        for (int k = 0; k < 3; k++) {
            for (int what = 0; what < 8; what++) {
                Check.same("heard(" + k + ", " + what + ")", all.x().heard(k, what), due[k][what]);
            }
        }
        for (int wrong : new int[] {-1, 3, 4, 400, Integer.MIN_VALUE, Integer.MAX_VALUE}) {
            for (int what = 0; what < 8; what++) {
                Check.same("heard(" + wrong + ", " + what + ")", all.x().heard(wrong, what), -1);
            }
        }
        for (int wrong : new int[] {-1, 8, 9, Integer.MIN_VALUE, Integer.MAX_VALUE}) {
            Check.same("heard(0, " + wrong + ")", all.x().heard(0, wrong), -1);
        }
        all.x().jump(50);
        all.x().hush(3);
        Check.same("it stays until the next play", all.x().heard(2, 6), 7);
        Check.same("a play of none", all.x().play(1), 0);
        Check.same("nothing was HEARD", all.x().heard(0, 0), -1);
    }

    private static void lettersHeard() {
        Check all = new Check().on(0, "'abcdefgh z 5'");
        Check.same("three", all.x().play(960), 3);
        for (int i = 0; i < 8; i++) {
            Check.same("letter " + i, all.x().heardLetter(0, i), "abcdefgh".charAt(i));
        }
        for (int wrong : new int[] {-1, 8, 9, 64, Integer.MIN_VALUE, Integer.MAX_VALUE}) {
            Check.same("heardLetter(0, " + wrong + ")", all.x().heardLetter(0, wrong), -1);
        }
        Check.same("heardLetter(1, 0)", all.x().heardLetter(1, 0), 'z');
        Check.same("heardLetter(1, 1)", all.x().heardLetter(1, 1), -1);
        Check.same("a NUMBER has none", all.x().heardLetter(2, 0), -1);
        for (int wrong : new int[] {-1, 3, 400, Integer.MIN_VALUE, Integer.MAX_VALUE}) {
            Check.same("heardLetter(" + wrong + ", 0)", all.x().heardLetter(wrong, 0), -1);
        }
    }

    private static void theEndOfTime() {
        Check all = new Check().on(0, "'a b'");
        Check.same("jump", all.x().jump(99999), true);
        Check.same("961", all.x().play(961), -1);
        Check.same("3840", all.x().play(3840), -1);
        Check.same("NOW stays", all.x().about(1), 0);
        Check.same("a half", all.x().play(480), 1);
        Check.same("481", all.x().play(481), -1);
        Check.same("what was HEARD stays", all.heard(1), "0@99999,0+1/2:a");
        all.on(1, "'c'");
        Check.same("one waits", all.x().about(4), 1);
        Check.same("480", all.x().play(480), 1);
        Check.same("NOW is 100000", all.x().about(0), 100000);
        Check.same("and no more", all.x().about(1), 0);
        Check.same("none waits", all.x().about(4), 0);
        Check.same("no further", all.x().play(1), -1);
        Check.same("a cycle begins there", all.on(2, "'d'").x().about(3), 3);
        Check.same("in all", all.x().about(5), 2);
        all.x().jump(99996);
        Check.same("four cycles", all.x().play(3840), 16);
        Check.same("NOW is 100000", all.x().about(0), 100000);
        all.x().jump(99996);
        all.x().play(1);
        Check.same("a tick too many", all.x().play(3840), -1);
        Check.same("one less", all.x().play(3839), 13);
        Check.same("back again", all.x().jump(0), true);
        Check.same("and on", all.x().play(960), 4);
    }

    private static void cyclesToJumpTo() {
        Check all = new Check().on(0, "'<a b c>'");
        all.x().play(100);
        all.on(1, "'d'");
        for (int c : new int[] {-1, -1000, 100000, 100001, Integer.MIN_VALUE, Integer.MAX_VALUE}) {
            Check.same("jump(" + c + ")", all.x().jump(c), false);
            Check.same("NOW stays", all.x().about(0) * 960 + all.x().about(1), 100);
            Check.same("what waits stays", all.x().about(4), 1);
        }
        Check.same("jump(0)", all.x().jump(0), true);
        Check.same("NOW", all.x().about(0) * 960 + all.x().about(1), 0);
        Check.same("none waits", all.x().about(4), 0);
        Check.same("jump(99999)", all.x().jump(99999), true);
        Check.same("NOW", all.x().about(0), 99999);
        Check.same("two", all.x().play(960), 2);
        Check.same("those of its cycle", all.heard(2), "0@99999,0+1:a 1@99999,0+1:d");
        Check.same("jump(1)", all.x().jump(1), true);
        Check.same("it plays from there", all.heard(all.x().play(1)), "0@1,0+1:b 1@1,0+1:d");
    }

    private static void whatWaits() {
        for (int tick : new int[] {1, 2, 480, 958, 959}) {
            Check all = new Check().on(0, "'a'").on(1, "'b'");
            all.x().play(tick);
            all.on(0, "'c'").on(2, "'d'");
            all.x().hush(1);
            all.x().hush(3);
            Check.same("four wait at " + tick, all.x().about(4), 4);
            Check.same("two have a pattern", all.x().about(3), 2);
            Check.same("the one it has now", all.row(0, 0), "0+1:a");
            Check.same("the one it has now", all.row(1, 0), "0+1:b");
            Check.same("none yet", all.x().ask(2, 0), -1);
            if (tick < 959) {
                Check.same("up to the last tick", all.x().play(959 - tick), 0);
                Check.same("they wait still", all.x().about(4), 4);
            }
            Check.same("the cycle's last tick", all.x().play(1), 0);
            Check.same("it is so at the end of this", all.x().about(4), 0);
            Check.same("two have a pattern", all.x().about(3), 2);
            Check.same("the next", all.row(0, 0), "0+1:c");
            Check.same("gone", all.x().ask(1, 0), -1);
            Check.same("here", all.row(2, 0), "0+1:d");
            Check.same("heard", all.heard(all.x().play(1)), "0@1,0+1:c 2@1,0+1:d");
        }
    }

    private static void toldAgainUntilThen() {
        Check all = new Check().on(0, "'a'");
        all.x().play(1);
        all.on(0, "'b'").on(0, "'c'");
        Check.same("one track waits", all.x().about(4), 1);
        all.x().hush(0);
        Check.same("one track waits", all.x().about(4), 1);
        all.on(0, "'d'").on(1, "'e'");
        Check.same("two tracks wait", all.x().about(4), 2);
        all.x().hush(1);
        Check.same("two tracks wait", all.x().about(4), 2);
        Check.same("a fault is not told of it", all.hang(0, "'"), 1);
        Check.same("two tracks wait", all.x().about(4), 2);
        all.x().play(959);
        Check.same("the latest", all.row(0, 0), "0+1:d");
        Check.same("none", all.x().ask(1, 0), -1);
        Check.same("none waits", all.x().about(4), 0);
        all.x().play(1);
        all.x().hush(0);
        all.on(0, "'f'");
        all.x().play(959);
        Check.same("hung behind hushed", all.row(0, 0), "0+1:f");
    }

    private static void whereACycleBegins() {
        Check all = new Check().on(0, "'a'");
        Check.same("at once at 0", all.x().about(3), 1);
        Check.same("nothing waits", all.x().about(4), 0);
        all.on(0, "'b'");
        Check.same("in its place", all.row(0, 0), "0+1:b");
        all.x().play(960);
        all.on(1, "'c'");
        Check.same("at once at 1", all.x().about(3), 2);
        all.x().hush(0);
        Check.same("hushed at once", all.x().about(3), 1);
        all.x().play(3840);
        all.x().hush(1);
        Check.same("at once at 5", all.x().about(3), 0);
        all.x().play(1);
        all.x().hush(1);
        Check.same("a hush of none waits, too", all.x().about(4), 1);
        all.x().jump(9);
        all.on(4, "'d'");
        Check.same("at once behind a jump", all.x().about(3), 1);
        Check.same("nothing waits", all.x().about(4), 0);
    }

    private static void swapsWithinAPlay() {
        Check all = new Check().on(0, "'a b'").on(1, "'p'");
        all.x().play(240);
        all.on(0, "'<c d e>'").on(2, "'~ q'");
        all.x().hush(1);
        Check.same("over two cycles' beginnings", all.x().play(1920), 4);
        Check.same("each by what tracks have then", all.heard(4), "0@0,1/2+1/2:b 0@1,0+1:d 2@1,1/2+1/2:q 0@2,0+1:e");
    }

    private static void jumpsAndWhatWaits() {
        Check all = new Check().on(0, "'a'");
        all.x().play(1);
        all.on(0, "'b'").on(1, "'c'");
        Check.same("jump to the same cycle", all.x().jump(0), true);
        Check.same("what waited has become so", all.row(0, 0), "0+1:b");
        Check.same("all of it", all.x().about(3), 2);
        Check.same("none waits", all.x().about(4), 0);
        all.x().play(959);
        all.x().hush(0);
        Check.same("refused", all.x().jump(100000), false);
        Check.same("it waits", all.x().about(4), 1);
        Check.same("jump far", all.x().jump(99999), true);
        Check.same("gone", all.x().about(3), 1);
        Check.same("what was HEARD stays", all.x().heard(0, 1), 0);
        Check.same("in all", all.x().about(5), 3);
    }

    private static String sounding(Check all) {
        StringBuilder tracks = new StringBuilder();
        all.x().jump(0);
        int many = all.x().play(960);
        for (int k = 0; k < many; k++) {
            tracks.append(all.x().heard(k, 0));
        }
        return tracks.toString();
    }

    private static void mutedAndSolo() {
        Check all = new Check();
        for (int t = 0; t < 8; t++) {
            all.on(t, "'a'");
        }
        Check.same("all", sounding(all), "01234567");
        Check.same("mute 0", all.x().mute(0, true), false);
        Check.same("mute 7", all.x().mute(7, true), false);
        Check.same("not those", sounding(all), "123456");
        Check.same("it was", all.x().mute(7, true), true);
        Check.same("solo 7", all.x().solo(7, true), false);
        Check.same("solo 3", all.x().solo(3, true), false);
        Check.same("solo ones that are not muted", sounding(all), "3");
        Check.same("it was", all.x().mute(7, false), true);
        Check.same("both", sounding(all), "37");
        Check.same("it was not", all.x().mute(7, false), false);
        Check.same("not solo any more", all.x().solo(3, false), true);
        Check.same("one", sounding(all), "7");
        Check.same("not solo any more", all.x().solo(7, false), true);
        Check.same("it was not", all.x().solo(7, false), false);
        Check.same("those that are not muted", sounding(all), "1234567");
        Check.same("not muted any more", all.x().mute(0, false), true);
        Check.same("all", sounding(all), "01234567");
        all.x().solo(5, true);
        all.x().mute(5, true);
        all.x().hush(5);
        all.on(5, "'b'");
        Check.same("it stays muted", all.x().mute(5, false), true);
        Check.same("it stays solo", sounding(all), "5");
    }

    private static void soundingFromNowOn() {
        Check all = new Check().on(0, "'a b'").on(1, "'c d'");
        Check.same("both", all.x().play(240), 2);
        all.x().mute(0, true);
        Check.same("at once, within a cycle, too", all.heard(all.x().play(480)), "1@0,1/2+1/2:d");
        all.x().mute(0, false);
        all.x().solo(0, true);
        Check.same("none between", all.x().play(240), 0);
        Check.same("solo", all.heard(all.x().play(960)), "0@1,0+1/2:a 0@1,1/2+1/2:b");
        Check.same("what is heard in all is what sounded", all.x().about(5), 5);
        Check.same("asking goes on", all.x().ask(1, 0), 2);
        all.x().play(1);
        all.on(1, "'e'");
        all.x().play(959);
        Check.same("it is swapped, too", all.row(1, 0), "0+1:e");
        all.x().solo(0, false);
        all.x().hush(0);
        Check.same("and heard again", all.heard(all.x().play(960)), "1@3,0+1:e");
    }

    private static void seeds() {
        int[] numbers = {0, 1, -1, Integer.MAX_VALUE, Integer.MIN_VALUE};
        String[] rows = new String[numbers.length];
        Check all = new Check().on(0, "drop 500 'a*6'");
        for (int i = 0; i < numbers.length; i++) {
            all.x().seed(numbers[i]);
            rows[i] = all.row(0, 11);
            for (int k = 0; k < i; k++) {
                Check.same("another seed", rows[i].equals(rows[k]), false);
            }
        }
        all.x().seed(0);
        Check.same("from now on", all.row(0, 11), rows[0]);
    }

    private static void about() {
        Check all = new Check().with("a = 'x'\nb c = c\na = 'y'").on(0, "a").on(4, "b a");
        all.x().play(3840);
        all.x().play(959);
        all.x().hush(3);
        all.on(4, "'z'");
        all.tape("abc");
        int[] due = {4, 959, 2, 2, 2, 10, 3};
        for (int what = 0; what < due.length; what++) {
            Check.same("about(" + what + ")", all.x().about(what), due[what]);
        }
        for (int what : new int[] {-1, 7, 8, Integer.MIN_VALUE, Integer.MAX_VALUE}) {
            Check.same("about(" + what + ")", all.x().about(what), -1);
        }
        all.x().play(1);
        Check.same("the next cycle", all.x().about(0), 5);
        Check.same("0 .. 959", all.x().about(1), 0);
        Check.same("none waits", all.x().about(4), 0);
        Check.same("the tape stays", all.x().about(6), 3);
    }

    /** The 512th call is as good as the first. */
    private static void fiveHundredAndTwelveCalls() {
        CycleStudio x = new CycleStudio();
        int calls = 0;
        x.feed(0x22612062, 0x20632220, 0x20202020, 0x20202020, 0x20202020);
        Check.same("hang", x.hang(7), 0);
        calls = 2;
        for (; calls < 511; calls++) {
            Check.same("call " + (calls + 1), x.play(3840), 12);
        }
        Check.same("the last call", x.about(5), 509 * 12);
    }
}
