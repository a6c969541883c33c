/** A studio under test, and what the tests ask of it. In tapes ' stands for ", which Java would want escaped. */
final class Check {
    private static int wrong = 0;
    private static int done = 0;

    private static final int MOST_CALLS = 512;

    private final CycleStudio studio = new CycleStudio();
    private int calls = 0;

    /** The studio, for one call; the document promises nothing of an object behind its 512th. */
    CycleStudio x() {
        calls++;
        if (calls == MOST_CALLS + 1) {
            wrong++;
            new Throwable("more than 512 calls of one object").printStackTrace(System.out);
        }
        return studio;
    }

    static void same(String what, long got, long due) {
        done++;
        if (got != due) {
            wrong++;
            System.out.println(what + " answered " + got + ", due is " + due);
        }
    }

    static void same(String what, boolean got, boolean due) {
        same(what, got ? 1 : 0, due ? 1 : 0);
    }

    static void same(String what, String got, String due) {
        done++;
        if (!got.equals(due)) {
            wrong++;
            System.out.println(what + "\n  answered " + got + "\n  due is   " + due);
        }
    }

    static void finish(String name) {
        System.out.println(name + ": " + (done - wrong) + " of " + done + " answers are as due");
        if (wrong != 0) {
            System.exit(1);
        }
    }

    /** Lets the tape hold a text, whatever it held before. */
    Check tape(String text) {
        return plainTape(text.replace('\'', '"'));
    }

    /** Lets the tape hold these very bytes, ' among them. */
    Check plainTape(String plain) {
        x().end(0);
        for (int from = 0; from < plain.length(); from += 20) {
            int[] four = new int[5];
            for (int i = 0; i < 20; i++) {
                int b = from + i < plain.length() ? plain.charAt(from + i) : 0;
                four[i / 4] |= b << (24 - 8 * (i % 4));
            }
            same("feed of " + plain, x().feed(four[0], four[1], four[2], four[3], four[4]), true);
        }
        same("end of " + plain, x().end(plain.length()), true);
        return this;
    }

    int hang(int track, String text) {
        return tape(text).x().hang(track);
    }

    int read(String text) {
        return tape(text).x().read();
    }

    /** Hangs what must have no fault. */
    Check on(int track, String text) {
        same("hang of " + text, hang(track, text), 0);
        return this;
    }

    /** Reads what must have no fault. */
    Check with(String text) {
        same("read of " + text, read(text), 0);
        return this;
    }

    private static String fraction(int upper, int lower) {
        return lower == 1 ? "" + upper : upper + "/" + lower;
    }

    /** The row of a cycle. */
    String row(int track, int c) {
        return events(0, x().ask(track, c));
    }

    /** Of what was asked: of each event its begin + its length : its word # its number. */
    String events(int from, int to) {
        StringBuilder all = new StringBuilder();
        for (int k = from; k < to; k++) {
            all.append(k == from ? "" : " ");
            all.append(fraction(x().event(k, 0), x().event(k, 1))).append('+');
            all.append(fraction(x().event(k, 2), x().event(k, 3))).append(':');
            int letters = x().event(k, 6);
            for (int i = 0; i < letters; i++) {
                all.append((char) x().letter(k, i));
            }
            all.append(x().event(k, 5) == 1 ? "#" + x().event(k, 4) : "");
        }
        return all.toString();
    }

    /** What was heard: of each event its track @ its cycle , its begin + its length : its word # its number (if not 0). */
    String heard(int many) {
        StringBuilder all = new StringBuilder();
        for (int k = 0; k < many; k++) {
            all.append(k == 0 ? "" : " ");
            all.append(x().heard(k, 0)).append('@').append(x().heard(k, 1)).append(',');
            all.append(fraction(x().heard(k, 2), x().heard(k, 3))).append('+');
            all.append(fraction(x().heard(k, 4), x().heard(k, 5))).append(':');
            int letters = x().heard(k, 7);
            for (int i = 0; i < letters; i++) {
                all.append((char) x().heardLetter(k, i));
            }
            all.append(x().heard(k, 6) != 0 ? "#" + x().heard(k, 6) : "");
        }
        return all.toString();
    }

    String bounds(int track) {
        return x().bound(track, 0) + " " + x().bound(track, 1) + " " + x().bound(track, 2) + " " + x().bound(track, 3) + " "
                + x().bound(track, 4);
    }

    String told() {
        return x().told(0) + " " + x().told(1) + " " + x().told(2);
    }

    /** Hangs a text whose fault is where ^ stands in it. */
    void hangFault(String marked, int fault, int counted) {
        String text = marked.replace("^", "");
        same("hang of " + marked, hang(7, text), fault);
        same("told of " + marked, told(), fault + " " + marked.indexOf('^') + " " + counted);
        same("tape behind " + marked, x().about(6), 0);
    }

    /** Reads a text whose fault is where ^ stands in it. */
    void readFault(String marked, int fault, int counted) {
        int before = x().about(2);
        String text = marked.replace("^", "");
        same("read of " + marked, read(text), fault);
        same("told of " + marked, told(), fault + " " + marked.indexOf('^') + " " + counted);
        same("definitions behind " + marked, x().about(2), before);
        same("tape behind " + marked, x().about(6), 0);
    }

    static String times(int n, String text) {
        StringBuilder all = new StringBuilder();
        for (int i = 0; i < n; i++) {
            all.append(text);
        }
        return all.toString();
    }
}
