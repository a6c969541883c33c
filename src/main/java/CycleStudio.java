import java.util.ArrayList;
import java.util.Arrays;

/** Cyclic patterns: read from a tape, made within bounds, worked out in exact time, and played on eight tracks. */
public final class CycleStudio {
    public static final int NONE = -1;

    private static final int TAPE_SIZE = 2000;
    private static final int FEED_SIZE = 20;
    private static final int TRACKS = 8;
    private static final int TICKS = 960;
    private static final int MOST_TICKS_A_PLAY = 3840;
    private static final int FIRST_ASKED = -1000;
    private static final int LAST_CYCLE = 100000;
    private static final int MOST_DEFINITIONS = 40;
    private static final int TOO_MANY_DEFINITIONS = 11;

    private final Scanner scanner = new Scanner();
    private final Maker maker = new Maker();
    private final Rows rows = new Rows();
    private final Kept asked = new Kept();
    private final Kept heardOnes = new Kept();
    private final ArrayList<Definition> definitions = new ArrayList<Definition>();
    private final ArrayList<Definition> trial = new ArrayList<Definition>();
    private final Reader reader = new Reader(scanner, trial);
    private final Pattern[] patterns = new Pattern[TRACKS];
    private final Pattern[] coming = new Pattern[TRACKS];
    private final boolean[] waiting = new boolean[TRACKS];
    private final boolean[] muted = new boolean[TRACKS];
    private final boolean[] alone = new boolean[TRACKS];
    private int now = 0;
    private int heardInAll = 0;
    private boolean hasTold = false;
    private int toldFault = 0;
    private int toldPlace = NONE;
    private int toldCounted = 0;

    public CycleStudio() {
    }

    public boolean feed(int a, int b, int c, int d, int e) {
        if (scanner.size + FEED_SIZE > TAPE_SIZE) {
            return false;
        }
        scanner.append(a);
        scanner.append(b);
        scanner.append(c);
        scanner.append(d);
        scanner.append(e);
        return true;
    }

    public boolean end(int n) {
        if (n < 0 || n > scanner.size) {
            return false;
        }
        scanner.size = n;
        return true;
    }

    public int read() {
        startReading();
        boolean goesOn = reader.hasMore();
        for (int line = 0; line <= TAPE_SIZE && goesOn; line++) {
            goesOn = takeLine(reader.line()) && reader.hasMore();
        }
        int fault = scanner.fault != 0 ? scanner.fault : maker.fault;
        if (fault == 0 && trial.size() > MOST_DEFINITIONS) {
            fault = TOO_MANY_DEFINITIONS;
        }
        if (fault == 0) {
            copyDefinitions(trial, definitions);
        }
        return finishReading(fault);
    }

    public int hang(int track) {
        if (!isTrack(track)) {
            return NONE;
        }
        startReading();
        Definition body = reader.wholeExp();
        Pattern made = scanner.fault == 0 ? maker.make(body) : null;
        int fault = scanner.fault != 0 ? scanner.fault : maker.fault;
        if (fault == 0) {
            assign(track, made);
        }
        return finishReading(fault);
    }

    public boolean hush(int track) {
        if (!isTrack(track)) {
            return false;
        }
        assign(track, null);
        return true;
    }

    public int told(int what) {
        if (!hasTold) {
            return NONE;
        }
        switch (what) {
            case 0: return toldFault;
            case 1: return toldPlace;
            case 2: return toldCounted;
            default: return NONE;
        }
    }

    public int bound(int track, int what) {
        if (!isTrack(track) || patterns[track] == null) {
            return NONE;
        }
        Pattern p = patterns[track];
        switch (what) {
            case 0: return (int) p.grain;
            case 1: return (int) p.crowd;
            case 2: return (int) p.reach;
            case 3: return (int) p.work;
            case 4: return p.depth;
            default: return NONE;
        }
    }

    public int ask(int track, int c) {
        if (!isTrack(track) || patterns[track] == null || c < FIRST_ASKED || c > LAST_CYCLE) {
            return NONE;
        }
        Pattern p = patterns[track];
        rows.workOut(p, c);
        asked.count = 0;
        asked.merge(rows.events, p.grain, track, c, 0);
        return asked.count;
    }

    public int event(int k, int what) {
        if (k < 0 || k >= asked.count) {
            return NONE;
        }
        switch (what) {
            case 0: case 1: case 2: case 3: return asked.time(k, what);
            case 4: return asked.number[k];
            case 5: return asked.numbered[k] ? 1 : 0;
            case 6: return Kept.lettersOf(asked.word[k]);
            default: return NONE;
        }
    }

    public int letter(int k, int i) {
        return asked.letterAt(k, i);
    }

    public int play(int n) {
        if (n < 1 || n > MOST_TICKS_A_PLAY || now + n > LAST_CYCLE * TICKS) {
            return NONE;
        }
        heardOnes.count = 0;
        int goal = now + n;
        int many = 0;
        for (int turn = 0; turn <= MOST_TICKS_A_PLAY && now < goal; turn++) {
            int cycle = now / TICKS;
            int stop = Math.min(goal, (cycle + 1) * TICKS);
            many += hearCycle(cycle, now - cycle * TICKS, stop - cycle * TICKS);
            now = stop;
            settle();
        }
        heardInAll += many;
        return many;
    }

    public int heard(int k, int what) {
        if (k < 0 || k >= heardOnes.count) {
            return NONE;
        }
        switch (what) {
            case 0: return heardOnes.track[k];
            case 1: return heardOnes.cycle[k];
            case 2: case 3: case 4: case 5: return heardOnes.time(k, what - 2);
            case 6: return heardOnes.number[k];
            case 7: return Kept.lettersOf(heardOnes.word[k]);
            default: return NONE;
        }
    }

    public int heardLetter(int k, int i) {
        return heardOnes.letterAt(k, i);
    }

    public boolean jump(int c) {
        if (c < 0 || c >= LAST_CYCLE) {
            return false;
        }
        now = c * TICKS;
        settle();
        return true;
    }

    public boolean mute(int track, boolean on) {
        if (!isTrack(track)) {
            return false;
        }
        boolean was = muted[track];
        muted[track] = on;
        return was;
    }

    public boolean solo(int track, boolean on) {
        if (!isTrack(track)) {
            return false;
        }
        boolean was = alone[track];
        alone[track] = on;
        return was;
    }

    public void seed(int n) {
        rows.seed = n;
    }

    public int about(int what) {
        switch (what) {
            case 0: return now / TICKS;
            case 1: return now % TICKS;
            case 2: return definitions.size();
            case 3: return tracksWithPattern();
            case 4: return tracksWaiting();
            case 5: return heardInAll;
            case 6: return scanner.size;
            default: return NONE;
        }
    }

    private static boolean isTrack(int track) {
        return track >= 0 && track < TRACKS;
    }

    private void startReading() {
        copyDefinitions(definitions, trial);
        scanner.restart();
        maker.restart();
    }

    private int finishReading(int fault) {
        hasTold = true;
        toldFault = fault;
        toldPlace = NONE;
        if (scanner.fault != 0) {
            toldPlace = scanner.place;
        } else if (maker.fault != 0) {
            toldPlace = maker.place;
        }
        toldCounted = maker.counted;
        scanner.size = 0;
        return fault;
    }

    /** Makes what a line tells (null of an empty one), ahead of the next line's reading; false with a fault. */
    private boolean takeLine(Definition told) {
        if (told == null) {
            return scanner.fault == 0;
        }
        if (told.parameterCount == 0) {
            told.made = maker.make(told);
        }
        if (maker.fault != 0) {
            return false;
        }
        for (int i = 0; i < trial.size(); i++) {
            if (trial.get(i).name == told.name) {
                trial.set(i, told);
                return true;
            }
        }
        trial.add(told);
        return true;
    }

    private static void copyDefinitions(ArrayList<Definition> from, ArrayList<Definition> to) {
        to.clear();
        for (int i = 0; i < from.size(); i++) {
            to.add(from.get(i));
        }
    }

    private void assign(int track, Pattern pattern) {
        coming[track] = pattern;
        waiting[track] = true;
        settle();
    }

    /** Lets what waits become so, if a cycle begins now. */
    private void settle() {
        if (now % TICKS != 0) {
            return;
        }
        for (int t = 0; t < TRACKS; t++) {
            if (waiting[t]) {
                patterns[t] = coming[t];
                coming[t] = null;
                waiting[t] = false;
            }
        }
    }

    /** Hears what begins in a cycle between two of its ticks; answers how many. */
    private int hearCycle(int cycle, int fromTick, int toTick) {
        int start = heardOnes.count;
        boolean soloOnly = anyAlone();
        int many = 0;
        for (int t = 0; t < TRACKS; t++) {
            Pattern p = patterns[t];
            if (p == null || muted[t] || soloOnly && !alone[t]) {
                continue;
            }
            rows.workOut(p, cycle);
            Events events = rows.events;
            events.choose(0, Rows.ceiling(fromTick * p.grain, TICKS), Rows.ceiling(toTick * p.grain, TICKS), true);
            many += events.top;
            heardOnes.merge(events, p.grain, t, cycle, start);
        }
        return many;
    }

    private boolean anyAlone() {
        for (int t = 0; t < TRACKS; t++) {
            if (alone[t]) {
                return true;
            }
        }
        return false;
    }

    private int tracksWithPattern() {
        int many = 0;
        for (int t = 0; t < TRACKS; t++) {
            many += patterns[t] != null ? 1 : 0;
        }
        return many;
    }

    private int tracksWaiting() {
        int many = 0;
        for (int t = 0; t < TRACKS; t++) {
            many += waiting[t] ? 1 : 0;
        }
        return many;
    }

    /** The tape, the token that reading stands at, and the first fault of reading. */
    private static final class Scanner {
        static final int NAME = 1;
        static final int COUNT = 2;
        static final int FRACTION = 3;
        static final int TEXT = 4;
        static final int BAD = 5;
        static final int FINISH = 6;
        static final int LINE_END = 10;
        static final int LONGEST_NAME = 12;
        static final int LONGEST_COUNT = 4;
        static final int MOST_OPEN = 20;
        static final int NAME_BASE = 37;

        final byte[] bytes = new byte[TAPE_SIZE];
        int size = 0;
        int fault = 0;
        int place = 0;
        int open = 0;
        /** One of the kinds above; of a sign and of a line's end, its byte. */
        int kind = FINISH;
        int at = 0;
        int behind = 0;
        /** A name of 12 fits into a long, so names are compared as numbers. */
        long name = 0;
        int upper = 0;
        int lower = 1;

        void append(int four) {
            for (int shift = 24; shift >= 0 && size < TAPE_SIZE; shift -= 8) {
                bytes[size] = (byte) (four >>> shift);
                size++;
            }
        }

        void restart() {
            fault = 0;
            place = 0;
            open = 0;
            behind = 0;
            advance();
        }

        void fail(int number, int where) {
            if (fault == 0) {
                fault = number;
                place = where;
            }
        }

        boolean opens(int where) {
            if (open >= MOST_OPEN) {
                fail(4, where);
                return false;
            }
            open++;
            return true;
        }

        int byteAt(int i) {
            return i >= 0 && i < size ? bytes[i] : 0;
        }

        void advance() {
            at = behind;
            while (at < size && bytes[at] == ' ') {
                at++;
            }
            behind = at + 1;
            int first = byteAt(at);
            if (at >= size) {
                kind = FINISH;
                behind = at;
            } else if (isLetter(first)) {
                scanName();
            } else if (isDigit(first)) {
                scanCount();
            } else if (first == '"') {
                scanText();
            } else {
                kind = isSign(first) ? first : BAD;
            }
        }

        static boolean isLetter(int b) {
            return b >= 'a' && b <= 'z';
        }

        static boolean isDigit(int b) {
            return b >= '0' && b <= '9';
        }

        static boolean isOp(int b) {
            return b == '#' || b == '+' || b == '-' || b == '*';
        }

        private static boolean isSign(int b) {
            return isOp(b) || b == '(' || b == ')' || b == '&' || b == ';' || b == '.' || b == '=' || b == LINE_END;
        }

        static long longer(long name, int b) {
            return name * NAME_BASE + (isDigit(b) ? b - '0' + 27 : b - 'a' + 1);
        }

        private void scanName() {
            name = 0;
            int i = at;
            for (; i < size && (isLetter(bytes[i]) || isDigit(bytes[i])); i++) {
                name = longer(name, bytes[i]);
            }
            behind = i;
            kind = i - at > LONGEST_NAME ? BAD : NAME;
        }

        private void scanCount() {
            int colon = digitsBehind(at);
            boolean fits = colon - at <= LONGEST_COUNT;
            upper = fits ? valueOf(at, colon) : 0;
            lower = 1;
            behind = colon;
            kind = COUNT;
            if (byteAt(colon) == ':' && isDigit(byteAt(colon + 1))) {
                behind = digitsBehind(colon + 1);
                fits = fits && behind - colon - 1 <= LONGEST_COUNT;
                lower = fits ? valueOf(colon + 1, behind) : 1;
                kind = FRACTION;
            }
            if (!fits) {
                kind = BAD;
            }
        }

        int digitsBehind(int from) {
            int i = from;
            while (i < size && isDigit(bytes[i])) {
                i++;
            }
            return i;
        }

        int valueOf(int from, int to) {
            int value = 0;
            for (int i = from; i < to; i++) {
                value = value * 10 + byteAt(i) - '0';
            }
            return value;
        }

        private void scanText() {
            int i = at + 1;
            while (i < size && bytes[i] >= 32 && bytes[i] <= 126 && bytes[i] != '"') {
                i++;
            }
            boolean closed = byteAt(i) == '"';
            behind = i + 1;
            kind = closed ? TEXT : BAD;
        }
    }

    /** One pattern to be made, or one use of a definition: its kind, its numbers, and of what. */
    private static final class Step {
        static final int WORD = 1;
        static final int NUMBER = 2;
        static final int REST = 3;
        static final int SEQ = 4;
        static final int TURN = 5;
        static final int POLY = 6;
        static final int EUCLID = 7;
        static final int LAYER = 8;
        static final int FAST = 9;
        static final int SHIFT = 10;
        static final int REV = 11;
        static final int EVERY = 12;
        static final int WHEN = 13;
        static final int ITER = 14;
        static final int PLY = 15;
        static final int CHUNK = 16;
        static final int WITHIN = 17;
        static final int ROT = 18;
        static final int STRUCT = 19;
        static final int MASK = 20;
        static final int OP = 21;
        static final int DROP = 22;
        static final int KEEP = 23;
        static final int SQUEEZE = 24;
        static final int USE = 25;

        final int kind;
        final int place;
        int a = 0;
        int b = 0;
        int c = 0;
        int d = 0;
        /** Whether it is an & or ; of the expression: of these, each part behind the second counts. */
        boolean countsParts = false;
        long word = 0;
        Definition use = null;
        int count = 0;
        int[] of = new int[2];
        int[] weights = null;
        int[] repeats = null;
        /** Of each weighted part, the weights up to its end. */
        int[] ends = null;

        Step(int kind, int place) {
            this.kind = kind;
            this.place = place;
        }

        Step(int kind, int place, int a, int b) {
            this.kind = kind;
            this.place = place;
            this.a = a;
            this.b = b;
        }

        Step give(int operand) {
            if (count >= of.length) {
                of = Arrays.copyOf(of, 2 * count + 1);
            }
            of[count] = operand;
            count++;
            return this;
        }

        /** Gives a weighted part; 'a' sums up all weights. */
        void giveWeighted(int operand, int weight, int repeat) {
            give(operand);
            if (weights == null || repeats == null || ends == null) {
                weights = new int[of.length];
                repeats = new int[of.length];
                ends = new int[of.length];
            } else if (weights.length < count) {
                weights = Arrays.copyOf(weights, of.length);
                repeats = Arrays.copyOf(repeats, of.length);
                ends = Arrays.copyOf(ends, of.length);
            }
            a += weight * repeat;
            weights[count - 1] = weight;
            repeats[count - 1] = repeat;
            ends[count - 1] = a;
        }

        /** How many are counted ahead of it. */
        int besides() {
            return countsParts ? Math.max(0, count - 2) : 0;
        }
    }

    /** The body of a definition (or the one of a track) as the steps of its making, in their order. */
    private static final class Definition {
        static final int MOST_PARAMETERS = 4;

        final long name;
        final long[] parameters = new long[MOST_PARAMETERS];
        int parameterCount = 0;
        final ArrayList<Step> steps = new ArrayList<Step>();
        final ArrayList<Pattern> known = new ArrayList<Pattern>();
        int result = 0;
        Pattern made = null;

        Definition(long name) {
            this.name = name;
        }

        /** An operand from 0 on is a parameter or, behind these, what a step makes. */
        int add(Step step) {
            steps.add(step);
            return parameterCount + steps.size() - 1;
        }

        /** An operand below 0 is a pattern that was made before. */
        int addKnown(Pattern pattern) {
            known.add(pattern);
            return -known.size();
        }

        boolean hasName(long other) {
            return name == other || parameterIndex(other) >= 0;
        }

        int parameterIndex(long other) {
            for (int i = 0; i < parameterCount; i++) {
                if (parameters[i] == other) {
                    return i;
                }
            }
            return -1;
        }
    }

    /** A function, operator or definition with all that it wants but its last pattern. */
    private static final class Piece {
        static final int FAST = 0;
        static final int SLOW = 1;
        static final int EARLY = 2;
        static final int LATE = 3;
        static final int REV = 4;
        static final int EVERY = 5;
        static final int WHEN = 6;
        static final int OFF = 7;
        static final int OVER = 8;
        static final int ITER = 9;
        static final int PLY = 10;
        static final int CHUNK = 11;
        static final int INSIDE = 12;
        static final int ROT = 13;
        static final int STRUCT = 14;
        static final int MASK = 15;
        static final int DROP = 16;
        static final int KEEP = 17;
        static final int SOME = 18;
        static final int WITHIN = 19;
        static final int SQUEEZE = 20;
        static final int OP = 21;
        static final int USE = 22;
        static final int GROUP = 23;
        static final int MOST_ARGS = 3;
        static final int LONGEST_CHAIN = 2000;

        final int kind;
        final int place;
        int a = 0;
        int b = 0;
        int c = 0;
        int d = 0;
        /** The piece of its FUN that comes to work first. */
        Piece fun = null;
        Piece next = null;
        Definition use = null;
        final int[] args = new int[MOST_ARGS];
        int argCount = 0;

        Piece(int kind, int place) {
            this.kind = kind;
            this.place = place;
        }

        void give(int operand) {
            if (argCount < MOST_ARGS) {
                args[argCount] = operand;
                argCount++;
            }
        }

        private static int applyAll(Piece first, Definition body, int p) {
            int made = p;
            Piece piece = first;
            for (int i = 0; i < LONGEST_CHAIN && piece != null; i++) {
                made = piece.apply(body, made);
                piece = piece.next;
            }
            return made;
        }

        /** Adds the steps that make it of p; answers the operand of what they make. */
        int apply(Definition body, int p) {
            switch (kind) {
                case FAST: return body.add(new Step(Step.FAST, place, a, b).give(p));
                case SLOW: return body.add(new Step(Step.FAST, place, b, a).give(p));
                case EARLY: return body.add(new Step(Step.SHIFT, place, a, b).give(p));
                case LATE: return body.add(new Step(Step.SHIFT, place, -a, b).give(p));
                case REV: return body.add(new Step(Step.REV, place).give(p));
                case ITER: return body.add(new Step(Step.ITER, place, a, 0).give(p));
                case PLY: return body.add(new Step(Step.PLY, place, a, 0).give(p));
                case ROT: return body.add(new Step(Step.ROT, place, a, 0).give(p));
                case DROP: return body.add(new Step(Step.DROP, place, a, 0).give(p));
                case KEEP: return body.add(new Step(Step.KEEP, place, a, 0).give(p));
                case STRUCT: return body.add(new Step(Step.STRUCT, place).give(args[0]).give(p));
                case MASK: return body.add(new Step(Step.MASK, place).give(args[0]).give(p));
                case OP: return body.add(new Step(Step.OP, place, a, 0).give(p).give(args[0]));
                case SQUEEZE: return body.add(spanStep(Step.SQUEEZE).give(p));
                case USE: return body.add(useStep().give(p));
                case GROUP: return applyAll(fun, body, p);
                default: return applyWithFun(body, p);
            }
        }

        private int applyWithFun(Definition body, int p) {
            if (kind == INSIDE) {
                int slowed = body.add(new Step(Step.FAST, place, 1, a).give(p));
                int changed = applyAll(fun, body, slowed);
                return body.add(new Step(Step.FAST, place, a, 1).give(changed));
            }
            if (kind == SOME) {
                int dropped = body.add(new Step(Step.DROP, place, a, 0).give(p));
                int kept = body.add(new Step(Step.KEEP, place, a, 0).give(p));
                int changed = applyAll(fun, body, kept);
                return body.add(new Step(Step.LAYER, place).give(dropped).give(changed));
            }
            int changed = applyAll(fun, body, p);
            switch (kind) {
                case EVERY: return body.add(new Step(Step.EVERY, place, a, 0).give(p).give(changed));
                case WHEN: return body.add(new Step(Step.WHEN, place, a, b).give(p).give(changed));
                case CHUNK: return body.add(new Step(Step.CHUNK, place, a, 0).give(p).give(changed));
                case WITHIN: return body.add(spanStep(Step.WITHIN).give(p).give(changed));
                case OFF:
                    int late = body.add(new Step(Step.SHIFT, place, -a, b).give(changed));
                    return body.add(new Step(Step.LAYER, place).give(p).give(late));
                default: return body.add(new Step(Step.LAYER, place).give(p).give(changed));
            }
        }

        private Step spanStep(int stepKind) {
            Step step = new Step(stepKind, place, a, b);
            step.c = c;
            step.d = d;
            return step;
        }

        private Step useStep() {
            Step step = new Step(Step.USE, place);
            step.use = use;
            for (int i = 0; i < argCount; i++) {
                step.give(args[i]);
            }
            return step;
        }
    }

    /** Reads lines and expressions of the tape into bodies. */
    private static final class Reader {
        static final String FUNCTION_NAMES = "fast slow early late rev every when off over iter ply chunk inside rot struct mask drop keep some within squeeze ";
        /** Four signs a function: A a fraction, N a count, F a FUN, P a pattern. */
        static final String WANTS = "AP  AP  AP  AP  P   NFP NNFPAFP FP  NP  NP  NFP NFP NP  PP  PP  NP  NP  NFP AAFPAAP ";
        static final int FUNCTIONS = 21;
        static final int LONGEST_WANT = 4;
        static final int MOST_OF_FRACTION = 64;
        static final int MOST_OF_COUNT = 32;
        static final int MOST_OF_DRAW = 1000;
        static final int UNKNOWN = 0;
        static final int PARAMETER = 1;
        static final int FUNCTION = 2;
        static final int PLAIN = 3;
        static final int WITH_PARAMETERS = 4;

        final Scanner scanner;
        final TextReader texts;
        final ArrayList<Definition> definitions;
        final long[] functionNames = new long[FUNCTIONS];
        Definition body = new Definition(0);
        int foundIndex = 0;
        Definition foundDefinition = null;

        Reader(Scanner scanner, ArrayList<Definition> definitions) {
            this.scanner = scanner;
            this.definitions = definitions;
            this.texts = new TextReader(scanner);
            long name = 0;
            int f = 0;
            for (int i = 0; i < FUNCTION_NAMES.length() && f < FUNCTIONS; i++) {
                if (FUNCTION_NAMES.charAt(i) == ' ') {
                    functionNames[f] = name;
                    f++;
                    name = 0;
                } else {
                    name = Scanner.longer(name, FUNCTION_NAMES.charAt(i));
                }
            }
        }

        boolean hasMore() {
            return scanner.kind != Scanner.FINISH;
        }

        /** Reads one line to its end; null if it is empty or has a fault. */
        Definition line() {
            if (scanner.kind != Scanner.LINE_END) {
                header();
                if (scanner.fault == 0) {
                    body.result = exp();
                }
                if (scanner.kind != Scanner.LINE_END && scanner.kind != Scanner.FINISH) {
                    scanner.fail(1, scanner.at);
                }
            } else {
                body = null;
            }
            if (scanner.fault != 0) {
                return null;
            }
            scanner.advance();
            return body;
        }

        /** Reads the whole tape as the expression of a track. */
        Definition wholeExp() {
            body = new Definition(0);
            body.result = exp();
            for (int i = 0; i < TAPE_SIZE && scanner.fault == 0 && scanner.kind == Scanner.LINE_END; i++) {
                scanner.advance();
            }
            if (scanner.kind != Scanner.FINISH) {
                scanner.fail(1, scanner.at);
            }
            return body;
        }

        private void header() {
            if (scanner.kind != Scanner.NAME) {
                scanner.fail(1, scanner.at);
                return;
            }
            if (functionOf(scanner.name) >= 0) {
                scanner.fail(2, scanner.at);
                return;
            }
            body = new Definition(scanner.name);
            scanner.advance();
            for (int i = 0; i < TAPE_SIZE && scanner.kind == Scanner.NAME; i++) {
                if (functionOf(scanner.name) >= 0 || body.hasName(scanner.name)
                        || body.parameterCount >= Definition.MOST_PARAMETERS) {
                    scanner.fail(2, scanner.at);
                    return;
                }
                body.parameters[body.parameterCount] = scanner.name;
                body.parameterCount++;
                scanner.advance();
            }
            expect('=');
        }

        private void expect(int sign) {
            if (scanner.kind != sign) {
                scanner.fail(1, scanner.at);
            } else {
                scanner.advance();
            }
        }

        private int functionOf(long name) {
            for (int f = 0; f < FUNCTIONS; f++) {
                if (functionNames[f] == name) {
                    return f;
                }
            }
            return -1;
        }

        private int kindOf(long name) {
            foundIndex = body.parameterIndex(name);
            if (foundIndex >= 0) {
                return PARAMETER;
            }
            foundIndex = functionOf(name);
            if (foundIndex >= 0) {
                return FUNCTION;
            }
            for (int i = 0; i < definitions.size(); i++) {
                if (definitions.get(i).name == name) {
                    foundDefinition = definitions.get(i);
                    return foundDefinition.parameterCount == 0 ? PLAIN : WITH_PARAMETERS;
                }
            }
            return UNKNOWN;
        }

        private int exp() {
            int first = cat();
            if (scanner.fault != 0 || scanner.kind != '&') {
                return first;
            }
            Step all = new Step(Step.LAYER, scanner.at);
            all.countsParts = true;
            all.give(first);
            for (int i = 0; i < TAPE_SIZE && scanner.fault == 0 && scanner.kind == '&'; i++) {
                scanner.advance();
                all.give(cat());
            }
            return body.add(all);
        }

        private int cat() {
            int first = sum();
            if (scanner.fault != 0 || scanner.kind != ';') {
                return first;
            }
            Step all = new Step(Step.TURN, scanner.at);
            all.countsParts = true;
            all.giveWeighted(first, 1, 1);
            for (int i = 0; i < TAPE_SIZE && scanner.fault == 0 && scanner.kind == ';'; i++) {
                scanner.advance();
                all.giveWeighted(sum(), 1, 1);
            }
            return body.add(all);
        }

        private int sum() {
            int left = app();
            for (int i = 0; i < TAPE_SIZE && scanner.fault == 0 && Scanner.isOp(scanner.kind); i++) {
                Step op = new Step(Step.OP, scanner.at, scanner.kind, 0);
                scanner.advance();
                op.give(left).give(app());
                left = body.add(op);
            }
            return left;
        }

        private int app() {
            if (scanner.kind != Scanner.NAME) {
                return arg();
            }
            int kind = kindOf(scanner.name);
            if (kind != FUNCTION && kind != WITH_PARAMETERS) {
                return arg();
            }
            Piece piece = named(kind);
            int last = scanner.fault == 0 ? arg() : 0;
            return scanner.fault == 0 ? piece.apply(body, last) : 0;
        }

        private int arg() {
            if (scanner.kind == Scanner.NAME) {
                return patternName();
            }
            boolean isText = scanner.kind == Scanner.TEXT;
            if (!isText && scanner.kind != '(') {
                scanner.fail(1, scanner.at);
                return 0;
            }
            if (!scanner.opens(scanner.at)) {
                return 0;
            }
            int made = 0;
            if (isText) {
                texts.start(body, scanner.at, scanner.behind - 1);
                made = texts.seq();
                texts.finish();
                scanner.advance();
            } else {
                scanner.advance();
                made = exp();
                expect(')');
            }
            scanner.open--;
            return made;
        }

        private int patternName() {
            int kind = kindOf(scanner.name);
            if (kind != PARAMETER && kind != PLAIN) {
                scanner.fail(2, scanner.at);
                return 0;
            }
            scanner.advance();
            return kind == PARAMETER ? foundIndex : body.addKnown(foundDefinition.made);
        }

        /** Reads a function or a definition with parameters, with all that it wants but the last. */
        private Piece named(int kind) {
            Piece piece = new Piece(kind == FUNCTION ? foundIndex : Piece.USE, scanner.at);
            if (kind == FUNCTION) {
                scanner.advance();
                wants(piece);
                return piece;
            }
            piece.use = foundDefinition;
            int many = foundDefinition.parameterCount - 1;
            scanner.advance();
            for (int i = 0; i < many && scanner.fault == 0; i++) {
                piece.give(arg());
            }
            return piece;
        }

        private void wants(Piece piece) {
            int from = piece.kind * LONGEST_WANT;
            for (int i = 0; i < LONGEST_WANT - 1 && scanner.fault == 0; i++) {
                boolean isLast = WANTS.charAt(from + i + 1) == ' ';
                switch (WANTS.charAt(from + i)) {
                    case 'A':
                        fraction(piece, i == 0);
                        break;
                    case 'N':
                        count(piece, i == 0);
                        break;
                    case 'F':
                        piece.fun = fun();
                        break;
                    default:
                        if (isLast) {
                            return;
                        }
                        piece.give(arg());
                        break;
                }
            }
        }

        private void fraction(Piece piece, boolean isFirst) {
            if (scanner.kind != Scanner.COUNT && scanner.kind != Scanner.FRACTION) {
                scanner.fail(1, scanner.at);
                return;
            }
            int upper = scanner.upper;
            int lower = scanner.lower;
            boolean isRate = piece.kind == Piece.FAST || piece.kind == Piece.SLOW;
            boolean isSpan = piece.kind == Piece.WITHIN || piece.kind == Piece.SQUEEZE;
            boolean fits = upper <= MOST_OF_FRACTION && lower <= MOST_OF_FRACTION && lower > 0
                    && !(isRate && upper == 0) && !(isSpan && upper > lower);
            if (!fits || !isFirst && upper * piece.b <= piece.a * lower) {
                scanner.fail(3, scanner.at);
                return;
            }
            int shared = (int) Pattern.gcd(upper, lower);
            if (isFirst) {
                piece.a = upper / shared;
                piece.b = lower / shared;
            } else {
                piece.c = upper / shared;
                piece.d = lower / shared;
            }
            scanner.advance();
        }

        private void count(Piece piece, boolean isFirst) {
            if (scanner.kind != Scanner.COUNT) {
                scanner.fail(scanner.kind == Scanner.FRACTION ? 3 : 1, scanner.at);
                return;
            }
            boolean isDraw = piece.kind == Piece.DROP || piece.kind == Piece.KEEP || piece.kind == Piece.SOME;
            boolean fromZero = isDraw || piece.kind == Piece.ROT || !isFirst;
            int most = isDraw ? MOST_OF_DRAW : MOST_OF_COUNT;
            if (scanner.upper > most || scanner.upper == 0 && !fromZero) {
                scanner.fail(3, scanner.at);
                return;
            }
            if (isFirst) {
                piece.a = scanner.upper;
            } else {
                piece.b = scanner.upper;
            }
            scanner.advance();
        }

        /** Reads a FUN; answers the piece that comes to work first: the last one in ( F . G ). */
        private Piece fun() {
            if (scanner.kind == Scanner.NAME) {
                return funName();
            }
            if (scanner.kind != '(') {
                scanner.fail(1, scanner.at);
                return null;
            }
            if (!scanner.opens(scanner.at)) {
                return null;
            }
            Piece latest = null;
            boolean more = true;
            for (int i = 0; i < TAPE_SIZE && more && scanner.fault == 0; i++) {
                scanner.advance();
                Piece piece = piece();
                if (piece != null) {
                    piece.next = latest;
                    latest = piece;
                }
                more = scanner.kind == '.';
            }
            expect(')');
            scanner.open--;
            return latest;
        }

        private Piece funName() {
            int kind = kindOf(scanner.name);
            boolean isRev = kind == FUNCTION && foundIndex == Piece.REV;
            boolean isOfOne = kind == WITH_PARAMETERS && foundDefinition.parameterCount == 1;
            if (!isRev && !isOfOne) {
                scanner.fail(2, scanner.at);
                return null;
            }
            return named(kind);
        }

        private Piece piece() {
            int where = scanner.at;
            if (scanner.kind == Scanner.NAME) {
                int kind = kindOf(scanner.name);
                if (kind == FUNCTION || kind == WITH_PARAMETERS) {
                    return named(kind);
                }
                scanner.fail(2, where);
                return null;
            }
            if (scanner.kind == '(') {
                Piece group = new Piece(Piece.GROUP, where);
                group.fun = fun();
                return group;
            }
            if (!Scanner.isOp(scanner.kind)) {
                scanner.fail(1, where);
                return null;
            }
            Piece op = new Piece(Piece.OP, where);
            op.a = scanner.kind;
            scanner.advance();
            op.give(arg());
            return op;
        }
    }

    /** Reads what stands in a TEXT into steps of a body. */
    private static final class TextReader {
        static final int LONGEST_WORD = 8;
        static final int LONGEST_NUMBER = 6;
        static final int LONGEST_COUNT = 4;
        static final int MOST_OF_DIGITS = 9999;
        static final int MOST_TIMES = 32;
        static final int MOST_WEIGHT = 16;
        static final int MOST_TURNED = 31;
        static final int HALF_OF_DRAWS = 500;
        static final int QUESTION_SPREAD = 1000003;

        final Scanner scanner;
        Definition body = null;
        int at = 0;
        int close = 0;
        int questions = 0;
        int digitsAt = 0;

        TextReader(Scanner scanner) {
            this.scanner = scanner;
        }

        /** Lets a TEXT be read, from its first " to its other one. */
        void start(Definition target, int from, int to) {
            body = target;
            at = from + 1;
            close = to;
            questions = 0;
        }

        void finish() {
            if (at != close) {
                scanner.fail(1, at);
            }
        }

        private int here() {
            return at < TAPE_SIZE ? scanner.bytes[at] : 0;
        }

        private void skipBlanks() {
            while (at < close && at < TAPE_SIZE && scanner.bytes[at] == ' ') {
                at++;
            }
        }

        private void take(int sign) {
            skipBlanks();
            if (here() != sign) {
                scanner.fail(1, at);
            } else {
                at++;
            }
        }

        /** Reads a SEQ; answers the operand of what it makes. */
        int seq() {
            skipBlanks();
            Step all = new Step(Step.SEQ, at);
            steps(all);
            return scanner.fault == 0 ? body.add(all) : 0;
        }

        private void steps(Step all) {
            skipBlanks();
            boolean more = true;
            for (int i = 0; i < TAPE_SIZE && more; i++) {
                int made = part();
                made = scanner.fault == 0 ? mods(made) : 0;
                int weight = behindSign('@');
                int repeat = behindSign('!');
                all.giveWeighted(made, weight, repeat);
                skipBlanks();
                more = scanner.fault == 0 && startsPart(here()) && scanner.byteAt(at - 1) == ' ';
            }
        }

        private int behindSign(int sign) {
            skipBlanks();
            if (scanner.fault != 0 || here() != sign) {
                return 1;
            }
            at++;
            return number(1, MOST_WEIGHT);
        }

        private static boolean startsPart(int b) {
            return Scanner.isLetter(b) || Scanner.isDigit(b) || b == '-' || b == '~' || b == '[' || b == '<' || b == '{';
        }

        private int part() {
            int first = here();
            if (Scanner.isLetter(first)) {
                return word();
            }
            if (Scanner.isDigit(first) || first == '-') {
                return signedNumber();
            }
            if (first == '~') {
                at++;
                return body.add(new Step(Step.REST, at - 1));
            }
            if (first != '[' && first != '<' && first != '{') {
                scanner.fail(1, at);
                return 0;
            }
            if (!scanner.opens(at)) {
                return 0;
            }
            return first == '[' ? bracket() : first == '<' ? turn() : poly();
        }

        private int word() {
            Step step = new Step(Step.WORD, at);
            for (int i = 0; i <= LONGEST_WORD && Scanner.isLetter(here()); i++) {
                if (i == LONGEST_WORD) {
                    scanner.fail(1, at);
                    return 0;
                }
                step.word |= (long) here() << (8 * i);
                at++;
            }
            return body.add(step);
        }

        private int signedNumber() {
            int first = at;
            boolean isBelow = here() == '-';
            at += isBelow ? 1 : 0;
            int value = digits(LONGEST_NUMBER);
            if (value == NONE) {
                scanner.fail(1, at);
                return 0;
            }
            return body.add(new Step(Step.NUMBER, first, isBelow ? -value : value, 0));
        }

        private int bracket() {
            Step all = new Step(Step.LAYER, at);
            boolean more = true;
            for (int i = 0; i < TAPE_SIZE && more && scanner.fault == 0; i++) {
                at++;
                all.give(seq());
                more = here() == ',';
            }
            take(']');
            scanner.open--;
            if (scanner.fault != 0) {
                return 0;
            }
            return all.count == 1 ? all.of[0] : body.add(all);
        }

        private int turn() {
            Step all = new Step(Step.TURN, at);
            at++;
            steps(all);
            take('>');
            scanner.open--;
            return scanner.fault == 0 ? body.add(all) : 0;
        }

        private int poly() {
            Step all = new Step(Step.POLY, at);
            at++;
            steps(all);
            take('}');
            scanner.open--;
            take('%');
            all.b = scanner.fault == 0 ? number(1, MOST_TIMES) : 1;
            return scanner.fault == 0 ? body.add(all) : 0;
        }

        private int mods(int part) {
            int made = part;
            for (int i = 0; i < TAPE_SIZE && scanner.fault == 0; i++) {
                skipBlanks();
                int where = at;
                int sign = here();
                if (sign == '*' || sign == '/') {
                    at++;
                    int n = number(1, MOST_TIMES);
                    made = body.add(new Step(Step.FAST, where, sign == '*' ? n : 1, sign == '*' ? 1 : n).give(made));
                } else if (sign == '(') {
                    made = euclid(made);
                } else if (sign == '?') {
                    at++;
                    made = body.add(new Step(Step.DROP, where, HALF_OF_DRAWS, questions * QUESTION_SPREAD).give(made));
                    questions++;
                } else {
                    return made;
                }
            }
            return made;
        }

        private int euclid(int part) {
            Step step = new Step(Step.EUCLID, at);
            if (!scanner.opens(at)) {
                return 0;
            }
            at++;
            step.a = number(0, MOST_OF_DIGITS);
            int firstAt = digitsAt;
            take(',');
            step.b = number(1, MOST_TIMES);
            if (step.a > step.b) {
                scanner.fail(3, firstAt);
            }
            skipBlanks();
            if (scanner.fault == 0 && here() == ',') {
                at++;
                step.c = number(0, MOST_TURNED);
            }
            take(')');
            scanner.open--;
            return scanner.fault == 0 ? body.add(step.give(part)) : 0;
        }

        private int number(int least, int most) {
            skipBlanks();
            int value = digits(LONGEST_COUNT);
            if (value == NONE) {
                scanner.fail(1, at);
            } else if (value < least || value > most) {
                scanner.fail(3, digitsAt);
            }
            return value;
        }

        /** Reads digits; NONE if there is none, or one too many, which reading then stands at. */
        private int digits(int longest) {
            byte[] bytes = scanner.bytes;
            digitsAt = at;
            int value = 0;
            while (at < close && at - digitsAt < longest && bytes[at] >= '0' && bytes[at] <= '9') {
                value = value * 10 + bytes[at] - '0';
                at++;
            }
            boolean goesOn = at < close && bytes[at] >= '0' && bytes[at] <= '9';
            return goesOn || at == digitsAt ? NONE : value;
        }
    }

    /** Makes patterns of bodies, counts what it makes, and tells the first fault of making. */
    private static final class Maker {
        static final int MOST_COUNTED = 200;
        static final int MOST_WITHIN = 12;
        static final int REGISTERS = 512;
        static final int MANY_TURNS = 1000000;

        final Pattern[] nothing = new Pattern[0];
        final Pattern[] registers = new Pattern[REGISTERS];
        final Definition[] bodies = new Definition[MOST_WITHIN + 1];
        final int[] bases = new int[MOST_WITHIN + 1];
        final int[] nexts = new int[MOST_WITHIN + 1];
        int level = 0;
        int usedAt = 0;
        int counted = 0;
        int fault = 0;
        int place = 0;

        void restart() {
            counted = 0;
            fault = 0;
            place = 0;
        }

        /** Carries out a body's steps, and those of the bodies that it uses, without recursion; null with a fault. */
        Pattern make(Definition whole) {
            level = 0;
            bodies[0] = whole;
            bases[0] = 0;
            nexts[0] = 0;
            for (int turn = 0; turn < MANY_TURNS && fault == 0; turn++) {
                Definition body = bodies[level];
                int i = nexts[level];
                if (i < body.steps.size()) {
                    nexts[level] = i + 1;
                    carryOut(body.steps.get(i), bases[level] + body.parameterCount + i);
                } else {
                    Pattern result = operand(body.result);
                    if (level == 0) {
                        return result;
                    }
                    registers[bases[level]] = result;
                    level--;
                }
            }
            return null;
        }

        private void carryOut(Step step, int register) {
            int where = level == 0 ? step.place : usedAt;
            if (step.kind == Step.USE) {
                begin(step, register, where);
            } else if (register < REGISTERS) {
                registers[register] = build(step, where);
            }
        }

        private void fail(int number, int where) {
            fault = number;
            place = where;
        }

        private Pattern operand(int operand) {
            Definition body = bodies[level];
            if (operand < 0) {
                return -operand <= body.known.size() ? body.known.get(-operand - 1) : null;
            }
            int register = bases[level] + operand;
            return register < REGISTERS ? registers[register] : null;
        }

        /** Begins a use: its patterns become the first registers of its own, from where its result will stand. */
        private void begin(Step step, int register, int where) {
            if (level >= MOST_WITHIN) {
                fail(10, where);
                return;
            }
            if (counted >= MOST_COUNTED) {
                fail(5, where);
                return;
            }
            counted++;
            for (int i = 0; i < step.count && register + i < REGISTERS; i++) {
                registers[register + i] = operand(step.of[i]);
            }
            usedAt = where;
            level++;
            bodies[level] = step.use;
            bases[level] = register;
            nexts[level] = 0;
        }

        private Pattern build(Step step, int where) {
            int ahead = counted + step.besides();
            if (ahead >= MOST_COUNTED) {
                counted = MOST_COUNTED;
                fail(5, where);
                return null;
            }
            counted = ahead;
            Pattern[] of = step.count == 0 ? nothing : new Pattern[step.count];
            for (int i = 0; i < step.count; i++) {
                of[i] = operand(step.of[i]);
            }
            Pattern made = new Pattern(step, of);
            made.measure();
            if (made.excess() != 0) {
                fail(made.excess(), where);
                return null;
            }
            counted++;
            return made;
        }
    }

    /** A pattern that was made, with its bounds. */
    private static final class Pattern {
        static final long MOST_GRAIN = 1000000;
        static final int MOST_CROWD = 400;
        static final int MOST_REACH = 64;
        static final int MOST_WORK = 50000;
        static final int MOST_DEPTH = 60;

        final Step step;
        final Pattern[] of;
        long grain = 1;
        long crowd = 0;
        long reach = 1;
        long work = 1;
        int depth = 1;

        Pattern(Step step, Pattern[] of) {
            this.step = step;
            this.of = of;
        }

        static long gcd(long a, long b) {
            long x = a;
            long y = b;
            for (int i = 0; i < 200 && y != 0; i++) {
                long rest = x % y;
                x = y;
                y = rest;
            }
            return x == 0 ? 1 : x;
        }

        static long lcm(long a, long b) {
            return a / gcd(a, b) * b;
        }

        /** The fault that its bounds are, 0 if they hold. */
        int excess() {
            if (grain > MOST_GRAIN) {
                return 6;
            }
            if (crowd > MOST_CROWD) {
                return 7;
            }
            if (reach > MOST_REACH) {
                return 8;
            }
            if (work > MOST_WORK) {
                return 9;
            }
            return depth > MOST_DEPTH ? 10 : 0;
        }

        void measure() {
            for (int i = 0; i < of.length; i++) {
                depth = Math.max(depth, of[i].depth + 1);
            }
            switch (step.kind) {
                case Step.WORD: case Step.NUMBER:
                    bounds(1, 1, 1, 1);
                    break;
                case Step.REST:
                    bounds(1, 0, 1, 1);
                    break;
                case Step.SEQ:
                    bounds(step.a * lcmOfAll(), crowdOfAll(), mostReach(), workOfAll() + 1);
                    break;
                case Step.LAYER: case Step.CHUNK: case Step.WITHIN:
                    bounds(lcmOfAll(), crowdOfAll(), mostReach(), workOfAll() + 1);
                    break;
                case Step.TURN: case Step.EVERY: case Step.WHEN:
                    bounds(lcmOfAll(), mostCrowd(), mostReach(), mostWork() + 1);
                    break;
                case Step.POLY:
                    bounds(step.b * lcmOfAll(), step.b * mostCrowd(), mostReach(), step.b * mostWork() + 1);
                    break;
                case Step.STRUCT: case Step.OP:
                    measureMeeting(of[0], of[1]);
                    break;
                case Step.MASK:
                    measureMeeting(of[1], of[0]);
                    break;
                default:
                    measureOfOne(of[0]);
                    break;
            }
        }

        private void bounds(long newGrain, long newCrowd, long newReach, long newWork) {
            grain = newGrain;
            crowd = newCrowd;
            reach = newReach;
            work = newWork;
        }

        private void measureMeeting(Pattern main, Pattern other) {
            bounds(main.grain, main.crowd, main.reach, main.work + main.crowd * (other.reach + 1) * other.work + 1);
        }

        private void measureOfOne(Pattern p) {
            long a = step.a;
            long b = step.b;
            switch (step.kind) {
                case Step.EUCLID:
                    bounds(b * p.grain, a * p.crowd, p.reach, a * p.work + 1);
                    break;
                case Step.FAST:
                    long rowsOfP = Rows.ceiling(a, b) + (b == 1 ? 0 : 1);
                    bounds(a * p.grain, rowsOfP * p.crowd, Rows.ceiling(p.reach * b, a), rowsOfP * p.work + 1);
                    break;
                case Step.SHIFT:
                    long times = b == 1 ? 1 : 2;
                    bounds(lcm(p.grain, b), times * p.crowd, p.reach, times * p.work + 1);
                    break;
                case Step.REV:
                    bounds(p.grain, p.crowd, 1, p.work + 1);
                    break;
                case Step.ITER:
                    bounds(lcm(p.grain, a), 2 * p.crowd, p.reach, 2 * p.work + 1);
                    break;
                case Step.PLY:
                    long both = p.reach + 1;
                    bounds(a * p.grain, a * p.crowd * both, p.reach, both * (p.work + a * p.crowd) + 1);
                    break;
                case Step.ROT:
                    bounds(p.grain, p.crowd, p.reach, p.work + p.crowd + 1);
                    break;
                case Step.SQUEEZE:
                    bounds(lcm(b, spanLower() * p.grain), p.crowd, p.reach, p.work + 1);
                    break;
                default:
                    bounds(p.grain, p.crowd, p.reach, p.work + 1);
                    break;
            }
        }

        /** The length of a span (of squeeze) is spanUpper by spanLower, in lowest terms. */
        long spanUpper() {
            long upper = (long) step.c * step.b - (long) step.a * step.d;
            return upper / gcd(upper, (long) step.b * step.d);
        }

        long spanLower() {
            long upper = (long) step.c * step.b - (long) step.a * step.d;
            long lower = (long) step.b * step.d;
            return lower / gcd(upper, lower);
        }

        private long lcmOfAll() {
            long all = 1;
            for (int i = 0; i < of.length && all <= MOST_GRAIN; i++) {
                all = lcm(all, of[i].grain);
            }
            return all;
        }

        private long repeatsOf(int i) {
            return step.repeats == null || i >= step.repeats.length ? 1 : step.repeats[i];
        }

        private long crowdOfAll() {
            long all = 0;
            for (int i = 0; i < of.length; i++) {
                all += repeatsOf(i) * of[i].crowd;
            }
            return all;
        }

        private long workOfAll() {
            long all = 0;
            for (int i = 0; i < of.length; i++) {
                all += repeatsOf(i) * of[i].work;
            }
            return all;
        }

        private long mostCrowd() {
            long most = 0;
            for (int i = 0; i < of.length; i++) {
                most = Math.max(most, of[i].crowd);
            }
            return most;
        }

        private long mostReach() {
            long most = 0;
            for (int i = 0; i < of.length; i++) {
                most = Math.max(most, of[i].reach);
            }
            return most;
        }

        private long mostWork() {
            long most = 0;
            for (int i = 0; i < of.length; i++) {
                most = Math.max(most, of[i].work);
            }
            return most;
        }
    }

    /** A stack of events: rows lie on one another while they are worked out, each in parts of its pattern's grain. */
    private static final class Events {
        /** The bounds of patterns keep all that lies here at one time under some 4000. */
        static final int ROOM = 6000;
        static final int ROW_ROOM = 1024;

        final long[] begin = new long[ROOM];
        final long[] length = new long[ROOM];
        final long[] word = new long[ROOM];
        final int[] number = new int[ROOM];
        final boolean[] numbered = new boolean[ROOM];
        final int[] mark = new int[ROOM];
        int top = 0;
        final int[] spareNumber = new int[ROW_ROOM];
        final boolean[] spareNumbered = new boolean[ROW_ROOM];
        final long[] spareWord = new long[ROW_ROOM];
        final long[] spareBegin = new long[ROW_ROOM];
        final long[] spareLength = new long[ROW_ROOM];
        long[] keys = new long[ROW_ROOM];
        long[] spareKeys = new long[ROW_ROOM];

        void push(long newBegin, long newLength, long newWord, int newNumber, boolean isNumbered) {
            if (top >= ROOM) {
                return;
            }
            begin[top] = newBegin;
            length[top] = newLength;
            word[top] = newWord;
            number[top] = newNumber;
            numbered[top] = isNumbered;
            top++;
        }

        /** Pushes events once more, in other parts of a cycle and later. */
        void pushAgain(int from, int to, long times, long later) {
            for (int i = from; i < to; i++) {
                push(begin[i] * times + later, length[i] * times, word[i], number[i], numbered[i]);
            }
        }

        /** Changes the parts of a cycle in which all from 'from' on are told, and lets them be later. */
        void scale(int from, long times, long later) {
            if (times == 1 && later == 0) {
                return;
            }
            for (int i = from; i < top; i++) {
                begin[i] = begin[i] * times + later;
                length[i] = length[i] * times;
            }
        }

        private void move(int from, int to) {
            if (from == to) {
                return;
            }
            begin[to] = begin[from];
            length[to] = length[from];
            word[to] = word[from];
            number[to] = number[from];
            numbered[to] = numbered[from];
            mark[to] = mark[from];
        }

        /** Keeps those alone that begin (or don't) from low up to high. */
        void choose(int from, long low, long high, boolean inside) {
            int kept = from;
            for (int i = from; i < top; i++) {
                if ((begin[i] >= low && begin[i] < high) == inside) {
                    move(i, kept);
                    kept++;
                }
            }
            top = kept;
        }

        void chooseMarked(int from, int wanted) {
            int kept = from;
            for (int i = from; i < top; i++) {
                if (mark[i] == wanted) {
                    move(i, kept);
                    kept++;
                }
            }
            top = kept;
        }

        /** Takes out those from 'from' up to 'to'. */
        void remove(int from, int to) {
            int kept = from;
            for (int i = to; i < top; i++) {
                move(i, kept);
                kept++;
            }
            top = kept;
        }

        boolean isLoud(int i) {
            return word[i] != 0 || numbered[i] && number[i] != 0;
        }

        /** Puts those from 'from' on in the order of their begins; of one begin they stay in order. */
        void sort(int from) {
            int many = top - from;
            if (many > ROW_ROOM || isSorted(from)) {
                return;
            }
            for (int i = 0; i < many; i++) {
                keys[i] = begin[from + i] * ROW_ROOM + i;
            }
            for (int pass = 0; pass < ROW_ROOM && !mergePass(many); pass++) {
            }
            copyToSpare(from, many);
            for (int i = 0; i < many; i++) {
                int source = (int) (keys[i] % ROW_ROOM);
                begin[from + i] = spareBegin[source];
                length[from + i] = spareLength[source];
                takeValue(from + i, source);
            }
        }

        private boolean isSorted(int from) {
            for (int i = from + 1; i < top; i++) {
                if (begin[i - 1] > begin[i]) {
                    return false;
                }
            }
            return true;
        }

        private void copyToSpare(int from, int many) {
            for (int i = 0; i < many; i++) {
                spareBegin[i] = begin[from + i];
                spareLength[i] = length[from + i];
                spareWord[i] = word[from + i];
                spareNumber[i] = number[from + i];
                spareNumbered[i] = numbered[from + i];
            }
        }

        private void takeValue(int to, int source) {
            word[to] = spareWord[source];
            number[to] = spareNumber[source];
            numbered[to] = spareNumbered[source];
        }

        /** Gives each the value of the one so many behind it, going round. */
        void rotateValues(int from, int by) {
            int many = top - from;
            if (many == 0 || many > ROW_ROOM) {
                return;
            }
            copyToSpare(from, many);
            for (int i = 0; i < many; i++) {
                takeValue(from + i, (i + by) % many);
            }
        }

        /** Merges neighbouring runs of keys by twos; true if all were one run. */
        private boolean mergePass(int many) {
            int low = 0;
            for (int i = 0; i < many && low < many; i++) {
                int middle = runEnd(low, many);
                if (low == 0 && middle == many) {
                    return true;
                }
                int high = runEnd(middle, many);
                mergeRuns(low, middle, high);
                low = high;
            }
            long[] merged = spareKeys;
            spareKeys = keys;
            keys = merged;
            return false;
        }

        private int runEnd(int low, int many) {
            int i = low + 1;
            while (i < many && keys[i - 1] < keys[i]) {
                i++;
            }
            return Math.min(i, many);
        }

        private void mergeRuns(int low, int middle, int high) {
            int left = low;
            int right = middle;
            for (int to = low; to < high; to++) {
                if (right >= high || left < middle && keys[left] < keys[right]) {
                    spareKeys[to] = keys[left];
                    left++;
                } else {
                    spareKeys[to] = keys[right];
                    right++;
                }
            }
        }
    }

    /** Works out rows of patterns. */
    private static final class Rows {
        static final int DRAWS = 1000;
        static final int STAYS = 1;
        static final int GOES = 2;

        final Events events = new Events();
        int seed = 0;

        static long ceiling(long a, long b) {
            return b == 0 ? 0 : -Math.floorDiv(-a, b);
        }

        /** Lets the row of cycle c be all that lies in 'events'. */
        void workOut(Pattern p, long c) {
            events.top = 0;
            row(p, c);
        }

        /** Pushes the row of cycle c, begins counted from c on; the depth of patterns keeps this from going deep. */
        private void row(Pattern p, long c) {
            if (p.crowd == 0) {
                return;
            }
            Step s = p.step;
            switch (s.kind) {
                case Step.WORD: events.push(0, 1, s.word, 0, false); break;
                case Step.NUMBER: events.push(0, 1, 0, s.a, true); break;
                case Step.REST: break;
                case Step.SEQ: sequence(p, c); break;
                case Step.TURN: turn(p, c); break;
                case Step.POLY: poly(p, c); break;
                case Step.EUCLID: euclid(p, c); break;
                case Step.LAYER: layer(p, c); break;
                case Step.FAST: fast(p, c); break;
                case Step.SHIFT: shift(p, c, s.a, s.b); break;
                case Step.REV: reverse(p, c); break;
                case Step.EVERY: either(p, c, Math.floorMod(c, (long) s.a) == 0); break;
                case Step.WHEN: either(p, c, Math.floorMod(c, (long) s.a) >= s.b); break;
                case Step.ITER: shift(p, c, Math.floorMod(c, (long) s.a), s.a); break;
                case Step.PLY: ply(p, c); break;
                case Step.CHUNK: chunk(p, c); break;
                case Step.WITHIN: within(p, c, ceiling(s.a * p.grain, s.b), ceiling(s.c * p.grain, s.d)); break;
                case Step.ROT: rotate(p, c); break;
                case Step.DROP: case Step.KEEP: draws(p, c); break;
                case Step.SQUEEZE: squeeze(p, c); break;
                case Step.STRUCT: case Step.OP: meet(p, c, p.of[0], p.of[1]); break;
                case Step.MASK: meet(p, c, p.of[1], p.of[0]); break;
                default: break;
            }
        }

        private void sequence(Pattern p, long c) {
            Step s = p.step;
            long share = p.grain / Math.max(1, s.a);
            long ahead = 0;
            for (int i = 0; i < p.of.length; i++) {
                Pattern part = p.of[i];
                long weight = s.weights[i];
                long times = weight * (share / part.grain);
                int from = events.top;
                row(part, c);
                int to = events.top;
                for (int k = 1; k < s.repeats[i] && to > from; k++) {
                    events.pushAgain(from, to, times, (ahead + k * weight) * share);
                }
                for (int k = from; k < to; k++) {
                    events.begin[k] = events.begin[k] * times + ahead * share;
                    events.length[k] = events.length[k] * times;
                }
                ahead += weight * s.repeats[i];
            }
        }

        /** The part whose step has place v of all weights. */
        private static Pattern partAt(Pattern p, long v) {
            int low = 0;
            int high = p.of.length - 1;
            while (low < high) {
                int middle = (low + high) / 2;
                if (v < p.step.ends[middle]) {
                    high = middle;
                } else {
                    low = middle + 1;
                }
            }
            return p.of[low];
        }

        private void turn(Pattern p, long c) {
            long whole = Math.max(1, p.step.a);
            Pattern part = partAt(p, Math.floorMod(c, whole));
            int from = events.top;
            row(part, Math.floorDiv(c, whole));
            events.scale(from, p.grain / part.grain, 0);
        }

        private void poly(Pattern p, long c) {
            long whole = Math.max(1, p.step.a);
            long n = Math.max(1, p.step.b);
            long share = p.grain / n;
            for (long k = 0; k < n; k++) {
                long q = c * n + k;
                Pattern part = partAt(p, Math.floorMod(q, whole));
                int from = events.top;
                row(part, Math.floorDiv(q, whole));
                events.scale(from, share / part.grain, k * share);
            }
        }

        private void euclid(Pattern p, long c) {
            Step s = p.step;
            Pattern part = p.of[0];
            int n = Math.max(1, s.b);
            int from = events.top;
            int to = from;
            long first = NONE;
            for (int m = 0; m < n; m++) {
                if ((m + s.c) % n * s.a % n >= s.a) {
                    continue;
                }
                if (first < 0) {
                    first = m;
                    row(part, c);
                    to = events.top;
                } else {
                    events.pushAgain(from, to, 1, m * part.grain);
                }
            }
            for (int i = from; i < to; i++) {
                events.begin[i] += first * part.grain;
            }
        }

        private void layer(Pattern p, long c) {
            int from = events.top;
            for (int i = 0; i < p.of.length; i++) {
                int start = events.top;
                row(p.of[i], c);
                events.scale(start, p.grain / p.of[i].grain, 0);
            }
            events.sort(from);
        }

        private void fast(Pattern p, long c) {
            Pattern part = p.of[0];
            long a = Math.max(1, p.step.a);
            long b = Math.max(1, p.step.b);
            long last = Math.floorDiv((c + 1) * a - 1, b);
            for (long j = Math.floorDiv(c * a, b); j <= last; j++) {
                int from = events.top;
                row(part, j);
                events.scale(from, b, (j * b - c * a) * part.grain);
                events.choose(from, 0, p.grain, true);
            }
        }

        /** The row of its part made earlier by n / d of a cycle. */
        private void shift(Pattern p, long c, long n, long d) {
            Pattern part = p.of[0];
            long by = Math.max(1, d);
            long first = Math.floorDiv(n, by);
            long last = ceiling(n, by);
            for (long j = first; j <= last; j++) {
                int from = events.top;
                row(part, c + j);
                events.scale(from, p.grain / part.grain, j * p.grain - n * (p.grain / by));
                events.choose(from, 0, p.grain, true);
            }
        }

        private void reverse(Pattern p, long c) {
            int from = events.top;
            row(p.of[0], c);
            for (int i = from; i < events.top; i++) {
                long b = events.begin[i];
                long e = Math.min(p.grain, b + events.length[i]);
                events.begin[i] = p.grain - e;
                events.length[i] = e - b;
            }
            events.sort(from);
        }

        private void either(Pattern p, long c, boolean changed) {
            Pattern part = changed ? p.of[1] : p.of[0];
            int from = events.top;
            row(part, c);
            events.scale(from, p.grain / part.grain, 0);
        }

        private void chunk(Pattern p, long c) {
            long n = Math.max(1, p.step.a);
            long k = Math.floorMod(c, n);
            within(p, c, ceiling(k * p.grain, n), ceiling((k + 1) * p.grain, n));
        }

        private void within(Pattern p, long c, long low, long high) {
            int from = events.top;
            row(p.of[0], c);
            events.scale(from, p.grain / p.of[0].grain, 0);
            events.choose(from, low, high, false);
            int start = events.top;
            row(p.of[1], c);
            events.scale(start, p.grain / p.of[1].grain, 0);
            events.choose(start, low, high, true);
            events.sort(from);
        }

        private void ply(Pattern p, long c) {
            Pattern part = p.of[0];
            int n = p.step.a;
            int start = events.top;
            for (long j = c - part.reach; j <= c; j++) {
                int from = events.top;
                row(part, j);
                int to = events.top;
                for (int i = from; i < to; i++) {
                    plyOne(i, n, (j - c) * p.grain, p.grain);
                }
                events.remove(from, to);
            }
            events.sort(start);
        }

        /** Pushes those of the n parts of an event that begin in the cycle. */
        private void plyOne(int i, int n, long later, long grain) {
            long length = events.length[i];
            long begin = events.begin[i] * n + later;
            for (int k = 0; k < n; k++) {
                if (begin >= 0 && begin < grain) {
                    events.push(begin, length, events.word[i], events.number[i], events.numbered[i]);
                }
                begin += length;
            }
        }

        private void rotate(Pattern p, long c) {
            int from = events.top;
            row(p.of[0], c);
            events.rotateValues(from, p.step.a);
        }

        private void squeeze(Pattern p, long c) {
            Step s = p.step;
            int from = events.top;
            row(p.of[0], c);
            long times = p.spanUpper() * (p.grain / (p.spanLower() * p.of[0].grain));
            events.scale(from, times, s.a * (p.grain / Math.max(1, s.b)));
        }

        private void draws(Pattern p, long c) {
            int from = events.top;
            row(p.of[0], c);
            boolean keeps = p.step.kind == Step.KEEP;
            for (int i = from; i < events.top; i++) {
                boolean isBelow = draw(c, events.begin[i], p.grain, p.step.b) < p.step.a;
                events.mark[i] = isBelow == keeps ? STAYS : GOES;
            }
            events.chooseMarked(from, STAYS);
        }

        private int draw(long c, long begin, long grain, int besides) {
            long shared = Pattern.gcd(begin, grain);
            long x = begin / shared;
            long y = grain / shared;
            int v = (int) (seed + 9973 * c + 7919 * x + 104729 * y + besides);
            v ^= v >>> 15;
            v *= 668265263;
            v ^= v >>> 13;
            return (v & 0xFFFFF) % DRAWS;
        }

        /** The row of 'main', each event met with what 'other' sounds at its begin: in this row, else in rows before. */
        private void meet(Pattern p, long c, Pattern main, Pattern other) {
            int kind = p.step.kind;
            int from = events.top;
            row(main, c);
            for (int i = from; i < events.top; i++) {
                events.mark[i] = kind == Step.STRUCT && !events.isLoud(i) ? GOES : 0;
            }
            if (kind == Step.STRUCT) {
                events.chooseMarked(from, 0);
            }
            int to = events.top;
            int left = to - from;
            for (long j = c; j >= c - other.reach && left > 0; j--) {
                row(other, j);
                left -= meetRow(p.step, from, to, main.grain, other.grain, (j - c) * other.grain);
                events.top = to;
            }
            if (kind != Step.OP) {
                events.chooseMarked(from, STAYS);
            }
        }

        /** Meets the events that have met none yet with a row of the other, which lies behind them; answers how many did. */
        private int meetRow(Step s, int from, int to, long grain, long otherGrain, long later) {
            int met = 0;
            int begun = to;
            for (int i = from; i < to; i++) {
                if (events.mark[i] != 0) {
                    continue;
                }
                long time = events.begin[i] * otherGrain;
                while (begun < events.top && (events.begin[begun] + later) * grain <= time) {
                    begun++;
                }
                int k = begun - 1;
                while (k >= to && (events.begin[k] + events.length[k] + later) * grain <= time) {
                    k--;
                }
                if (k >= to) {
                    join(s, i, k);
                    met++;
                }
            }
            return met;
        }

        private void join(Step s, int i, int k) {
            events.mark[i] = s.kind == Step.MASK && !events.isLoud(k) ? GOES : STAYS;
            if (s.kind == Step.STRUCT) {
                events.word[i] = events.word[k];
                events.number[i] = events.number[k];
                events.numbered[i] = events.numbered[k];
            } else if (s.kind == Step.OP && s.a == '#') {
                overwrite(i, k);
            } else if (s.kind == Step.OP && events.numbered[i] && events.numbered[k]) {
                events.number[i] = reckon(s.a, events.number[i], events.number[k]);
            }
        }

        private void overwrite(int i, int k) {
            if (events.word[k] != 0) {
                events.word[i] = events.word[k];
            }
            if (events.numbered[k]) {
                events.number[i] = events.number[k];
                events.numbered[i] = true;
            }
        }

        private static int reckon(int op, int x, int y) {
            return op == '+' ? x + y : op == '-' ? x - y : x * y;
        }
    }

    /** Events that were asked or heard, the first 400, each with its own grain. */
    private static final class Kept {
        static final int MOST = 400;
        static final int LETTERS = 8;

        final int[] track = new int[MOST];
        final int[] cycle = new int[MOST];
        final long[] begin = new long[MOST];
        final long[] length = new long[MOST];
        final long[] grain = new long[MOST];
        final long[] word = new long[MOST];
        final int[] number = new int[MOST];
        final boolean[] numbered = new boolean[MOST];
        int count = 0;

        /** Merges a track's row into what stands from 'start' on: of one begin, it comes behind. */
        void merge(Events row, long rowGrain, int rowTrack, int rowCycle, int start) {
            int old = count - 1;
            int fresh = row.top - 1;
            for (int to = count + row.top - 1; to >= start && fresh >= 0; to--) {
                if (old >= start && begin[old] * rowGrain > row.begin[fresh] * grain[old]) {
                    move(old, to);
                    old--;
                } else {
                    take(row, fresh, to);
                    if (to < MOST) {
                        grain[to] = rowGrain;
                        track[to] = rowTrack;
                        cycle[to] = rowCycle;
                    }
                    fresh--;
                }
            }
            count = Math.min(MOST, count + row.top);
        }

        private void move(int from, int to) {
            if (to >= MOST) {
                return;
            }
            track[to] = track[from];
            cycle[to] = cycle[from];
            begin[to] = begin[from];
            length[to] = length[from];
            grain[to] = grain[from];
            word[to] = word[from];
            number[to] = number[from];
            numbered[to] = numbered[from];
        }

        private void take(Events row, int from, int to) {
            if (to >= MOST) {
                return;
            }
            begin[to] = row.begin[from];
            length[to] = row.length[from];
            word[to] = row.word[from];
            number[to] = row.number[from];
            numbered[to] = row.numbered[from];
        }

        /** 0 and 1: the begin within its cycle, 2 and 3: the length, in lowest terms. */
        int time(int k, int what) {
            long parts = what < 2 ? begin[k] : length[k];
            long shared = Pattern.gcd(parts, grain[k]);
            return (int) ((what % 2 == 0 ? parts : grain[k]) / shared);
        }

        static int lettersOf(long word) {
            int many = 0;
            while (many < LETTERS && (word >>> (8 * many) & 255) != 0) {
                many++;
            }
            return many;
        }

        int letterAt(int k, int i) {
            if (k < 0 || k >= count || i < 0 || i >= lettersOf(word[k])) {
                return NONE;
            }
            return (int) (word[k] >>> (8 * i) & 255);
        }
    }
}
