/** A plain house for music: scores as texts, judged, beamed, laid on pages, harmonised and sounded. */
public final class PlainMusic {
    public static final int BAD = -1;
    public static final int NO = -2;
    public static final int FULL = -3;
    public static final int LARGE = -4;

    private static final int TAPE_MOST = 2000;
    private static final int FED = 20;
    private static final int VOICES_MOST = 4;
    private static final int EVENTS_MOST = 300;
    private static final int LINES_MOST = 100;
    private static final int LINE_MOST = 8;
    private static final int RULES_MOST = 24;
    private static final int ROW_MOST = 12;
    private static final int NAMES_MOST = 16;
    private static final long NO_EVENT = 10000L;
    private static final int[] NATURALS = {0, 2, 4, 5, 7, 9, 11};
    private static final int[] RATIO_TOPS = {1, 16, 9, 6, 5, 4, 45, 3, 8, 5, 9, 15};
    private static final int[] RATIO_BOTTOMS = {1, 15, 8, 5, 4, 3, 32, 2, 5, 3, 5, 8};

    private final int[] tape;
    private int taped;
    private final Reader reader;
    private Score current;
    private int faultPlace;
    private final Judge judge;
    private final Beams beams;
    private final Page page;
    private final Seconds seconds;
    private final Trees trees;
    private final Pairing pairing;

    public PlainMusic() {
        tape = new int[TAPE_MOST];
        taped = 0;
        reader = new Reader();
        current = new Score();
        faultPlace = NO;
        judge = new Judge();
        beams = new Beams();
        page = new Page();
        seconds = new Seconds();
        trees = new Trees();
        pairing = new Pairing();
    }

    public int feed(int a, int b, int c, int d, int e) {
        if (taped + FED > TAPE_MOST) {
            return FULL;
        }
        putBytes(a);
        putBytes(b);
        putBytes(c);
        putBytes(d);
        putBytes(e);
        return taped;
    }

    private void putBytes(int four) {
        for (int shift = 24; shift >= 0; shift -= 8) {
            if (taped < tape.length) {
                tape[taped] = (four >>> shift) & 255;
                taped++;
            }
        }
    }

    public int cut(int n) {
        if (n < 0 || n > taped) {
            return BAD;
        }
        taped -= n;
        return taped;
    }

    public int score() {
        int fault = reader.read(tape, taped);
        taped = 0;
        if (fault != 0) {
            faultPlace = reader.faultPlace;
            return -10 - fault;
        }
        faultPlace = NO;
        current = reader.swap(current);
        forgetFindings();
        return current.allEvents();
    }

    private void forgetFindings() {
        judge.forget();
        beams.forget();
        page.forget();
        seconds.forget();
        trees.forget();
        pairing.forget();
    }

    public int place() {
        return faultPlace;
    }

    public int told(int what) {
        switch (what) {
            case 0:
                return current.voiceCount;
            case 1:
                return current.lineLength;
            case 2:
                return current.ruleCount;
            case 3:
                return current.rowLength;
            case 4:
                return current.mostBars();
            case 5:
                return current.timeTop;
            case 6:
                return current.timeBottom;
            default:
                return BAD;
        }
    }

    public int count(int v, int what) {
        Voice voice = current.voiceAt(v);
        if (voice == null) {
            return BAD;
        }
        if (what == 0) {
            return voice.events;
        }
        return what == 1 ? voice.bars : BAD;
    }

    public long event(int v, int i, int what) {
        Voice voice = current.voiceAt(v);
        if (voice == null || i < 0 || i >= voice.events) {
            return NO_EVENT;
        }
        if (what >= 0 && what <= 3) {
            return voice.timeOf(i, what);
        }
        if (what >= 4 && what <= 8) {
            return voice.writingOf(i, what);
        }
        if (what >= 10 && what <= 13 && what - 10 < voice.pitchesOf(i)) {
            return voice.keyOf(i, what - 10);
        }
        if (what >= 20 && what <= 23 && what - 20 < voice.pitchesOf(i)) {
            return voice.stepOf(i, what - 20);
        }
        return NO_EVENT;
    }

    public int judge() {
        return judge.hear(current);
    }

    public int fault(int k, int what) {
        return judge.detailOf(k, what);
    }

    public int beam(int v, int b) {
        Voice voice = current.voiceAt(v);
        if (voice == null || b < 0 || b >= voice.bars) {
            return BAD;
        }
        return beams.find(voice, b, current.timeBottom);
    }

    public int group(int i) {
        return beams.eventsIn(i);
    }

    public int breaks(int w) {
        if (w < 1 || w > 1000) {
            return BAD;
        }
        if (current.voiceCount == 0) {
            return NO;
        }
        return page.find(current, w);
    }

    public int line(int i) {
        return page.barsIn(i);
    }

    public int width(int b) {
        if (b < 0 || b >= current.mostBars()) {
            return BAD;
        }
        return page.widthOf(current, b);
    }

    public int lines(int low, int high, int rules) {
        if (low < 0 || high > 120 || low > high || rules < 0 || rules > 511) {
            return BAD;
        }
        if (current.lineLength == 0) {
            return NO;
        }
        return seconds.find(current, low, high, rules);
    }

    public int second(int k, int i) {
        return seconds.keyIn(k, i);
    }

    public int readings() {
        if (current.ruleCount == 0 || current.rowLength == 0) {
            return NO;
        }
        return trees.find(current);
    }

    public int tree(int k, int i) {
        return trees.ruleIn(current, k, i);
    }

    public int beside(int v, int w) {
        Voice first = current.voiceAt(v);
        Voice other = current.voiceAt(w);
        if (first == null || other == null) {
            return BAD;
        }
        return pairing.find(first, other);
    }

    public int partner(int i) {
        return pairing.partnerOf(i);
    }

    public int ways() {
        return pairing.leastWays;
    }

    public double sample(int n, int rate) {
        double sum = 0.0;
        if (n < 0 || rate < 1 || rate > 10000) {
            return sum;
        }
        for (int v = 0; v < current.voiceCount; v++) {
            Voice voice = current.voiceAt(v);
            if (voice != null) {
                sum = addVoice(sum, voice, n, rate);
            }
        }
        return sum;
    }

    private static double addVoice(double sum, Voice voice, int n, int rate) {
        double all = sum;
        for (int e = 0; e < voice.events; e++) {
            if (voice.isReached(e, n, rate) && !voice.isReached(e + 1, n, rate)) {
                all = addEvent(all, voice, e, n, rate);
            }
        }
        return all;
    }

    private static double addEvent(double sum, Voice voice, int e, int n, int rate) {
        long top = n * voice.startBottom[e] - 2 * voice.startTop[e] * rate;
        long bottom = rate * voice.startBottom[e];
        double length = divided(2 * voice.lengthTop[e], voice.lengthBottom[e]);
        double fade = 1.0 - divided(top, bottom) / length;
        double all = sum;
        for (int p = 0; p < voice.pitchesOf(e); p++) {
            all = all + 0.25 * waveAt(voice.keyOf(e, p), top, bottom) * fade;
        }
        return all;
    }

    /** The wave of a KEY at so many seconds; only the remainder is multiplied, or a long could not hold it. */
    private static double waveAt(int key, long secondsTop, long secondsBottom) {
        int within = Math.floorMod(key, 12);
        int octave = Math.min(Math.max(Math.floorDiv(key, 12), -1), 9);
        long pitchTop = (8L << (octave + 1)) * RATIO_TOPS[within];
        long whole = secondsBottom * RATIO_BOTTOMS[within];
        long beyond = whole > 0 ? secondsTop % whole * pitchTop % whole : 0;
        double x = divided(beyond, whole);
        if (x < 0.25) {
            return 4.0 * x;
        }
        return x < 0.75 ? 2.0 - 4.0 * x : 4.0 * x - 4.0;
    }

    /** A fraction made as short as can be, then divided as doubles. */
    private static double divided(long top, long bottom) {
        if (bottom <= 0) {
            return 0.0;
        }
        long shared = greatestDivisor(top, bottom);
        return (double) (top / shared) / (double) (bottom / shared);
    }

    /** Of two numbers that are not below 0; never below 1, so that it may divide. */
    private static long greatestDivisor(long a, long b) {
        long greater = a;
        long lesser = b;
        for (int turn = 0; turn < 200 && lesser != 0; turn++) {
            long rest = greater % lesser;
            greater = lesser;
            lesser = rest;
        }
        return greater < 1 ? 1 : greater;
    }

    /**
     * Whether a / b is less than, like or more than c / d, none below 0.
     * By whole parts, not by products: those of two differences of times are too large for a long.
     */
    private static int compareFractions(long a, long b, long c, long d) {
        long top = a;
        long bottom = b;
        long otherTop = c;
        long otherBottom = d;
        for (int turn = 0; turn < 200 && bottom > 0 && otherBottom > 0; turn++) {
            long whole = top / bottom;
            long otherWhole = otherTop / otherBottom;
            long rest = top % bottom;
            long otherRest = otherTop % otherBottom;
            if (whole != otherWhole) {
                return Long.compare(whole, otherWhole);
            }
            if (rest == 0 || otherRest == 0) {
                return Long.compare(rest, otherRest);
            }
            top = otherBottom;
            otherTop = bottom;
            bottom = otherRest;
            otherBottom = rest;
        }
        return 0;
    }

    /** The TOKENS of a text, cut all at once and then gone through. A SIGN's kind is its own byte. */
    private static final class Tokens {
        static final int END = 256;
        static final int WRONG = 257;
        static final int PITCH = 258;
        static final int NUMBER = 259;
        static final int NAME = 260;
        static final int TIME = 261;
        static final int VOICE = 262;
        static final int LINE = 263;
        static final int RULE = 264;
        static final int ROW = 265;
        static final int REST = 266;
        private static final String SIGNS = ";:/|[]{}<>=.~";
        private static final int NAME_LONGEST = 8;
        private static final int NUMBER_LONGEST = 4;

        private final int[] kinds = new int[TAPE_MOST + 1];
        private final int[] places = new int[TAPE_MOST + 1];
        private final long[] values = new long[TAPE_MOST + 1];
        private final int[] steps = new int[TAPE_MOST + 1];
        private int size;
        private int now;
        private int[] text = new int[0];
        private int length;
        private int at;
        int kind;
        int place;
        /** A NUMBER, a PITCH's KEY, a NAME's letters. */
        long value;
        int step;

        void cutAll(int[] bytes, int taken) {
            text = bytes;
            length = Math.min(taken, Math.min(bytes.length, TAPE_MOST));
            at = 0;
            size = 0;
            boolean more = true;
            for (int turn = 0; turn <= TAPE_MOST && more; turn++) {
                more = cutOne();
            }
            now = -1;
            next();
        }

        /** Behind the last one, the END or a WRONG one, it stays there. */
        void next() {
            if (now + 1 < size && now + 1 < kinds.length) {
                now++;
                kind = kinds[now];
                place = places[now];
                value = values[now];
                step = steps[now];
            }
        }

        /** Whether there may be more behind it. */
        private boolean cutOne() {
            skipBlanks();
            int begin = at;
            int first = byteAt(at);
            if (first < 0) {
                kind = END;
            } else if (first >= 'A' && first <= 'G') {
                cutPitch(first);
            } else if (isSmall(first)) {
                cutName();
            } else if (isDigit(first)) {
                cutNumber();
            } else {
                kind = SIGNS.indexOf((char) first) >= 0 ? first : WRONG;
                at++;
            }
            if (size < kinds.length) {
                kinds[size] = kind;
                places[size] = begin;
                values[size] = value;
                steps[size] = step;
                size++;
            }
            return kind != END && kind != WRONG;
        }

        private int byteAt(int i) {
            return i >= 0 && i < length && i < text.length ? text[i] : -1;
        }

        private void skipBlanks() {
            boolean remark = false;
            for (; at < length; at++) {
                int read = byteAt(at);
                if (read == 10) {
                    remark = false;
                } else if (read == '%') {
                    remark = true;
                } else if (!remark && read != 9 && read != 13 && read != 32) {
                    return;
                }
            }
        }

        private void cutPitch(int letter) {
            int after = at + 1;
            int marks = 0;
            int mark = byteAt(after);
            if (mark == '#' || mark == 'b') {
                marks = byteAt(after + 1) == mark ? 2 : 1;
                after += marks;
            }
            int digit = byteAt(after) - '0';
            if (digit < 0 || digit > 8) {
                kind = WRONG;
                return;
            }
            int letterStep = Math.floorMod(letter - 'C', NATURALS.length);
            value = 12 * digit + NATURALS[letterStep] + (mark == '#' ? marks : -marks);
            step = 7 * digit + letterStep;
            at = after + 1;
            kind = PITCH;
        }

        private void cutName() {
            int begin = at;
            long letters = 0;
            while (at < length && isSmall(byteAt(at))) {
                letters = letters << 8 | byteAt(at);
                at++;
            }
            value = letters;
            kind = at - begin > NAME_LONGEST ? WRONG : kindOfName(letters);
        }

        private static int kindOfName(long letters) {
            if (letters == lettersOf("time")) {
                return TIME;
            }
            if (letters == lettersOf("voice")) {
                return VOICE;
            }
            if (letters == lettersOf("line")) {
                return LINE;
            }
            if (letters == lettersOf("rule")) {
                return RULE;
            }
            if (letters == lettersOf("row")) {
                return ROW;
            }
            return letters == lettersOf("r") ? REST : NAME;
        }

        /** Eight letters, the most of a NAME, fill a long: like longs are like NAMES. */
        private static long lettersOf(String word) {
            long letters = 0;
            for (int i = 0; i < word.length(); i++) {
                letters = letters << 8 | word.charAt(i);
            }
            return letters;
        }

        private void cutNumber() {
            int begin = at;
            int number = 0;
            while (at < length && isDigit(byteAt(at))) {
                number = number * 10 + byteAt(at) - '0';
                at++;
            }
            value = number;
            kind = at - begin > NUMBER_LONGEST ? WRONG : NUMBER;
        }

        private static boolean isSmall(int c) {
            return c >= 'a' && c <= 'z';
        }

        private static boolean isDigit(int c) {
            return c >= '0' && c <= '9';
        }
    }

    /** Reads a text into a score, up to its first FAULT. */
    private static final class Reader {
        private static final int DEEPEST = 6;
        private static final int CHORD_MOST = 4;
        private static final int DOTS_MOST = 3;

        private final Tokens tokens = new Tokens();
        private final Parts parts = new Parts();
        private final long[] names = new long[NAMES_MOST];
        private int nameCount;
        private int soundsRead;
        private Score target = new Score();
        private int fault;
        int faultPlace;

        /** 0, or the FAULT. */
        int read(int[] text, int length) {
            target.clear();
            nameCount = 0;
            fault = 0;
            tokens.cutAll(text, length);
            boolean more = true;
            for (int item = 0; item < TAPE_MOST && more; item++) {
                switch (tokens.kind) {
                    case Tokens.TIME:
                        more = readTime();
                        break;
                    case Tokens.VOICE:
                        more = readVoice();
                        break;
                    case Tokens.LINE:
                        more = readLine();
                        break;
                    case Tokens.RULE:
                        more = readRule();
                        break;
                    case Tokens.ROW:
                        more = readRow();
                        break;
                    default:
                        more = tokens.kind != Tokens.END && refuse();
                        break;
                }
            }
            return fault;
        }

        /** Hands out what was read, and takes another score to read into. */
        Score swap(Score other) {
            Score read = target;
            target = other;
            return read;
        }

        private boolean blame(int number, int place) {
            fault = number;
            faultPlace = place;
            return false;
        }

        private boolean refuse() {
            fault = tokens.kind == Tokens.WRONG ? 1 : 2;
            faultPlace = tokens.place;
            return false;
        }

        private boolean take(int kind) {
            if (tokens.kind != kind) {
                return refuse();
            }
            tokens.next();
            return true;
        }

        /** A NUMBER 1 .. most, a power of two where asked; 0 when it is a FAULT. */
        private int readNumber(int most, boolean power) {
            if (tokens.kind != Tokens.NUMBER) {
                refuse();
                return 0;
            }
            int number = (int) tokens.value;
            if (number < 1 || number > most || power && Integer.bitCount(number) != 1) {
                blame(5, tokens.place);
                return 0;
            }
            tokens.next();
            return number;
        }

        private boolean readTime() {
            if (target.timed) {
                return blame(4, tokens.place);
            }
            tokens.next();
            int top = readNumber(32, false);
            if (top == 0 || !take('/')) {
                return false;
            }
            int bottom = readNumber(32, true);
            if (bottom == 0) {
                return false;
            }
            target.setTime(top, bottom);
            return take(';');
        }

        private boolean readLine() {
            if (target.lineLength > 0) {
                return blame(4, tokens.place);
            }
            tokens.next();
            if (tokens.kind != Tokens.PITCH) {
                return refuse();
            }
            for (int i = 0; i <= LINE_MOST && tokens.kind == Tokens.PITCH; i++) {
                if (!target.addToLine((int) tokens.value)) {
                    return blame(3, tokens.place);
                }
                tokens.next();
            }
            return take(';');
        }

        private boolean readRule() {
            if (target.ruleCount >= RULES_MOST) {
                return blame(3, tokens.place);
            }
            tokens.next();
            int name = readName();
            if (name < 0 || !take('=')) {
                return false;
            }
            int left = readName();
            if (left < 0) {
                return false;
            }
            int right = -1;
            if (tokens.kind == Tokens.NAME) {
                right = readName();
                if (right < 0) {
                    return false;
                }
            }
            target.addRule(name, left, right);
            return take(';');
        }

        private boolean readRow() {
            if (target.rowLength > 0) {
                return blame(4, tokens.place);
            }
            tokens.next();
            if (tokens.kind != Tokens.NAME) {
                return refuse();
            }
            for (int i = 0; i <= ROW_MOST && tokens.kind == Tokens.NAME; i++) {
                if (target.rowLength >= ROW_MOST) {
                    return blame(3, tokens.place);
                }
                int name = readName();
                if (name < 0) {
                    return false;
                }
                target.addToRow(name);
            }
            return take(';');
        }

        /** The number of a NAME, by when it was first read; -1 when it is a FAULT. */
        private int readName() {
            if (tokens.kind != Tokens.NAME) {
                refuse();
                return -1;
            }
            int known = 0;
            while (known < nameCount && known < names.length && names[known] != tokens.value) {
                known++;
            }
            if (known >= names.length) {
                blame(3, tokens.place);
                return -1;
            }
            if (known == nameCount) {
                names[known] = tokens.value;
                nameCount++;
            }
            tokens.next();
            return known;
        }

        private boolean readVoice() {
            int word = tokens.place;
            Voice voice = target.newVoice();
            if (voice == null) {
                return blame(3, word);
            }
            tokens.next();
            parts.clear();
            soundsRead = 0;
            boolean more = true;
            for (int turn = 0; turn <= TAPE_MOST && more; turn++) {
                if (beginsEvent()) {
                    more = isShallow() && readEvent(voice);
                } else {
                    more = tokens.kind != ';' && readPart();
                }
            }
            if (fault != 0) {
                return false;
            }
            if (tokens.kind != ';' || parts.depth > 0) {
                return refuse();
            }
            int found = parts.walkInto(voice);
            if (found != 0) {
                return blame(found, word);
            }
            tokens.next();
            return true;
        }

        private boolean beginsEvent() {
            return tokens.kind == Tokens.PITCH || tokens.kind == Tokens.REST || tokens.kind == '<';
        }

        /** Whether what begins here does not stand within too many others. */
        private boolean isShallow() {
            return parts.depth <= DEEPEST || blame(3, tokens.place);
        }

        /** A part that is no event, or what goes on with or ends one. */
        private boolean readPart() {
            int kind = tokens.kind;
            if (kind == ':' || kind == ']' || kind == '}') {
                if (!parts.addMark(kind)) {
                    return refuse();
                }
                tokens.next();
                return true;
            }
            if (kind != '|' && kind != '[' && kind != '{') {
                return refuse();
            }
            if (!isShallow()) {
                return false;
            }
            if (kind == '{') {
                return readStretch();
            }
            parts.add(kind, 0, 0);
            tokens.next();
            return true;
        }

        private boolean readStretch() {
            tokens.next();
            int parted = readNumber(16, false);
            if (parted == 0 || !take('/')) {
                return false;
            }
            int per = readNumber(16, false);
            if (per == 0 || !take(':')) {
                return false;
            }
            parts.add('{', parted, per);
            return true;
        }

        private boolean readEvent(Voice voice) {
            boolean rest = tokens.kind == Tokens.REST;
            if (!readSound(voice)) {
                return false;
            }
            int number = readNumber(64, true);
            if (number == 0) {
                return false;
            }
            int dots = 0;
            for (int i = 0; i <= DOTS_MOST && tokens.kind == '.'; i++) {
                if (dots == DOTS_MOST) {
                    return blame(3, tokens.place);
                }
                dots++;
                tokens.next();
            }
            boolean tied = tokens.kind == '~';
            if (tied && rest) {
                return blame(7, tokens.place);
            }
            if (tied) {
                tokens.next();
            }
            parts.add(Parts.EVENT, voice.endSound(number, dots, tied), 0);
            return true;
        }

        private boolean readSound(Voice voice) {
            if (tokens.kind == Tokens.REST) {
                return admit();
            }
            if (tokens.kind == Tokens.PITCH) {
                voice.addPitch((int) tokens.value, tokens.step);
                return admit();
            }
            tokens.next();
            if (tokens.kind != Tokens.PITCH) {
                return refuse();
            }
            int former = Integer.MIN_VALUE;
            for (int i = 0; i <= CHORD_MOST && tokens.kind == Tokens.PITCH; i++) {
                int place = tokens.place;
                int key = (int) tokens.value;
                if (i == CHORD_MOST) {
                    return blame(3, place);
                }
                voice.addPitch(key, tokens.step);
                if (!admit()) {
                    return false;
                }
                if (key <= former) {
                    return blame(4, place);
                }
                former = key;
            }
            return take('>');
        }

        /** Takes a PITCH or an r, unless it is one too many for the voice. */
        private boolean admit() {
            if (soundsRead >= EVENTS_MOST) {
                return blame(3, tokens.place);
            }
            soundsRead++;
            tokens.next();
            return true;
        }
    }

    /**
     * The parts of one voice as they are written, brackets among them in the order of the text,
     * and THE WALK through them. Each [ and : is linked to the next : or ] of its own, each { to its }.
     */
    private static final class Parts {
        static final int EVENT = 256;
        private static final int OPEN_MOST = 7;
        private static final int STEPS_MOST = 2000;

        private final int[] kinds = new int[TAPE_MOST];
        private final int[] links = new int[TAPE_MOST];
        private final int[] values = new int[TAPE_MOST];
        private final int[] others = new int[TAPE_MOST];
        private int size;
        private final int[] opened = new int[OPEN_MOST];
        private final int[] lastMarks = new int[OPEN_MOST];
        int depth;
        private int steps;
        private int eventsMet;
        private int linesMet;
        private boolean timely;

        void clear() {
            size = 0;
            depth = 0;
        }

        void add(int kind, int value, int other) {
            if (size >= kinds.length) {
                return;
            }
            if ((kind == '[' || kind == '{') && depth < OPEN_MOST) {
                opened[depth] = size;
                lastMarks[depth] = size;
                depth++;
            }
            kinds[size] = kind;
            values[size] = value;
            others[size] = other;
            links[size] = size;
            size++;
        }

        /** A : or ] of the innermost [, or the } of the innermost {; false when it is none of these. */
        boolean addMark(int kind) {
            if (depth < 1 || depth > OPEN_MOST || size >= kinds.length) {
                return false;
            }
            int inner = depth - 1;
            if (kinds[opened[inner]] != (kind == '}' ? '{' : '[')) {
                return false;
            }
            links[lastMarks[inner]] = size;
            lastMarks[inner] = size;
            add(kind, 0, 0);
            if (kind != ':') {
                depth--;
            }
            return true;
        }

        /** 0, or the FAULT of the WALK. */
        int walkInto(Voice voice) {
            voice.beginWalk();
            steps = 0;
            eventsMet = 0;
            linesMet = 0;
            timely = true;
            walkThrough(voice, 0, size, 0, 1, 1);
            voice.endWalk();
            if (steps > STEPS_MOST || eventsMet > EVENTS_MOST || linesMet > LINES_MOST) {
                return 3;
            }
            return timely ? 0 : 6;
        }

        /** All lengths are top bottom-ths of what is written. */
        private void walkThrough(Voice voice, int from, int to, int level, long top, long bottom) {
            if (level > OPEN_MOST) {
                return;
            }
            int i = from;
            while (i < to && i < size && steps <= STEPS_MOST) {
                steps++;
                int kind = kinds[i];
                if (kind == '[') {
                    i = Math.max(i, walkRepeat(voice, i, level, top, bottom));
                } else if (kind == '{') {
                    walkThrough(voice, i + 1, links[i], level + 1, top * others[i], bottom * values[i]);
                    i = Math.max(i, links[i]);
                } else if (kind == '|') {
                    meetLine(voice);
                } else {
                    eventsMet++;
                    if (eventsMet <= EVENTS_MOST && timely) {
                        timely = voice.addEvent(values[i], top, bottom);
                    }
                }
                i++;
            }
        }

        /** Where the ] stands. */
        private int walkRepeat(Voice voice, int open, int level, long top, long bottom) {
            int first = links[open];
            if (kinds[first] != ':') {
                steps++;
                walkThrough(voice, open + 1, first, level + 1, top, bottom);
                steps++;
                walkThrough(voice, open + 1, first, level + 1, top, bottom);
                return first;
            }
            int mark = first;
            for (int turn = 0; turn < TAPE_MOST && kinds[mark] == ':'; turn++) {
                steps++;
                walkThrough(voice, open + 1, first, level + 1, top, bottom);
                walkThrough(voice, mark + 1, links[mark], level + 1, top, bottom);
                mark = links[mark];
            }
            return mark;
        }

        private void meetLine(Voice voice) {
            linesMet++;
            if (linesMet <= LINES_MOST) {
                voice.addBar();
            }
        }
    }

    /** One voice: its sounds as written, and the EVENTS and BARS that its WALK comes to. */
    private static final class Voice {
        private static final long LATEST = 1000;
        private static final long FINEST = 1000000;

        private final int[] pitchKeys = new int[EVENTS_MOST];
        private final int[] pitchSteps = new int[EVENTS_MOST];
        private int pitches;
        /** The PITCHES ahead of a sound; behind the last sound stand all. */
        private final int[] soundPitches = new int[EVENTS_MOST + 1];
        private final int[] soundNumbers = new int[EVENTS_MOST];
        private final int[] soundDots = new int[EVENTS_MOST];
        private final boolean[] soundTied = new boolean[EVENTS_MOST];
        private int sounds;
        private final int[] eventSounds = new int[EVENTS_MOST];
        private final int[] eventBars = new int[EVENTS_MOST];
        /** Behind the last EVENT stands the end of the voice. */
        final long[] startTop = new long[EVENTS_MOST + 1];
        final long[] startBottom = new long[EVENTS_MOST + 1];
        final long[] lengthTop = new long[EVENTS_MOST];
        final long[] lengthBottom = new long[EVENTS_MOST];
        int events;
        /** The EVENTS ahead of a BAR; behind the last BAR stand all. */
        final int[] barEvents = new int[LINES_MOST + 2];
        int bars;

        void clear() {
            pitches = 0;
            sounds = 0;
            soundPitches[0] = 0;
        }

        void addPitch(int key, int step) {
            if (pitches < pitchKeys.length) {
                pitchKeys[pitches] = key;
                pitchSteps[pitches] = step;
                pitches++;
            }
        }

        /** A sound of the PITCHES added since the one before; its number. */
        int endSound(int number, int dots, boolean tied) {
            if (sounds >= soundNumbers.length) {
                return 0;
            }
            soundNumbers[sounds] = number;
            soundDots[sounds] = dots;
            soundTied[sounds] = tied;
            sounds++;
            soundPitches[sounds] = pitches;
            return sounds - 1;
        }

        void beginWalk() {
            events = 0;
            startTop[0] = 0;
            startBottom[0] = 1;
            barEvents[0] = 0;
            bars = 1;
        }

        void addBar() {
            if (bars < barEvents.length) {
                barEvents[bars] = events;
                bars++;
            }
        }

        void endWalk() {
            if (bars < barEvents.length) {
                barEvents[bars] = events;
            }
        }

        /** False when its LENGTH or its end is beyond what is told. */
        boolean addEvent(int sound, long top, long bottom) {
            if (events >= EVENTS_MOST || sound < 0 || sound >= EVENTS_MOST) {
                return false;
            }
            int dots = soundDots[sound];
            long longTop = top * ((2L << dots) - 1);
            long longBottom = bottom * soundNumbers[sound] * (1L << dots);
            long shared = greatestDivisor(longTop, longBottom);
            eventSounds[events] = sound;
            eventBars[events] = bars - 1;
            lengthTop[events] = longTop / shared;
            lengthBottom[events] = longBottom / shared;
            if (!isTold(lengthTop[events], lengthBottom[events])) {
                return false;
            }
            long endTop = startTop[events] * lengthBottom[events] + lengthTop[events] * startBottom[events];
            long endBottom = startBottom[events] * lengthBottom[events];
            long endShared = greatestDivisor(endTop, endBottom);
            events++;
            startTop[events] = endTop / endShared;
            startBottom[events] = endBottom / endShared;
            return isTold(startTop[events], startBottom[events]);
        }

        private static boolean isTold(long top, long bottom) {
            return bottom <= FINEST && top <= LATEST * bottom;
        }

        long timeOf(int e, int what) {
            switch (what) {
                case 0:
                    return startTop[e];
                case 1:
                    return startBottom[e];
                case 2:
                    return lengthTop[e];
                default:
                    return lengthBottom[e];
            }
        }

        int writingOf(int e, int what) {
            switch (what) {
                case 4:
                    return pitchesOf(e);
                case 5:
                    return isTied(e) ? 1 : 0;
                case 6:
                    return eventBars[e];
                case 7:
                    return numberOf(e);
                default:
                    return soundDots[eventSounds[e]];
            }
        }

        int pitchesOf(int e) {
            int sound = eventSounds[e];
            return soundPitches[sound + 1] - soundPitches[sound];
        }

        boolean isRest(int e) {
            return pitchesOf(e) == 0;
        }

        int keyOf(int e, int p) {
            int at = soundPitches[eventSounds[e]] + p;
            return at >= 0 && at < pitchKeys.length ? pitchKeys[at] : 0;
        }

        int stepOf(int e, int p) {
            int at = soundPitches[eventSounds[e]] + p;
            return at >= 0 && at < pitchSteps.length ? pitchSteps[at] : 0;
        }

        int lowestKey(int e) {
            return keyOf(e, 0);
        }

        int highestKey(int e) {
            return keyOf(e, pitchesOf(e) - 1);
        }

        boolean hasKey(int e, int key) {
            for (int p = 0; p < pitchesOf(e); p++) {
                if (keyOf(e, p) == key) {
                    return true;
                }
            }
            return false;
        }

        int numberOf(int e) {
            return soundNumbers[eventSounds[e]];
        }

        boolean isTied(int e) {
            return soundTied[eventSounds[e]];
        }

        boolean isShort(int e) {
            return !isRest(e) && numberOf(e) >= 8;
        }

        /** How many # and b its PITCHES have. */
        int signsOf(int e) {
            int signs = 0;
            for (int p = 0; p < pitchesOf(e); p++) {
                int step = stepOf(e, p);
                int plain = 12 * Math.floorDiv(step, 7) + NATURALS[Math.floorMod(step, 7)];
                signs += Math.abs(keyOf(e, p) - plain);
            }
            return signs;
        }

        /** Whether the time of SAMPLE n has come to the START of EVENT e, or to the voice's end. */
        boolean isReached(int e, long n, long rate) {
            return n * startBottom[e] >= 2 * startTop[e] * rate;
        }

        /** The time from the beginning of BAR b to the START of EVENT e times the bottom below, not shortened. */
        long sinceBarTop(int b, int e) {
            int first = barEvents[b];
            return startTop[e] * startBottom[first] - startTop[first] * startBottom[e];
        }

        long sinceBarBottom(int b, int e) {
            return startBottom[e] * startBottom[barEvents[b]];
        }

        /** How the length of BAR b compares with top / bottom. */
        int compareBar(int b, int top, int bottom) {
            int end = barEvents[b + 1];
            return Long.compare(sinceBarTop(b, end) * bottom, sinceBarBottom(b, end) * top);
        }
    }

    /** What a text without FAULT tells. */
    private static final class Score {
        private final Voice[] voices = new Voice[VOICES_MOST];
        int voiceCount;
        int timeTop = 4;
        int timeBottom = 4;
        boolean timed;
        final int[] lineKeys = new int[LINE_MOST];
        int lineLength;
        final int[] ruleNames = new int[RULES_MOST];
        final int[] ruleLefts = new int[RULES_MOST];
        /** -1 where a rule has one NAME alone. */
        final int[] ruleRights = new int[RULES_MOST];
        int ruleCount;
        final int[] row = new int[ROW_MOST];
        int rowLength;

        Score() {
            for (int v = 0; v < voices.length; v++) {
                voices[v] = new Voice();
            }
        }

        void clear() {
            voiceCount = 0;
            timeTop = 4;
            timeBottom = 4;
            timed = false;
            lineLength = 0;
            ruleCount = 0;
            rowLength = 0;
        }

        void setTime(int top, int bottom) {
            timed = true;
            timeTop = top;
            timeBottom = bottom;
        }

        /** Null when there are four already. */
        Voice newVoice() {
            if (voiceCount >= voices.length) {
                return null;
            }
            voiceCount++;
            Voice voice = voices[voiceCount - 1];
            if (voice != null) {
                voice.clear();
            }
            return voice;
        }

        /** Null when there is none such. */
        Voice voiceAt(int v) {
            return v >= 0 && v < voiceCount && v < voices.length ? voices[v] : null;
        }

        boolean addToLine(int key) {
            if (lineLength >= lineKeys.length) {
                return false;
            }
            lineKeys[lineLength] = key;
            lineLength++;
            return true;
        }

        void addRule(int name, int left, int right) {
            if (ruleCount < ruleNames.length) {
                ruleNames[ruleCount] = name;
                ruleLefts[ruleCount] = left;
                ruleRights[ruleCount] = right;
                ruleCount++;
            }
        }

        void addToRow(int name) {
            if (rowLength < row.length) {
                row[rowLength] = name;
                rowLength++;
            }
        }

        int allEvents() {
            int all = 0;
            for (int v = 0; v < voiceCount; v++) {
                Voice voice = voiceAt(v);
                all += voice == null ? 0 : voice.events;
            }
            return all;
        }

        int mostBars() {
            int most = 0;
            for (int v = 0; v < voiceCount; v++) {
                Voice voice = voiceAt(v);
                most = Math.max(most, voice == null ? 0 : voice.bars);
            }
            return most;
        }
    }

    /** Finds the faults of a score, in their order; each is packed in one int. */
    private static final class Judge {
        /** A BAR, a ~ and a leap each for every voice's own, and two for each EVENT and voice of a lesser number. */
        private static final int MOST = 4 * (LINES_MOST + 1 + 2 * EVENTS_MOST) + 6 * 2 * EVENTS_MOST;

        private final int[] faults = new int[MOST];
        private int size;
        /** For each other voice the EVENT that goes on, or begins, at the START of the one judged. */
        private final int[] sounding = new int[VOICES_MOST];

        void forget() {
            size = 0;
        }

        int hear(Score score) {
            size = 0;
            for (int v = 0; v < score.voiceCount; v++) {
                Voice voice = score.voiceAt(v);
                if (voice != null) {
                    hearVoice(score, voice, v);
                }
            }
            return size;
        }

        int detailOf(int k, int what) {
            if (k < 0 || k >= size || k >= faults.length) {
                return BAD;
            }
            int packed = faults[k];
            switch (what) {
                case 0:
                    return packed & 7;
                case 1:
                    return packed >> 3 & 3;
                case 2:
                    return packed >> 5 & 511;
                case 3:
                    return packed >> 14;
                default:
                    return BAD;
            }
        }

        private void add(int sort, int voice, int event, int other) {
            if (size < faults.length) {
                faults[size] = sort | voice << 3 | event << 5 | other << 14;
                size++;
            }
        }

        private void hearVoice(Score score, Voice voice, int v) {
            for (int o = 0; o < sounding.length; o++) {
                sounding[o] = 0;
            }
            int bar = 0;
            for (int e = 0; e <= voice.events; e++) {
                while (bar < voice.bars && voice.barEvents[bar] <= e) {
                    if (!isWhole(score, voice, bar)) {
                        add(1, v, e, bar);
                    }
                    bar++;
                }
                if (e < voice.events) {
                    hearAlone(voice, v, e);
                    hearCrossings(score, voice, v, e);
                    hearParallels(score, voice, v, e);
                }
            }
        }

        private static boolean isWhole(Score score, Voice voice, int bar) {
            int length = voice.compareBar(bar, score.timeTop, score.timeBottom);
            return length == 0 || length < 0 && (bar == 0 || bar == voice.bars - 1);
        }

        private void hearAlone(Voice voice, int v, int e) {
            if (voice.isTied(e) && !isHeld(voice, e)) {
                add(2, v, e, 0);
            }
            if (e > 0 && !voice.isRest(e) && !voice.isRest(e - 1)
                && Math.abs(voice.lowestKey(e) - voice.lowestKey(e - 1)) > 12) {
                add(3, v, e, 0);
            }
        }

        private static boolean isHeld(Voice voice, int e) {
            if (e + 1 >= voice.events) {
                return false;
            }
            for (int p = 0; p < voice.pitchesOf(e); p++) {
                if (!voice.hasKey(e + 1, voice.keyOf(e, p))) {
                    return false;
                }
            }
            return true;
        }

        private void hearCrossings(Score score, Voice voice, int v, int e) {
            for (int o = 0; o < v && o < sounding.length; o++) {
                Voice other = score.voiceAt(o);
                if (other != null) {
                    sounding[o] = firstNotEnded(other, sounding[o], voice, e);
                    if (isCrossed(other, sounding[o], voice, e)) {
                        add(4, v, e, o);
                    }
                }
            }
        }

        private static int firstNotEnded(Voice other, int from, Voice voice, int e) {
            int i = from;
            while (i < other.events && compareStarts(other, i + 1, voice, e) <= 0) {
                i++;
            }
            return i;
        }

        private static boolean isCrossed(Voice other, int from, Voice voice, int e) {
            if (voice.isRest(e)) {
                return false;
            }
            for (int i = from; i < other.events && compareStarts(other, i, voice, e + 1) < 0; i++) {
                if (!other.isRest(i) && other.lowestKey(i) < voice.highestKey(e)) {
                    return true;
                }
            }
            return false;
        }

        private static int compareStarts(Voice other, int i, Voice voice, int e) {
            return Long.compare(other.startTop[i] * voice.startBottom[e], voice.startTop[e] * other.startBottom[i]);
        }

        private void hearParallels(Score score, Voice voice, int v, int e) {
            for (int o = 0; o < v && o < sounding.length; o++) {
                Voice other = score.voiceAt(o);
                if (other != null && isParallel(other, sounding[o], voice, e)) {
                    add(5, v, e, o);
                }
            }
        }

        private static boolean isParallel(Voice other, int i, Voice voice, int e) {
            if (e < 1 || i < 1 || i >= other.events || compareStarts(other, i, voice, e) != 0) {
                return false;
            }
            if (voice.isRest(e) || voice.isRest(e - 1) || other.isRest(i) || other.isRest(i - 1)) {
                return false;
            }
            int now = Math.floorMod(other.lowestKey(i) - voice.lowestKey(e), 12);
            int before = Math.floorMod(other.lowestKey(i - 1) - voice.lowestKey(e - 1), 12);
            return now == before && (now == 0 || now == 7) && voice.lowestKey(e) != voice.lowestKey(e - 1);
        }
    }

    /** THE BEST beams of a BAR; from the end on, what is left costs at least best. */
    private static final class Beams {
        private static final int SHORT_MOST = 14;
        private static final int GROUP_MOST = 6;

        private final int[] groups = new int[SHORT_MOST];
        private int groupCount;
        private final int[] best = new int[SHORT_MOST + 1];
        private final int[] sizes = new int[SHORT_MOST + 1];

        void forget() {
            groupCount = 0;
        }

        int eventsIn(int i) {
            return i >= 0 && i < groupCount && i < groups.length ? groups[i] : 0;
        }

        int find(Voice voice, int bar, int beats) {
            int from = voice.barEvents[bar];
            int to = voice.barEvents[bar + 1];
            if (shortOnes(voice, from, to) > SHORT_MOST) {
                return LARGE;
            }
            groupCount = 0;
            int cost = 0;
            int run = from;
            for (int e = from; e <= to; e++) {
                if (e == to || !voice.isShort(e)) {
                    cost += cutRun(voice, bar, run, e, beats);
                    run = e + 1;
                }
            }
            return cost;
        }

        private static int shortOnes(Voice voice, int from, int to) {
            int all = 0;
            for (int e = from; e < to; e++) {
                all += voice.isShort(e) ? 1 : 0;
            }
            return all;
        }

        private int cutRun(Voice voice, int bar, int from, int to, int beats) {
            int length = Math.min(to - from, SHORT_MOST);
            if (length <= 0) {
                return 0;
            }
            best[length] = 0;
            for (int i = length - 1; i >= 0; i--) {
                sizes[i] = 1;
                best[i] = 3 + best[i + 1];
                int together = 1;
                for (int size = 2; size <= GROUP_MOST && i + size <= length; size++) {
                    together += joinCost(voice, bar, from + i + size - 1, beats);
                    if (together + best[i + size] <= best[i]) {
                        sizes[i] = size;
                        best[i] = together + best[i + size];
                    }
                }
            }
            for (int i = 0; i < length && groupCount < groups.length; i += sizes[i]) {
                groups[groupCount] = sizes[i];
                groupCount++;
            }
            return best[0];
        }

        /** What it costs that EVENT e is in one GROUP with the one before. */
        private static int joinCost(Voice voice, int bar, int e, int beats) {
            int cost = 0;
            long bottom = voice.sinceBarBottom(bar, e);
            if (bottom > 0 && voice.sinceBarTop(bar, e) * beats % bottom == 0) {
                cost += 2;
            }
            if (voice.numberOf(e) != voice.numberOf(e - 1)) {
                cost += 1;
            }
            int apart = Math.abs(voice.stepOf(e, 0) - voice.stepOf(e - 1, 0));
            return cost + Math.max(0, apart - 4);
        }
    }

    /** THE BEST LINES of a page, and the WIDTHS of its BARS. */
    private static final class Page {
        private static final int BARS_MOST = 14;

        private final int[] lineBars = new int[BARS_MOST];
        private int lineCount;
        private final int[] widths = new int[BARS_MOST];
        private final long[] best = new long[BARS_MOST + 1];
        private final int[] sizes = new int[BARS_MOST + 1];
        /** Of each voice the next EVENT of the BAR, and its time since the BAR's beginning, -1 when there is none. */
        private final int[] nextEvents = new int[VOICES_MOST];
        private final long[] nextTops = new long[VOICES_MOST];
        private final long[] nextBottoms = new long[VOICES_MOST];

        void forget() {
            lineCount = 0;
        }

        int barsIn(int i) {
            return i >= 0 && i < lineCount && i < lineBars.length ? lineBars[i] : 0;
        }

        int find(Score score, int w) {
            int bars = score.mostBars();
            if (bars > BARS_MOST) {
                return LARGE;
            }
            for (int b = 0; b < bars; b++) {
                widths[b] = widthOf(score, b);
            }
            best[bars] = 0;
            for (int b = bars - 1; b >= 0; b--) {
                findFrom(b, bars, w);
            }
            lineCount = 0;
            for (int b = 0; b < bars && lineCount < lineBars.length; b += sizes[b]) {
                lineBars[lineCount] = sizes[b];
                lineCount++;
            }
            return (int) best[0];
        }

        private void findFrom(int b, int bars, int w) {
            long left = w - widths[b];
            sizes[b] = 1;
            best[b] = best[b + 1] + lineCost(left, b + 1 == bars);
            for (int size = 2; b + size <= bars; size++) {
                left -= widths[b + size - 1];
                if (left < 0) {
                    return;
                }
                long cost = best[b + size] + lineCost(left, b + size == bars);
                if (cost <= best[b]) {
                    sizes[b] = size;
                    best[b] = cost;
                }
            }
        }

        private static long lineCost(long left, boolean last) {
            if (left < 0) {
                return 10000 + left * left;
            }
            return last ? 0 : left * left;
        }

        int widthOf(Score score, int bar) {
            int signs = 0;
            for (int v = 0; v < score.voiceCount; v++) {
                Voice voice = score.voiceAt(v);
                if (voice != null && bar < voice.bars) {
                    for (int e = voice.barEvents[bar]; e < voice.barEvents[bar + 1]; e++) {
                        signs += voice.signsOf(e);
                    }
                }
            }
            return 10 + 8 * timesIn(score, bar) + 3 * signs;
        }

        /** At how many times an EVENT of the BAR begins: each turn goes past the earliest one. */
        private int timesIn(Score score, int bar) {
            for (int v = 0; v < VOICES_MOST; v++) {
                Voice voice = score.voiceAt(v);
                nextEvents[v] = voice == null || bar >= voice.bars ? 0 : voice.barEvents[bar];
                setNext(voice, v, bar);
            }
            int times = 0;
            for (int turn = 0; turn < VOICES_MOST * EVENTS_MOST; turn++) {
                int first = earliest();
                if (nextTops[first] < 0) {
                    return times;
                }
                times++;
                passTime(score, bar, nextTops[first], nextBottoms[first]);
            }
            return times;
        }

        private void setNext(Voice voice, int v, int bar) {
            int e = nextEvents[v];
            if (voice == null || bar >= voice.bars || e >= voice.barEvents[bar + 1]) {
                nextTops[v] = -1;
                return;
            }
            long top = voice.sinceBarTop(bar, e);
            long bottom = voice.sinceBarBottom(bar, e);
            long shared = greatestDivisor(top, bottom);
            nextTops[v] = top / shared;
            nextBottoms[v] = bottom / shared;
        }

        private int earliest() {
            int first = 0;
            for (int v = 1; v < VOICES_MOST; v++) {
                if (nextTops[v] >= 0 && (nextTops[first] < 0
                    || compareFractions(nextTops[v], nextBottoms[v], nextTops[first], nextBottoms[first]) < 0)) {
                    first = v;
                }
            }
            return first;
        }

        private void passTime(Score score, int bar, long top, long bottom) {
            for (int v = 0; v < VOICES_MOST; v++) {
                if (nextTops[v] == top && nextBottoms[v] == bottom) {
                    nextEvents[v]++;
                    setNext(score.voiceAt(v), v, bar);
                }
            }
        }
    }

    /**
     * SECOND VOICES. A row of KEYS is the number that its KEYS, less the lowest one, make as digits;
     * so the order of rows is that of numbers, and one bit for each number holds all that were found.
     */
    private static final class Seconds {
        private static final int ROWS_MOST = 100000;
        /** Bit n: n is a DISTANCE, or a KEY, that is let be, modulo 12. */
        private static final int CONSONANT = 1 | 1 << 3 | 1 << 4 | 1 << 7 | 1 << 8 | 1 << 9;
        private static final int PERFECT = 1 | 1 << 7;
        private static final int WHITE = 1 | 1 << 2 | 1 << 4 | 1 << 5 | 1 << 7 | 1 << 9 | 1 << 11;

        private final long[] bits = new long[ROWS_MOST / 64 + 1];
        private int found;
        private int low;
        private int span;
        private int places;
        private int rules;
        private final int[] line = new int[LINE_MOST];
        private final int[] keys = new int[LINE_MOST];

        void forget() {
            found = 0;
        }

        int find(Score score, int lowest, int highest, int asked) {
            int wide = highest - lowest + 1;
            int rows = 1;
            for (int i = 0; i < score.lineLength; i++) {
                rows *= wide;
                if (rows > ROWS_MOST) {
                    return LARGE;
                }
            }
            low = lowest;
            span = wide;
            rules = asked;
            places = Math.min(score.lineLength, LINE_MOST);
            for (int i = 0; i < places; i++) {
                line[i] = score.lineKeys[i];
            }
            for (int i = 0; i < bits.length; i++) {
                bits[i] = 0;
            }
            found = 0;
            extend(0, 0);
            return found;
        }

        private void extend(int place, int row) {
            if (place >= places || place >= keys.length) {
                keep(row);
                return;
            }
            for (int digit = 0; digit < span; digit++) {
                keys[place] = low + digit;
                if (fitsAlone(place) && (place == 0 || fitsBehind(place)) && (place < 2 || fitsLeap(place))) {
                    extend(place + 1, row * span + digit);
                }
            }
        }

        private void keep(int row) {
            int at = row >> 6;
            if (at >= 0 && at < bits.length) {
                bits[at] |= 1L << (row & 63);
                found++;
            }
        }

        private boolean asks(int rule) {
            return (rules & rule) != 0;
        }

        private static boolean isAmong(int set, int key) {
            return (set >> Math.floorMod(key, 12) & 1) != 0;
        }

        private boolean fitsAlone(int place) {
            int key = keys[place];
            int distance = key - line[place];
            if (asks(1) && !isAmong(CONSONANT, distance)) {
                return false;
            }
            if (asks(2) && place == 0 && !isAmong(PERFECT, distance)) {
                return false;
            }
            if (asks(2) && place == places - 1 && Math.floorMod(distance, 12) != 0) {
                return false;
            }
            if (asks(128) && !isAmong(WHITE, key)) {
                return false;
            }
            return !asks(256) || distance >= 0;
        }

        private boolean fitsBehind(int place) {
            int distance = keys[place] - line[place];
            int former = keys[place - 1] - line[place - 1];
            int move = keys[place] - keys[place - 1];
            int lineMove = line[place] - line[place - 1];
            boolean perfect = isAmong(PERFECT, distance);
            if (asks(4) && perfect && move != 0 && Math.floorMod(distance - former, 12) == 0) {
                return false;
            }
            if (asks(8) && perfect && (move > 0 && lineMove > 0 || move < 0 && lineMove < 0)) {
                return false;
            }
            if (asks(16) && Math.abs(move) > 7 && Math.abs(move) != 12) {
                return false;
            }
            return !asks(32) || move != 0;
        }

        private boolean fitsLeap(int place) {
            int leap = keys[place - 1] - keys[place - 2];
            int move = keys[place] - keys[place - 1];
            if (!asks(64) || Math.abs(leap) <= 4) {
                return true;
            }
            return leap > 0 ? move == -1 || move == -2 : move == 1 || move == 2;
        }

        int keyIn(int k, int i) {
            if (k < 0 || k >= found || i < 0 || i >= places || span < 1) {
                return BAD;
            }
            int row = rowAt(k);
            for (int place = places - 1; place > i; place--) {
                row /= span;
            }
            return low + row % span;
        }

        private int rowAt(int k) {
            int ahead = 0;
            int at = 0;
            while (at < bits.length && ahead + Long.bitCount(bits[at]) <= k) {
                ahead += Long.bitCount(bits[at]);
                at++;
            }
            for (int bit = 0; bit < 64 && at < bits.length; bit++) {
                if ((bits[at] >>> bit & 1) != 0) {
                    if (ahead == k) {
                        return at * 64 + bit;
                    }
                    ahead++;
                }
            }
            return 0;
        }
    }

    /** READINGS: how many TREES each NAME has over each stretch of the row, and which one is the k-th. */
    private static final class Trees {
        private static final int MOST = 1000000;
        private static final int ENDS = ROW_MOST + 1;

        /** Counts above MOST are held as MOST + 1. */
        private final int[] counts = new int[NAMES_MOST * ENDS * ENDS];
        private int found;
        /** The part that ruleIn has come to: the TREE of this number, by order, of all over these places. */
        private int partName;
        private int partFrom;
        private int partTo;
        private long partTree;

        void forget() {
            found = 0;
        }

        private static int slot(int name, int from, int to) {
            return (name * ENDS + from) * ENDS + to;
        }

        private int treesOf(int name, int from, int to) {
            int slot = slot(name, from, to);
            return slot >= 0 && slot < counts.length ? counts[slot] : 0;
        }

        int find(Score score) {
            for (int i = 0; i < counts.length; i++) {
                counts[i] = 0;
            }
            for (int length = 1; length <= score.rowLength; length++) {
                for (int from = 0; from + length <= score.rowLength; from++) {
                    fill(score, from, from + length);
                }
            }
            int all = treesOf(score.ruleNames[0], 0, score.rowLength);
            if (all > MOST) {
                return LARGE;
            }
            found = all;
            return all;
        }

        private void fill(Score score, int from, int to) {
            for (int rule = 0; rule < score.ruleCount; rule++) {
                int slot = slot(score.ruleNames[rule], from, to);
                if (slot >= 0 && slot < counts.length) {
                    counts[slot] = (int) Math.min(counts[slot] + treesBy(score, rule, from, to), MOST + 1L);
                }
            }
        }

        private long treesBy(Score score, int rule, int from, int to) {
            if (score.ruleRights[rule] < 0) {
                return to - from == 1 && score.row[from] == score.ruleLefts[rule] ? 1 : 0;
            }
            long all = 0;
            for (int cut = from + 1; cut < to; cut++) {
                all += treesCut(score, rule, from, cut, to);
            }
            return all;
        }

        private long treesCut(Score score, int rule, int from, int cut, int to) {
            long left = treesOf(score.ruleLefts[rule], from, cut);
            return left * treesOf(score.ruleRights[rule], cut, to);
        }

        /** Goes down from the whole TREE to the part whose first rule is asked for. */
        int ruleIn(Score score, int k, int i) {
            if (k < 0 || k >= found || i < 0 || i >= 2 * score.rowLength - 1) {
                return BAD;
            }
            partName = score.ruleNames[0];
            partFrom = 0;
            partTo = score.rowLength;
            partTree = k;
            int ahead = i;
            for (int turn = 0; turn < 2 * ROW_MOST; turn++) {
                int rule = findRule(score);
                if (ahead == 0 || rule < 0 || score.ruleRights[rule] < 0) {
                    return rule;
                }
                int cut = findCut(score, rule);
                int leftRules = 2 * (cut - partFrom) - 1;
                boolean left = ahead <= leftRules;
                goDown(score, rule, cut, left);
                ahead -= left ? 1 : 1 + leftRules;
            }
            return BAD;
        }

        /** The rule of the TREE, which is then told by its number among those of this rule. */
        private int findRule(Score score) {
            for (int rule = 0; rule < score.ruleCount; rule++) {
                if (score.ruleNames[rule] == partName) {
                    long trees = treesBy(score, rule, partFrom, partTo);
                    if (partTree < trees) {
                        return rule;
                    }
                    partTree -= trees;
                }
            }
            return BAD;
        }

        /** Where the TREE's right part begins; it is then told by its number among those of this cut. */
        private int findCut(Score score, int rule) {
            for (int cut = partFrom + 1; cut < partTo; cut++) {
                long trees = treesCut(score, rule, partFrom, cut, partTo);
                if (partTree < trees) {
                    return cut;
                }
                partTree -= trees;
            }
            return partTo;
        }

        private void goDown(Score score, int rule, int cut, boolean left) {
            long rights = Math.max(1, treesOf(score.ruleRights[rule], cut, partTo));
            if (left) {
                partName = score.ruleLefts[rule];
                partTo = cut;
                partTree /= rights;
            } else {
                partName = score.ruleRights[rule];
                partFrom = cut;
                partTree %= rights;
            }
        }
    }

    /** Two voices BESIDE ONE ANOTHER: the least costs, and how many ways have them, from each pair of places on. */
    private static final class Pairing {
        private static final int EVENTS_TRIED = 80;
        private static final int ALONE = 5;
        private static final long MODULUS = 1000000007L;
        /** With so many EVENTS in all, no table of both voices is larger than that of two like halves. */
        private static final int TABLE = (EVENTS_TRIED / 2 + 1) * (EVENTS_TRIED / 2 + 1);

        private final int[] firstEvents = new int[EVENTS_TRIED];
        private final int[] otherEvents = new int[EVENTS_TRIED];
        private final int[] costs = new int[TABLE];
        private final int[] wayCounts = new int[TABLE];
        private final int[] partners = new int[EVENTS_TRIED];
        private int firsts;
        private int others;
        int leastWays;

        void forget() {
            firsts = 0;
            leastWays = 0;
        }

        int partnerOf(int i) {
            return i >= 0 && i < firsts && i < partners.length ? partners[i] : BAD;
        }

        int find(Voice first, Voice other) {
            if (soundsOf(first) + soundsOf(other) > EVENTS_TRIED) {
                return LARGE;
            }
            firsts = gather(first, firstEvents);
            others = gather(other, otherEvents);
            for (int i = firsts; i >= 0; i--) {
                for (int j = others; j >= 0; j--) {
                    weigh(first, other, i, j);
                }
            }
            choose(first, other);
            leastWays = wayCounts[0];
            return costs[0];
        }

        private static int soundsOf(Voice voice) {
            int all = 0;
            for (int e = 0; e < voice.events; e++) {
                all += voice.isRest(e) ? 0 : 1;
            }
            return all;
        }

        private static int gather(Voice voice, int[] places) {
            int all = 0;
            for (int e = 0; e < voice.events; e++) {
                if (!voice.isRest(e) && all < places.length) {
                    places[all] = e;
                    all++;
                }
            }
            return all;
        }

        private int slot(int i, int j) {
            return Math.min(i * (others + 1) + j, TABLE - 1);
        }

        private int pairCost(Voice first, Voice other, int i, int j) {
            int e = firstEvents[i];
            int o = otherEvents[j];
            int apart = Math.min(12, Math.abs(first.lowestKey(e) - other.lowestKey(o)));
            boolean alike = first.lengthTop[e] == other.lengthTop[o] && first.lengthBottom[e] == other.lengthBottom[o];
            return alike ? apart : apart + 1;
        }

        private void weigh(Voice first, Voice other, int i, int j) {
            int here = slot(i, j);
            if (i == firsts && j == others) {
                costs[here] = 0;
                wayCounts[here] = 1;
                return;
            }
            int both = i < firsts && j < others
                ? pairCost(first, other, i, j) + costs[slot(i + 1, j + 1)] : Integer.MAX_VALUE;
            int firstAlone = i < firsts ? ALONE + costs[slot(i + 1, j)] : Integer.MAX_VALUE;
            int otherAlone = j < others ? ALONE + costs[slot(i, j + 1)] : Integer.MAX_VALUE;
            int least = Math.min(both, Math.min(firstAlone, otherAlone));
            long all = 0;
            all += both == least ? wayCounts[slot(i + 1, j + 1)] : 0;
            all += firstAlone == least ? wayCounts[slot(i + 1, j)] : 0;
            all += otherAlone == least ? wayCounts[slot(i, j + 1)] : 0;
            costs[here] = least;
            wayCounts[here] = (int) (all % MODULUS);
        }

        /** Walks THE FIRST of the least ways. */
        private void choose(Voice first, Voice other) {
            int j = 0;
            for (int i = 0; i < firsts; i++) {
                partners[i] = NO;
                while (j < others && !isPair(first, other, i, j) && !isFirstAlone(i, j)) {
                    j++;
                }
                if (j < others && isPair(first, other, i, j)) {
                    partners[i] = j;
                    j++;
                }
            }
        }

        private boolean isPair(Voice first, Voice other, int i, int j) {
            return costs[slot(i, j)] == pairCost(first, other, i, j) + costs[slot(i + 1, j + 1)];
        }

        private boolean isFirstAlone(int i, int j) {
            return costs[slot(i, j)] == ALONE + costs[slot(i + 1, j)];
        }
    }
}
