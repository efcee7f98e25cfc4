import java.math.BigInteger;
import java.util.ArrayList;
import java.util.Arrays;
import java.util.Collections;
import java.util.Comparator;
import java.util.HashMap;
import java.util.LinkedHashSet;
import java.util.List;
import java.util.Map;
import java.util.Set;
import java.util.TreeSet;
import java.util.regex.Matcher;
import java.util.regex.Pattern;

/**
 * A second reading of the document, as slow and simple as can be: it tries all that can be, with exact
 * numbers of any size. The tests lay the program's answers beside its own.
 */
final class Oracle {
    static final int BAD = -1;
    static final int NO = -2;
    static final int LARGE = -4;

    /** A FAULT of a text. */
    static final class Wrong extends RuntimeException {
        final int fault;
        final int place;

        Wrong(int fault, int place) {
            this.fault = fault;
            this.place = place;
        }
    }

    static final class Token {
        final String kind; // pitch, name, number, wrong, end, or the word or sign itself
        final String text;
        final int place;

        Token(String kind, String text, int place) {
            this.kind = kind;
            this.text = text;
            this.place = place;
        }
    }

    static final class Pitch {
        final int key;
        final int step;
        final int signs;

        Pitch(String text) {
            int letter = "CDEFGAB".indexOf(text.charAt(0));
            int digit = text.charAt(text.length() - 1) - '0';
            String marks = text.substring(1, text.length() - 1);
            signs = marks.length();
            key = 12 * digit + new int[] {0, 2, 4, 5, 7, 9, 11}[letter] + (marks.startsWith("b") ? -signs : signs);
            step = 7 * digit + letter;
        }
    }

    /** A part as written: an event, a line, a repeat or a stretch. */
    static final class Part {
        char kind; // e | [ {
        List<Pitch> pitches = new ArrayList<>();
        int number;
        int dots;
        boolean tied;
        int a;
        int b;
        List<List<Part>> inner = new ArrayList<>();
    }

    static final class Event {
        Part part;
        Ratio start;
        Ratio length;
        int bar;

        Ratio end() {
            return start.plus(length);
        }

        boolean rest() {
            return part.pitches.isEmpty();
        }

        int low() {
            return part.pitches.get(0).key;
        }

        int high() {
            return part.pitches.get(part.pitches.size() - 1).key;
        }

        boolean isShort() {
            return !rest() && part.number >= 8;
        }
    }

    static final class Voice {
        List<Event> events = new ArrayList<>();
        List<Ratio> barStarts = new ArrayList<>();
        List<Integer> barFirsts = new ArrayList<>();
        Ratio end = Ratio.ZERO;
        int steps;
        int walked;
        int lines;

        Ratio barEnd(int b) {
            return b + 1 < barStarts.size() ? barStarts.get(b + 1) : end;
        }

        List<Event> ofBar(int b) {
            List<Event> all = new ArrayList<>();
            for (Event e : events) {
                if (e.bar == b) {
                    all.add(e);
                }
            }
            return all;
        }

        List<Event> sounding() {
            List<Event> all = new ArrayList<>();
            for (Event e : events) {
                if (!e.rest()) {
                    all.add(e);
                }
            }
            return all;
        }
    }

    int timeA = 4;
    int timeB = 4;
    final List<Voice> voices = new ArrayList<>();
    final List<Pitch> line = new ArrayList<>();
    final List<int[]> rules = new ArrayList<>();
    final List<Integer> row = new ArrayList<>();

    // ---- texts

    private List<Token> tokens = new ArrayList<>();
    private int now;
    private boolean timed;
    private final Set<String> names = new LinkedHashSet<>();
    private int sounds;

    private static final Pattern TOKEN = Pattern.compile(
        "([A-G](?:##|#|bb|b)?[0-8])|([a-z]+)|([0-9]+)|([;:/|\\[\\]{}<>=.~])", Pattern.DOTALL);
    private static final Pattern GAP = Pattern.compile("(?:[\t\n\r ]|%[^\n]*)*");

    Oracle() {
    }

    Oracle(String text) {
        cutTokens(text);
        while (!peek().kind.equals("end")) {
            readItem();
        }
    }

    private void cutTokens(String text) {
        int at = 0;
        while (true) {
            Matcher gap = GAP.matcher(text).region(at, text.length());
            if (gap.lookingAt()) {
                at = gap.end();
            }
            if (at == text.length()) {
                tokens.add(new Token("end", "", at));
                return;
            }
            Matcher m = TOKEN.matcher(text).region(at, text.length());
            if (!m.lookingAt()) {
                tokens.add(new Token("wrong", "", at));
                return;
            }
            String found = m.group();
            String kind = found;
            if (m.group(1) != null) {
                kind = "pitch";
            } else if (m.group(2) != null) {
                if (!Arrays.asList("time", "voice", "line", "rule", "row", "r").contains(found)) {
                    kind = found.length() > 8 ? "wrong" : "name";
                }
            } else if (m.group(3) != null) {
                kind = found.length() > 4 ? "wrong" : "number";
            }
            tokens.add(new Token(kind, found, at));
            at = m.end();
        }
    }

    private Token peek() {
        return tokens.get(now);
    }

    private Token want(String kind) {
        Token t = peek();
        if (t.kind.equals("wrong")) {
            throw new Wrong(1, t.place);
        }
        if (!t.kind.equals(kind)) {
            throw new Wrong(2, t.place);
        }
        now++;
        return t;
    }

    private boolean sees(String kind) {
        return peek().kind.equals(kind);
    }

    private void readItem() {
        Token t = peek();
        switch (t.kind) {
            case "time":
                if (timed) {
                    throw new Wrong(4, t.place);
                }
                timed = true;
                now++;
                timeA = number(1, 32, false);
                want("/");
                timeB = number(1, 32, true);
                want(";");
                break;
            case "voice":
                readVoice();
                break;
            case "line":
                if (!line.isEmpty()) {
                    throw new Wrong(4, t.place);
                }
                now++;
                do {
                    Token p = want("pitch");
                    if (line.size() == 8) {
                        throw new Wrong(3, p.place);
                    }
                    line.add(new Pitch(p.text));
                } while (sees("pitch"));
                want(";");
                break;
            case "rule":
                if (rules.size() == 24) {
                    throw new Wrong(3, t.place);
                }
                now++;
                int a = name();
                want("=");
                int b = name();
                int c = sees("name") ? name() : -1;
                want(";");
                rules.add(new int[] {a, b, c});
                break;
            case "row":
                if (!row.isEmpty()) {
                    throw new Wrong(4, t.place);
                }
                now++;
                do {
                    if (row.size() == 12 && sees("name")) {
                        throw new Wrong(3, peek().place);
                    }
                    row.add(name());
                } while (sees("name"));
                want(";");
                break;
            default:
                want("an item");
        }
    }

    private int number(int from, int to, boolean power) {
        Token t = want("number");
        int n = Integer.parseInt(t.text);
        if (n < from || n > to || power && (n & (n - 1)) != 0) {
            throw new Wrong(5, t.place);
        }
        return n;
    }

    private int name() {
        Token t = want("name");
        names.add(t.text);
        if (names.size() > 16) {
            throw new Wrong(3, t.place);
        }
        return new ArrayList<>(names).indexOf(t.text);
    }

    private void readVoice() {
        int word = peek().place;
        if (voices.size() == 4) {
            throw new Wrong(3, word);
        }
        now++;
        sounds = 0;
        List<Part> parts = readParts(0);
        want(";");
        Voice voice = new Voice();
        voice.barStarts.add(Ratio.ZERO);
        voice.barFirsts.add(0);
        walk(voice, parts, Ratio.of(1, 1));
        if (voice.events.size() > 300 || voice.lines > 100 || voice.steps > 2000) {
            throw new Wrong(3, word);
        }
        for (Event e : voice.events) {
            for (Ratio r : List.of(e.start, e.length, e.end())) {
                if (r.compareTo(Ratio.of(1000, 1)) > 0 || r.bottom.compareTo(BigInteger.valueOf(1000000)) > 0) {
                    throw new Wrong(6, word);
                }
            }
        }
        voices.add(voice);
    }

    private List<Part> readParts(int around) {
        List<Part> all = new ArrayList<>();
        while (List.of("pitch", "r", "<", "|", "[", "{").contains(peek().kind)) {
            if (around > 6) {
                throw new Wrong(3, peek().place);
            }
            all.add(readPart(around));
        }
        return all;
    }

    private Part readPart(int around) {
        Part part = new Part();
        if (sees("|")) {
            now++;
            part.kind = '|';
        } else if (sees("[")) {
            now++;
            part.kind = '[';
            part.inner.add(readParts(around + 1));
            while (sees(":")) {
                now++;
                part.inner.add(readParts(around + 1));
            }
            want("]");
        } else if (sees("{")) {
            now++;
            part.kind = '{';
            part.a = number(1, 16, false);
            want("/");
            part.b = number(1, 16, false);
            want(":");
            part.inner.add(readParts(around + 1));
            want("}");
        } else {
            readEvent(part);
        }
        return part;
    }

    private void readEvent(Part part) {
        part.kind = 'e';
        if (sees("r")) {
            countSound();
            now++;
        } else if (sees("<")) {
            now++;
            do {
                Token t = want("pitch");
                now--;
                if (part.pitches.size() == 4) {
                    throw new Wrong(3, t.place);
                }
                countSound();
                Pitch p = new Pitch(t.text);
                if (!part.pitches.isEmpty() && part.pitches.get(part.pitches.size() - 1).key >= p.key) {
                    throw new Wrong(4, t.place);
                }
                part.pitches.add(p);
                now++;
            } while (sees("pitch"));
            want(">");
        } else {
            countSound();
            part.pitches.add(new Pitch(want("pitch").text));
        }
        part.number = number(1, 64, true);
        while (sees(".")) {
            if (part.dots == 3) {
                throw new Wrong(3, peek().place);
            }
            part.dots++;
            now++;
        }
        if (sees("~")) {
            if (part.pitches.isEmpty()) {
                throw new Wrong(7, peek().place);
            }
            part.tied = true;
            now++;
        }
    }

    private void countSound() {
        if (sounds == 300) {
            throw new Wrong(3, peek().place);
        }
        sounds++;
    }

    private void walk(Voice voice, List<Part> parts, Ratio stretch) {
        for (Part part : parts) {
            voice.steps++;
            if (voice.steps > 5000) {
                return;
            }
            if (part.kind == '|') {
                voice.lines++;
                voice.barStarts.add(voice.end);
                voice.barFirsts.add(voice.events.size());
            } else if (part.kind == '{') {
                walk(voice, part.inner.get(0), stretch.times(Ratio.of(part.b, part.a)));
            } else if (part.kind == '[') {
                int turns = part.inner.size() == 1 ? 2 : part.inner.size() - 1;
                for (int turn = 1; turn <= turns; turn++) {
                    voice.steps++;
                    walk(voice, part.inner.get(0), stretch);
                    if (part.inner.size() > 1) {
                        walk(voice, part.inner.get(turn), stretch);
                    }
                }
            } else {
                Event e = new Event();
                e.part = part;
                e.start = voice.end;
                e.bar = voice.barStarts.size() - 1;
                Ratio added = Ratio.of(1, part.number);
                e.length = added;
                for (int d = 0; d < part.dots; d++) {
                    added = added.times(Ratio.of(1, 2));
                    e.length = e.length.plus(added);
                }
                e.length = e.length.times(stretch);
                voice.events.add(e);
                voice.end = e.end();
            }
        }
    }

    // ---- answers

    int allEvents() {
        int all = 0;
        for (Voice v : voices) {
            all += v.events.size();
        }
        return all;
    }

    int bars() {
        int most = 0;
        for (Voice v : voices) {
            most = Math.max(most, v.barStarts.size());
        }
        return most;
    }

    boolean hasVoice(int v) {
        return v >= 0 && v < voices.size();
    }

    int told(int what) {
        int[] all = {voices.size(), line.size(), rules.size(), row.size(), bars(), timeA, timeB};
        return what >= 0 && what < all.length ? all[what] : BAD;
    }

    int count(int v, int what) {
        if (!hasVoice(v) || what < 0 || what > 1) {
            return BAD;
        }
        return what == 0 ? voices.get(v).events.size() : voices.get(v).barStarts.size();
    }

    long event(int v, int i, int what) {
        if (!hasVoice(v) || i < 0 || i >= voices.get(v).events.size()) {
            return 10000;
        }
        Event e = voices.get(v).events.get(i);
        Map<Integer, Long> all = new HashMap<>();
        all.put(0, e.start.top.longValue());
        all.put(1, e.start.bottom.longValue());
        all.put(2, e.length.top.longValue());
        all.put(3, e.length.bottom.longValue());
        all.put(4, (long) e.part.pitches.size());
        all.put(5, e.part.tied ? 1L : 0L);
        all.put(6, (long) e.bar);
        all.put(7, (long) e.part.number);
        all.put(8, (long) e.part.dots);
        for (int p = 0; p < e.part.pitches.size(); p++) {
            all.put(10 + p, (long) e.part.pitches.get(p).key);
            all.put(20 + p, (long) e.part.pitches.get(p).step);
        }
        return all.getOrDefault(what, 10000L);
    }

    /** All faults as SORT, voice, EVENT, OTHER, in their order. */
    List<int[]> judge() {
        List<int[]> all = new ArrayList<>();
        Ratio whole = Ratio.of(timeA, timeB);
        for (int v = 0; v < voices.size(); v++) {
            Voice voice = voices.get(v);
            int bars = voice.barStarts.size();
            for (int b = 0; b < bars; b++) {
                int compared = voice.barEnd(b).minus(voice.barStarts.get(b)).compareTo(whole);
                if (compared > 0 || compared < 0 && b != 0 && b != bars - 1) {
                    all.add(new int[] {1, v, voice.barFirsts.get(b), b});
                }
            }
            for (int i = 0; i < voice.events.size(); i++) {
                judgeEvent(all, v, i);
            }
        }
        all.sort(Comparator.<int[]>comparingInt(f -> f[1]).thenComparingInt(f -> f[2])
            .thenComparingInt(f -> f[0]).thenComparingInt(f -> f[3]));
        return all;
    }

    private void judgeEvent(List<int[]> all, int v, int i) {
        List<Event> mine = voices.get(v).events;
        Event e = mine.get(i);
        Event before = i > 0 ? mine.get(i - 1) : null;
        if (e.part.tied) {
            Set<Integer> next = new TreeSet<>();
            if (i + 1 < mine.size()) {
                mine.get(i + 1).part.pitches.forEach(p -> next.add(p.key));
            }
            if (!e.part.pitches.stream().allMatch(p -> next.contains(p.key))) {
                all.add(new int[] {2, v, i, 0});
            }
        }
        if (before != null && !e.rest() && !before.rest() && Math.abs(e.low() - before.low()) > 12) {
            all.add(new int[] {3, v, i, 0});
        }
        for (int o = 0; o < v; o++) {
            List<Event> its = voices.get(o).events;
            boolean crossed = false;
            boolean parallel = false;
            for (int j = 0; j < its.size(); j++) {
                Event other = its.get(j);
                boolean together = other.start.compareTo(e.end()) < 0 && e.start.compareTo(other.end()) < 0;
                if (together && !e.rest() && !other.rest() && other.low() < e.high()) {
                    crossed = true;
                }
                if (j > 0 && before != null && other.start.equals(e.start)) {
                    Event otherBefore = its.get(j - 1);
                    if (!other.rest() && !otherBefore.rest() && !e.rest() && !before.rest()) {
                        int apart = Math.floorMod(other.low() - e.low(), 12);
                        int apartBefore = Math.floorMod(otherBefore.low() - before.low(), 12);
                        parallel |= apart == apartBefore && (apart == 0 || apart == 7) && e.low() != before.low();
                    }
                }
            }
            if (crossed) {
                all.add(new int[] {4, v, i, o});
            }
            if (parallel) {
                all.add(new int[] {5, v, i, o});
            }
        }
    }

    /** Costs of beams and GROUPS: the first number is what they cost. Null: none such; an empty one: LARGE. */
    List<Integer> beam(int v, int b) {
        if (!hasVoice(v) || b < 0 || b >= voices.get(v).barStarts.size()) {
            return null;
        }
        Voice voice = voices.get(v);
        List<Event> bar = voice.ofBar(b);
        List<Integer> answer = new ArrayList<>();
        if (bar.stream().filter(Event::isShort).count() > 14) {
            return answer;
        }
        answer.add(0);
        List<Event> run = new ArrayList<>();
        for (int i = 0; i <= bar.size(); i++) {
            if (i < bar.size() && bar.get(i).isShort()) {
                run.add(bar.get(i));
                continue;
            }
            if (!run.isEmpty()) {
                List<Integer> best = null;
                int least = Integer.MAX_VALUE;
                for (List<Integer> sizes : compositions(run.size())) {
                    int cost = Collections.max(sizes) > 6 ? Integer.MAX_VALUE
                        : groupsCost(run, sizes, voice.barStarts.get(b));
                    if (cost < least) {
                        least = cost;
                        best = sizes;
                    }
                }
                answer.set(0, answer.get(0) + least);
                answer.addAll(best);
            }
            run.clear();
        }
        return answer;
    }

    private int groupsCost(List<Event> run, List<Integer> sizes, Ratio barStart) {
        int cost = 0;
        int at = 0;
        for (int size : sizes) {
            cost += size == 1 ? 3 : 1;
            for (int i = at + 1; i < at + size; i++) {
                Event e = run.get(i);
                Event former = run.get(i - 1);
                if (e.start.minus(barStart).times(Ratio.of(timeB, 1)).isWhole()) {
                    cost += 2;
                }
                if (e.part.number != former.part.number) {
                    cost += 1;
                }
                int apart = Math.abs(e.part.pitches.get(0).step - former.part.pitches.get(0).step);
                cost += apart > 4 ? apart - 4 : 0;
            }
            at += size;
        }
        return cost;
    }

    /** All ways to cut n into a row of sizes, those with a larger first one ahead. */
    static List<List<Integer>> compositions(int n) {
        List<List<Integer>> all = new ArrayList<>();
        if (n == 0) {
            all.add(new ArrayList<>());
        }
        for (int first = n; first >= 1; first--) {
            for (List<Integer> rest : compositions(n - first)) {
                List<Integer> one = new ArrayList<>();
                one.add(first);
                one.addAll(rest);
                all.add(one);
            }
        }
        return all;
    }

    int width(int b) {
        if (b < 0 || b >= bars()) {
            return BAD;
        }
        Set<Ratio> times = new TreeSet<>();
        int signs = 0;
        for (Voice voice : voices) {
            for (Event e : voice.ofBar(b)) {
                times.add(e.start.minus(voice.barStarts.get(b)));
                for (Pitch p : e.part.pitches) {
                    signs += p.signs;
                }
            }
        }
        return 10 + 8 * times.size() + 3 * signs;
    }

    /** The cost, then the BARS of the LINES; one number alone when it is not tried. */
    List<Integer> breaks(int w) {
        if (w < 1 || w > 1000) {
            return List.of(BAD);
        }
        if (voices.isEmpty()) {
            return List.of(NO);
        }
        if (bars() > 14) {
            return List.of(LARGE);
        }
        List<Integer> best = null;
        long least = Long.MAX_VALUE;
        int[] widths = new int[bars()];
        for (int b = 0; b < widths.length; b++) {
            widths[b] = width(b);
        }
        for (List<Integer> sizes : compositions(bars())) {
            long cost = linesCost(widths, sizes, w);
            if (cost < least) {
                least = cost;
                best = sizes;
            }
        }
        List<Integer> answer = new ArrayList<>();
        answer.add((int) least);
        answer.addAll(best);
        return answer;
    }

    private static long linesCost(int[] widths, List<Integer> sizes, int w) {
        long cost = 0;
        int b = 0;
        for (int size : sizes) {
            long left = w;
            for (int i = 0; i < size; i++) {
                left -= widths[b];
                b++;
            }
            if (left < 0 && size > 1) {
                return Long.MAX_VALUE;
            }
            if (left < 0) {
                cost += 10000 + left * left;
            } else if (b < widths.length) {
                cost += left * left;
            }
        }
        return cost;
    }

    /** Null: BAD, NO or LARGE, as linesNot tells. */
    List<int[]> lines(int low, int high, int bits) {
        List<int[]> all = new ArrayList<>();
        int[] keys = new int[line.size()];
        Arrays.fill(keys, low);
        while (true) {
            if (fits(keys, bits)) {
                all.add(keys.clone());
            }
            int i = keys.length - 1;
            while (i >= 0 && keys[i] == high) {
                keys[i] = low;
                i--;
            }
            if (i < 0) {
                return all;
            }
            keys[i]++;
        }
    }

    int linesNot(int low, int high, int bits) {
        if (low < 0 || low > 120 || high < 0 || high > 120 || low > high || bits < 0 || bits > 511) {
            return BAD;
        }
        if (line.isEmpty()) {
            return NO;
        }
        BigInteger rows = BigInteger.valueOf(high - low + 1).pow(line.size());
        return rows.compareTo(BigInteger.valueOf(100000)) > 0 ? LARGE : 0;
    }

    private boolean fits(int[] keys, int bits) {
        int n = keys.length;
        int[] distance = new int[n];
        int[] mod = new int[n];
        for (int i = 0; i < n; i++) {
            distance[i] = keys[i] - line.get(i).key;
            mod[i] = Math.floorMod(distance[i], 12);
        }
        boolean ok = true;
        for (int i = 0; i < n; i++) {
            boolean open = mod[i] == 0 || mod[i] == 7;
            ok &= (bits & 1) == 0 || List.of(0, 3, 4, 7, 8, 9).contains(mod[i]);
            ok &= (bits & 128) == 0 || List.of(0, 2, 4, 5, 7, 9, 11).contains(keys[i] % 12);
            ok &= (bits & 256) == 0 || distance[i] >= 0;
            if (i == 0) {
                ok &= (bits & 2) == 0 || open;
            }
            if (i == n - 1) {
                ok &= (bits & 2) == 0 || mod[i] == 0;
            }
            if (i > 0) {
                int move = keys[i] - keys[i - 1];
                int lineMove = line.get(i).key - line.get(i - 1).key;
                ok &= (bits & 4) == 0 || !(open && mod[i] == mod[i - 1] && move != 0);
                ok &= (bits & 8) == 0 || !(open && Integer.signum(move) * Integer.signum(lineMove) == 1);
                ok &= (bits & 16) == 0 || Math.abs(move) <= 7 || Math.abs(move) == 12;
                ok &= (bits & 32) == 0 || move != 0;
                if (i > 1) {
                    int leap = keys[i - 1] - keys[i - 2];
                    if ((bits & 64) != 0 && leap > 4) {
                        ok &= move == -1 || move == -2;
                    }
                    if ((bits & 64) != 0 && leap < -4) {
                        ok &= move == 1 || move == 2;
                    }
                }
            }
        }
        return ok;
    }

    BigInteger treeCount() {
        return treeCount(rules.get(0)[0], 0, row.size(), new HashMap<>());
    }

    private BigInteger treeCount(int name, int from, int to, Map<String, BigInteger> known) {
        String at = name + " " + from + " " + to;
        if (known.containsKey(at)) {
            return known.get(at);
        }
        BigInteger all = BigInteger.ZERO;
        for (int[] rule : rules) {
            if (rule[0] == name && rule[2] < 0 && to - from == 1 && row.get(from) == rule[1]) {
                all = all.add(BigInteger.ONE);
            }
            for (int cut = from + 1; rule[0] == name && rule[2] >= 0 && cut < to; cut++) {
                all = all.add(treeCount(rule[1], from, cut, known).multiply(treeCount(rule[2], cut, to, known)));
            }
        }
        known.put(at, all);
        return all;
    }

    int readings() {
        if (rules.isEmpty() || row.isEmpty()) {
            return NO;
        }
        BigInteger all = treeCount();
        return all.compareTo(BigInteger.valueOf(1000000)) > 0 ? LARGE : all.intValue();
    }

    /** All READINGS as rows of rules, by order. */
    List<List<Integer>> allTrees() {
        return allTrees(rules.get(0)[0], 0, row.size());
    }

    private List<List<Integer>> allTrees(int name, int from, int to) {
        List<List<Integer>> all = new ArrayList<>();
        for (int r = 0; r < rules.size(); r++) {
            int[] rule = rules.get(r);
            if (rule[0] != name) {
                continue;
            }
            if (rule[2] < 0 && to - from == 1 && row.get(from) == rule[1]) {
                all.add(List.of(r));
            }
            for (int cut = from + 1; rule[2] >= 0 && cut < to; cut++) {
                for (List<Integer> left : allTrees(rule[1], from, cut)) {
                    for (List<Integer> right : allTrees(rule[2], cut, to)) {
                        List<Integer> one = new ArrayList<>();
                        one.add(r);
                        one.addAll(left);
                        one.addAll(right);
                        all.add(one);
                    }
                }
            }
        }
        return all;
    }

    /** What laying beside one another comes to. */
    static final class Laid {
        int cost;
        int ways;
        List<Integer> partners = new ArrayList<>();
    }

    /** Null: not tried. */
    Laid beside(int v, int w) {
        List<Event> first = voices.get(v).sounding();
        List<Event> other = voices.get(w).sounding();
        if (first.size() + other.size() > 80) {
            return null;
        }
        Map<Integer, long[]> known = new HashMap<>();
        Laid laid = new Laid();
        long[] all = least(first, other, 0, 0, known);
        laid.cost = (int) all[0];
        laid.ways = (int) all[1];
        int i = 0;
        int j = 0;
        while (i < first.size() || j < other.size()) {
            long due = least(first, other, i, j, known)[0];
            if (i < first.size() && j < other.size()
                && due == pair(first.get(i), other.get(j)) + least(first, other, i + 1, j + 1, known)[0]) {
                laid.partners.add(j);
                i++;
                j++;
            } else if (i < first.size() && due == 5 + least(first, other, i + 1, j, known)[0]) {
                laid.partners.add(NO);
                i++;
            } else {
                j++;
            }
        }
        return laid;
    }

    private static int pair(Event e, Event o) {
        return Math.min(12, Math.abs(e.low() - o.low())) + (e.length.equals(o.length) ? 0 : 1);
    }

    private static long[] least(List<Event> first, List<Event> other, int i, int j, Map<Integer, long[]> known) {
        int at = i * 1000 + j;
        if (!known.containsKey(at)) {
            List<long[]> tried = new ArrayList<>();
            if (i == first.size() && j == other.size()) {
                tried.add(new long[] {0, 1});
            }
            if (i < first.size() && j < other.size()) {
                long[] rest = least(first, other, i + 1, j + 1, known);
                tried.add(new long[] {rest[0] + pair(first.get(i), other.get(j)), rest[1]});
            }
            if (i < first.size()) {
                long[] rest = least(first, other, i + 1, j, known);
                tried.add(new long[] {rest[0] + 5, rest[1]});
            }
            if (j < other.size()) {
                long[] rest = least(first, other, i, j + 1, known);
                tried.add(new long[] {rest[0] + 5, rest[1]});
            }
            long[] best = {Long.MAX_VALUE, 0};
            for (long[] one : tried) {
                if (one[0] < best[0]) {
                    best = one.clone();
                } else if (one[0] == best[0]) {
                    best[1] = (best[1] + one[1]) % 1000000007L;
                }
            }
            known.put(at, best);
        }
        return known.get(at);
    }

    double sample(int n, int rate) {
        double sum = 0.0;
        if (n < 0 || rate < 1 || rate > 10000) {
            return sum;
        }
        Ratio two = Ratio.of(2, 1);
        Ratio now = Ratio.of(n, rate);
        String[] ratios = {"1/1", "16/15", "9/8", "6/5", "5/4", "4/3", "45/32", "3/2", "8/5", "5/3", "9/5", "15/8"};
        for (Voice voice : voices) {
            for (Event e : voice.events) {
                Ratio since = now.minus(e.start.times(two));
                if (since.compareTo(Ratio.ZERO) < 0 || now.compareTo(e.end().times(two)) >= 0) {
                    continue;
                }
                for (Pitch p : e.part.pitches) {
                    String[] ratio = ratios[Math.floorMod(p.key, 12)].split("/");
                    Ratio frequency = Ratio.of(Integer.parseInt(ratio[0]), Integer.parseInt(ratio[1]));
                    frequency = frequency.times(Ratio.of(16, 1));
                    int octave = Math.floorDiv(p.key, 12);
                    frequency = frequency.times(octave < 0 ? Ratio.of(1, 1L << -octave) : Ratio.of(1L << octave, 1));
                    double x = frequency.times(since).beyond().asDouble();
                    double wave = x < 0.25 ? 4.0 * x : x < 0.75 ? 2.0 - 4.0 * x : 4.0 * x - 4.0;
                    double fade = 1.0 - since.asDouble() / e.length.times(two).asDouble();
                    sum += 0.25 * wave * fade;
                }
            }
        }
        return sum;
    }
}
