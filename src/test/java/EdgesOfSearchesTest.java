import java.util.Arrays;

/** Parts 6 to 8 and promises 16 to 22, sentence by sentence. */
public final class EdgesOfSearchesTest {
    private static final int LEAST = Integer.MIN_VALUE;
    private static final int MOST = Integer.MAX_VALUE;
    private static final String[] BY_KEY = {"C", "C#", "D", "D#", "E", "F", "F#", "G", "G#", "A", "A#", "B"};

    private EdgesOfSearchesTest() {
    }

    public static void main(String[] args) {
        rowsOfKeys();
        ruleOne();
        ruleTwo();
        ruleFour();
        ruleEight();
        ruleSixteen();
        ruleThirtyTwo();
        ruleSixtyFour();
        rule128();
        rule256();
        moreThan100000Rows();
        linesOfOthers();
        linesWithoutLine();
        secondOfNone();
        byOrderOfKeys();
        oneNameAlone();
        twoNames();
        firstRulesName();
        byOrderOfRules();
        sixteenthNameAtTheTwelfthPlace();
        moreThanAMillion();
        readingsWithoutRuleOrRow();
        treeOfNone();
        thatAreNoRests();
        besideCosts();
        oneAloneCostsFive();
        theFirstOfTheLeast();
        moreThan80Events();
        besideOfNone();
        partnerOfNone();
        waysBefore();
        waysModulo();
        Due.end("EdgesOfSearchesTest");
    }

    private static String pitch(int key) {
        return BY_KEY[key % 12] + key / 12;
    }

    private static PlainMusic line(int... keys) {
        StringBuilder text = new StringBuilder("line");
        for (int key : keys) {
            text.append(' ').append(pitch(key));
        }
        return Texts.scored(text.append(';').toString());
    }

    /** Whether one row, among all from its lowest KEY to its highest, is let be by the rules. */
    private static void row(PlainMusic music, int rules, boolean due, int... keys) {
        int low = keys[0];
        int high = keys[0];
        for (int key : keys) {
            low = Math.min(low, key);
            high = Math.max(high, key);
        }
        int all = music.lines(low, high, rules);
        boolean found = false;
        for (int k = 0; k < all && !found; k++) {
            found = true;
            for (int i = 0; i < keys.length; i++) {
                found &= music.second(k, i) == keys[i];
            }
        }
        Due.is("rule " + rules + " lets " + Arrays.toString(keys) + " be", found ? 1 : 0, due ? 1 : 0);
    }

    /** "rows of as many KEYS as line has PITCHES, each low .. high" */
    private static void rowsOfKeys() {
        PlainMusic music = line(48);
        Due.is("one KEY", music.lines(0, 0, 0), 1);
        Due.is("all KEYS", music.lines(0, 120, 0), 121);
        Due.is("the first", music.second(0, 0), 0);
        Due.is("the last", music.second(120, 0), 120);
        Due.is("the last alone", music.lines(120, 120, 0), 1);
        Due.is("it", music.second(0, 0), 120);
        music = line(48, 48, 48, 48, 48, 48, 48, 48);
        Due.is("two KEYS, eight places", music.lines(60, 61, 0), 256);
        for (int i = 0; i < 8; i++) {
            Due.is("the first row", music.second(0, i), 60);
            Due.is("the last row", music.second(255, i), 61);
        }
        Due.is("a ninth place", music.second(0, 8), -1);
    }

    /** "1: DISTANCES are 0, 3, 4, 7, 8 or 9 modulo 12." */
    private static void ruleOne() {
        PlainMusic music = line(50, 50);
        boolean[] due = {true, false, false, true, true, false, false, true, true, true, false, false};
        for (int key = 26; key <= 76; key++) {
            boolean is = due[Math.floorMod(key - 50, 12)];
            row(music, 1, is, key, 50);
            row(music, 1, is, 50, key);
            row(music, 0, true, key, 50);
        }
    }

    /** "2: the first one is 0 or 7, the last one 0, modulo 12." */
    private static void ruleTwo() {
        PlainMusic music = line(50, 50, 50);
        for (int key = 38; key <= 62; key++) {
            int distance = Math.floorMod(key - 50, 12);
            row(music, 2, distance == 0 || distance == 7, key, 50, 50);
            row(music, 2, true, 50, key, 50);
            row(music, 2, distance == 0, 50, 50, key);
        }
        row(line(50), 2, true, 62);
        row(line(50), 2, false, 57);
        row(line(50, 50), 2, true, 57, 50);
        row(line(50, 50), 2, false, 50, 57);
    }

    /** "4: no two DISTANCES one behind the other are 0 or 7 modulo 12, the same one, where the KEY moves." */
    private static void ruleFour() {
        PlainMusic music = line(50, 52);
        for (int apart = -13; apart <= 20; apart++) {
            int distance = Math.floorMod(apart, 12);
            row(music, 4, distance != 0 && distance != 7, 50 + apart, 52 + apart);
        }
        row(music, 4, true, 50, 59);
        row(music, 4, true, 57, 52);
        row(music, 4, false, 50, 64);
        row(music, 4, false, 57, 71);
        row(line(50, 50), 4, true, 50, 50);
        row(line(50, 50), 4, true, 57, 57);
        row(line(50, 50), 4, false, 50, 62);
        row(line(50, 62), 4, true, 62, 62);
        row(line(50, 52, 55), 4, true, 50, 56, 55);
    }

    /** "8: no DISTANCE, but the first, is 0 or 7 modulo 12 where both, KEY and line, rise, or both fall." */
    private static void ruleEight() {
        PlainMusic up = line(50, 52);
        PlainMusic down = line(52, 50);
        for (int key = 42; key <= 62; key++) {
            int distance = Math.floorMod(key - 52, 12);
            boolean perfect = distance == 0 || distance == 7;
            row(up, 8, !perfect, key - 1, key);
            row(up, 8, true, key, key);
            row(up, 8, true, key + 1, key);
            distance = Math.floorMod(key - 50, 12);
            perfect = distance == 0 || distance == 7;
            row(down, 8, true, key - 1, key);
            row(down, 8, true, key, key);
            row(down, 8, !perfect, key + 1, key);
        }
        row(line(50, 51), 8, false, 50, 51);
        row(line(51, 50), 8, false, 51, 50);
        row(line(50, 51), 8, false, 57, 58);
        row(line(50, 51), 8, true, 59, 58);
        row(line(50, 51), 1, false, 50, 53);
        row(line(50, 50), 8, true, 49, 50);
        row(line(50, 50), 8, true, 51, 50);
        row(up, 8, true, 50, 53);
        row(line(50, 52, 51), 8, false, 49, 54, 51);
        row(line(50, 52, 51), 8, true, 49, 54, 52);
    }

    /** "16: KEYS one behind the other are at most 7 apart, or 12." */
    private static void ruleSixteen() {
        PlainMusic music = line(50, 50);
        for (int apart = 0; apart <= 25; apart++) {
            row(music, 16, apart <= 7 || apart == 12, 50, 50 + apart);
            row(music, 16, apart <= 7 || apart == 12, 50 + apart, 50);
        }
    }

    /** "32: they are not the same." */
    private static void ruleThirtyTwo() {
        PlainMusic music = line(50, 50, 50);
        row(music, 32, true, 50, 51, 50);
        row(music, 32, false, 50, 50, 51);
        row(music, 32, false, 50, 51, 51);
        row(music, 32, true, 50, 62, 50);
        Due.is("one KEY alone", music.lines(50, 50, 32), 0);
        Due.is("two KEYS", music.lines(50, 51, 32), 2);
        row(line(50), 32, true, 50);
    }

    /** "64: behind two that are more than 4 apart the next one goes back, by 1 or 2." */
    private static void ruleSixtyFour() {
        PlainMusic music = line(50, 50, 50);
        for (int next = 40; next <= 70; next++) {
            row(music, 64, true, 50, 54, next);
            row(music, 64, true, 54, 50, next);
            row(music, 64, next == 54 || next == 53, 50, 55, next);
            row(music, 64, next == 51 || next == 52, 55, 50, next);
            row(music, 64, next == 61 || next == 60, 50, 62, next);
        }
        row(line(50, 50), 64, true, 50, 62);
        row(line(50, 50, 50, 50), 64, true, 50, 51, 50, 56);
        row(line(50, 50, 50, 50), 64, false, 50, 50, 56, 57);
    }

    /** "128: KEYS are 0, 2, 4, 5, 7, 9, 11 modulo 12." */
    private static void rule128() {
        boolean[] due = {true, false, true, false, true, true, false, true, false, true, false, true};
        PlainMusic music = line(50);
        for (int key = 0; key <= 120; key++) {
            Due.is("rule 128 lets " + key + " be", music.lines(key, key, 128), due[key % 12] ? 1 : 0);
        }
        row(line(50, 50), 128, false, 48, 49);
        row(line(50, 50), 128, false, 49, 48);
    }

    /** "256: no DISTANCE is below 0." */
    private static void rule256() {
        PlainMusic music = line(50, 55);
        row(music, 256, true, 50, 55);
        row(music, 256, false, 49, 55);
        row(music, 256, false, 50, 54);
        row(music, 256, true, 62, 60);
        row(line(0), 256, true, 0);
    }

    /** "Not tried: more than 100000 rows of KEYS in all." */
    private static void moreThan100000Rows() {
        int[] most = {121, 121, 46, 17, 10, 6, 5, 4};
        for (int places = 1; places <= 8; places++) {
            int[] keys = new int[places];
            Arrays.fill(keys, 50);
            PlainMusic music = line(keys);
            long all = 1;
            for (int i = 0; i < places; i++) {
                all *= most[places - 1];
            }
            Due.is("most rows of " + places, music.lines(0, most[places - 1] - 1, 0), all);
            Due.is("the last row", music.second((int) all - 1, places - 1), most[places - 1] - 1);
            if (places > 2) {
                Due.is("more rows of " + places, music.lines(0, most[places - 1], 0), -4);
                Due.is("more rows, by all RULES", music.lines(0, most[places - 1], 511), -4);
                Due.is("the latest tried", music.second((int) all - 1, places - 1), most[places - 1] - 1);
                Due.is("all KEYS", music.lines(0, 120, 0), -4);
            }
        }
    }

    /** Promise 16: "KEYS low .. high (0 .. 120) by these RULES (0 .. 511). BAD: others, or low is above high" */
    private static void linesOfOthers() {
        PlainMusic[] all = {new PlainMusic(), line(50), line(50, 50, 50, 50, 50, 50, 50, 50)};
        for (PlainMusic music : all) {
            for (int no : new int[] {-1, 121, 122, LEAST, MOST}) {
                Due.is("lines(" + no + ", " + no + ", 0)", music.lines(no, no, 0), -1);
                Due.is("lines(0, " + no + ", 0)", music.lines(0, no, 0), -1);
                Due.is("lines(" + no + ", 120, 0)", music.lines(no, 120, 0), -1);
            }
            for (int no : new int[] {-1, 512, 1024, LEAST, MOST}) {
                Due.is("lines(60, 60, " + no + ")", music.lines(60, 60, no), -1);
            }
            Due.is("lines(61, 60, 0)", music.lines(61, 60, 0), -1);
            Due.is("lines(120, 0, 0)", music.lines(120, 0, 0), -1);
        }
        Due.is("lines(0, 120, 0)", line(50).lines(0, 120, 0), 121);
        Due.is("lines(60, 60, 0)", line(50).lines(60, 60, 0), 1);
        Due.is("lines(62, 62, 511)", line(50).lines(62, 62, 511), 1);
    }

    /** "NO: the score has no line" */
    private static void linesWithoutLine() {
        Due.is("lines without anything", new PlainMusic().lines(0, 0, 0), -2);
        Due.is("lines without anything", new PlainMusic().lines(0, 120, 511), -2);
        Due.is("lines of a voice", Texts.scored("voice C4 4; row a; rule a = a;").lines(0, 120, 0), -2);
        Due.is("lines of a line", line(50).lines(0, 120, 0), 121);
    }

    /** Promise 17: "the latest lines() that was tried. BAD: none such." */
    private static void secondOfNone() {
        Due.is("second(0, 0) of a new object", new PlainMusic().second(0, 0), -1);
        PlainMusic music = line(50, 52, 53);
        Due.is("second(0, 0) before", music.second(0, 0), -1);
        Due.is("lines(60, 61, 0)", music.lines(60, 61, 0), 8);
        for (int no : new int[] {-1, 3, 8, LEAST, MOST}) {
            Due.is("second(0, " + no + ")", music.second(0, no), -1);
        }
        for (int no : new int[] {-1, 8, 99999, 100000, LEAST, MOST}) {
            Due.is("second(" + no + ", 0)", music.second(no, 0), -1);
        }
        Due.is("BAD", music.lines(1, 0, 0), -1);
        Due.is("LARGE", music.lines(0, 120, 0), -4);
        Due.is("the latest tried", music.second(7, 2), 61);
        Due.is("a tried one of none", music.lines(60, 60, 32), 0);
        Due.is("second(0, 0)", music.second(0, 0), -1);
    }

    /** "of two rows the one with the lesser KEY at the first place that is not alike" */
    private static void byOrderOfKeys() {
        PlainMusic music = line(50, 50, 50);
        int all = music.lines(58, 62, 32);
        Due.is("lines(58, 62, 32)", all, 5 * 4 * 4);
        for (int k = 1; k < all; k++) {
            int place = 0;
            while (place < 2 && music.second(k - 1, place) == music.second(k, place)) {
                place++;
            }
            Due.is("row " + k + " behind the one before", music.second(k - 1, place) < music.second(k, place) ? 1 : 0, 1);
        }
    }

    private static void reads(String text, int due) {
        Due.is("readings() of " + text, Texts.scored(text).readings(), due);
    }

    /** "by a rule a = b: one place, whose NAME is b" */
    private static void oneNameAlone() {
        reads("rule a = b; row b;", 1);
        reads("rule a = b; row a;", 0);
        reads("rule a = b; row b b;", 0);
        reads("rule a = a; row a;", 1);
        reads("rule a = b; rule b = c; row c;", 0);
        reads("rule a = b; rule a = b; row b;", 2);
        reads(Texts.times(24, "rule a = b;") + "row b;", 24);
    }

    /** "by a rule a = b c: the places are cut into two parts, of 1 at least" */
    private static void twoNames() {
        reads("rule a = b c; rule b = b; rule c = c; row b c;", 1);
        reads("rule a = b c; rule b = b; rule c = c; row c b;", 0);
        reads("rule a = b c; rule b = b; rule c = c; row b;", 0);
        reads("rule a = b c; row b c;", 0);
        reads("rule a = b c; rule b = b; rule c = c; row b b c;", 0);
        reads("rule a = a a; row a;", 0);
        reads("rule a = a a; rule a = b; row b;", 1);
        reads("rule a = a a; rule a = b; row b b;", 1);
        reads("rule a = a a; rule a = b; row b b b;", 2);
        reads("rule a = a a; rule a = b; row b b b b b b b b b b b b;", 58786);
        reads("rule a = b a; rule a = b; rule b = b; row b b b b b b b b b b b b;", 1);
    }

    /** "READINGS are the TREES for the first rule's a over all of row" */
    private static void firstRulesName() {
        reads("rule a = b; rule c = d; row d;", 0);
        reads("rule c = d; rule a = b; row d;", 1);
        reads("rule c = x y; rule x = x; rule y = y; row x y x;", 0);
        reads("rule b = a a; rule c = b; rule a = c; row c c;", 1);
    }

    /** "the lesser number of the rule (0, 1, .. as told), then the lesser left part, then the left TREES, then the right ones" */
    private static void byOrderOfRules() {
        PlainMusic music = Texts.scored("rule a = b; rule a = a a; rule a = b; row b b b;");
        Due.is("readings()", music.readings(), 16);
        String[] due = {"10100", "10102", "10120", "10122", "12100", "12102", "12120", "12122",
            "11000", "11002", "11020", "11022", "11200", "11202", "11220", "11222"};
        for (int k = 0; k < due.length; k++) {
            for (int i = 0; i < 5; i++) {
                Due.is("tree(" + k + ", " + i + ")", music.tree(k, i), due[k].charAt(i) - '0');
            }
        }
        music = Texts.scored("rule a = b b; rule a = c c; rule b = x; rule c = x; row x x;");
        Due.is("readings()", music.readings(), 2);
        Due.is("tree(0, 0)", music.tree(0, 0), 0);
        Due.is("tree(1, 0)", music.tree(1, 0), 1);
        Due.is("tree(0, 2)", music.tree(0, 2), 2);
        Due.is("tree(1, 2)", music.tree(1, 2), 3);
    }

    /** "Not tried: more than 1000000." */
    private static void moreThanAMillion() {
        String ten = Texts.times(10, "rule x=a;");
        String six = "rule s=x t;rule t=x u;rule u=x v;rule v=x w;rule w=x x;";
        PlainMusic music = Texts.scored(six + ten + "row a a a a a a;");
        Due.is("a million", music.readings(), 1000000);
        Due.is("the last rule of the last", music.tree(999999, 10), 14);
        Due.is("one beyond", music.tree(1000000, 0), -1);
        String one = "rule s=k m;rule m=k n;rule n=k o;rule o=k p;rule p=k k;rule k=a;";
        music = Texts.scored(six + ten + one + "row a a a a a a;");
        Due.is("a million and one", music.readings(), -4);
        Due.is("tree(0, 0)", music.tree(0, 0), -1);
        reads("rule a = a a;" + Texts.times(3, "rule a=b;") + "row" + Texts.times(9, " b") + ";", -4);
        reads("rule a = a a;" + Texts.times(3, "rule a=b;") + "row" + Texts.times(8, " b") + ";", -4);
        reads("rule a = a a;" + Texts.times(3, "rule a=b;") + "row" + Texts.times(7, " b") + ";", 132 * 2187);
        reads(Texts.times(12, "rule a=a a;") + Texts.times(12, "rule a=b;") + "row" + Texts.times(12, " b") + ";", -4);
    }

    /** The last NAME and the last place that there can be take part like all others. */
    private static void sixteenthNameAtTheTwelfthPlace() {
        PlainMusic music = Texts.scored("rule a=c d;rule e=f g;rule h=i j;rule k=l m;rule n=o b;rule a=a p;rule a=b;rule p=b;"
            + "row b b b b b b b b b b b b;");
        Due.is("readings() by sixteen NAMES", music.readings(), 1);
        for (int i = 0; i < 23; i++) {
            Due.is("tree(0, " + i + ") by sixteen NAMES", music.tree(0, i), i < 11 ? 5 : i == 11 ? 6 : 7);
        }
    }

    /** Promise 18: "NO: the score has no rule, or no row" */
    private static void readingsWithoutRuleOrRow() {
        Due.is("readings() without anything", new PlainMusic().readings(), -2);
        reads("rule a = b;", -2);
        reads("row b;", -2);
        reads("voice C4 4; line C4;", -2);
        reads("rule a = b; row b;", 1);
        reads("rule a = b; row c;", 0);
    }

    /** Promise 19: "the latest readings() that was tried", "BAD: none such." */
    private static void treeOfNone() {
        Due.is("tree(0, 0) of a new object", new PlainMusic().tree(0, 0), -1);
        PlainMusic music = Texts.scored("rule a = b b; rule b = c; row c c;");
        Due.is("tree(0, 0) before", music.tree(0, 0), -1);
        Due.is("readings()", music.readings(), 1);
        int[] due = {0, 1, 1};
        for (int i = 0; i < 3; i++) {
            Due.is("tree(0, " + i + ")", music.tree(0, i), due[i]);
        }
        for (int no : new int[] {-1, 3, 4, 23, LEAST, MOST}) {
            Due.is("tree(0, " + no + ")", music.tree(0, no), -1);
        }
        for (int no : new int[] {-1, 1, 2, 1000000, LEAST, MOST}) {
            Due.is("tree(" + no + ", 0)", music.tree(no, 0), -1);
        }
        music = Texts.scored("rule a = b; row c;");
        Due.is("readings() of none", music.readings(), 0);
        Due.is("tree(0, 0) of none", music.tree(0, 0), -1);
        music = Texts.scored("rule a=a a;rule a=b;row b b b b b b b b b b b b;");
        music.readings();
        Due.is("tree(58785, 22)", music.tree(58785, 22), 1);
        Due.is("tree(58785, 23)", music.tree(58785, 23), -1);
        Due.is("tree(58786, 0)", music.tree(58786, 0), -1);
    }

    private static void laid(String text, int cost, int ways, int... partners) {
        PlainMusic music = Texts.scored(text);
        Due.is("beside(0, 1) of " + text, music.beside(0, 1), cost);
        Due.is("ways() of " + text, music.ways(), ways);
        partners(music, partners);
    }

    private static void partners(PlainMusic music, int... due) {
        for (int i = 0; i < due.length; i++) {
            Due.is("partner(" + i + ")", music.partner(i), due[i]);
        }
        for (int i : new int[] {-1, due.length, due.length + 1, 80, 81, 300, LEAST, MOST}) {
            Due.is("partner(" + i + ")", music.partner(i), i >= 0 && i < due.length ? due[i] : -1);
        }
    }

    /** "of two voices the EVENTS that are no rests" */
    private static void thatAreNoRests() {
        laid("voice; voice;", 0, 1);
        laid("voice r4 r4; voice r4;", 0, 1);
        laid("voice r4 C4 4 r4; voice C4 4;", 0, 1, 0);
        laid("voice r4 C4 4; voice r4 r4 r4 C4 4 r4 D4 4;", 5, 1, 0);
        laid("voice C4 4 r4 D4 4; voice r4 D4 4;", 5, 1, -2, 0);
    }

    /** "Two beside one another cost by how many their lowest KEYS are apart (12 at most), and 1 more if .. LENGTHS .." */
    private static void besideCosts() {
        laid("voice C4 4; voice C4 4;", 0, 1, 0);
        laid("voice C4 4; voice C4 8;", 1, 1, 0);
        laid("voice C4 4; voice {2/1:C4 2};", 0, 1, 0);
        laid("voice C4 4.; voice {2/3:C4 4};", 0, 1, 0);
        laid("voice C4 4; voice A4 4;", 9, 1, 0);
        laid("voice A4 4; voice C4 4;", 9, 1, 0);
        laid("voice C4 4; voice A4 8;", 10, 3, 0);
        laid("voice C4 4; voice A#4 4;", 10, 3, 0);
        laid("voice C4 4; voice A#4 8;", 10, 2, -2);
        laid("voice C4 4; voice B4 4;", 10, 2, -2);
        laid("voice C4 4; voice C5 4;", 10, 2, -2);
        laid("voice <C4 E8>4; voice <C4 D4>4;", 0, 1, 0);
        laid("voice <C4 E4>4; voice <D4 E4>4;", 2, 1, 0);
    }

    /** "one alone costs 5" */
    private static void oneAloneCostsFive() {
        laid("voice C4 4; voice;", 5, 1, -2);
        laid("voice; voice C4 4;", 5, 1);
        laid("voice C4 4 C4 4 C4 4; voice r1;", 15, 1, -2, -2, -2);
        laid("voice C4 4 D4 4; voice D4 4;", 5, 1, -2, 0);
    }

    /** "two beside one another come before one of the first voice alone, that before one of the second one" */
    private static void theFirstOfTheLeast() {
        laid("voice C4 4 C4 4; voice C4 4;", 5, 2, 0, -2);
        laid("voice C4 4; voice C4 4 C4 4;", 5, 2, 0);
        laid("voice C4 4 A#4 4; voice A#4 4 C4 4;", 10, 2, -2, 0);
        laid("voice C0 4; voice C8 4;", 10, 2, -2);
        laid("voice C4 4; voice A4 8 C8 4;", 15, 4, 0);
    }

    /** "Not tried: more than 80 EVENTS." They are those of both voices that are no rests. */
    private static void moreThan80Events() {
        PlainMusic music = Texts.scored("voice " + Texts.times(40, "C464r64") + ";voice " + Texts.times(40, "C464") + ";voice "
            + Texts.times(41, "C464") + ";voice " + Texts.times(39, "r64C464r64") + ";");
        Due.is("40 and 40", music.beside(0, 1), 0);
        Due.is("the last one's", music.partner(39), 39);
        Due.is("41 and 39", music.beside(2, 3), 10);
        Due.is("39 and 41", music.beside(3, 2), 10);
        Due.is("40 and 41", music.beside(0, 2), -4);
        Due.is("41 and 40", music.beside(2, 1), -4);
        Due.is("the latest tried", music.partner(38) >= 0 ? 1 : 0, 1);
        Due.is("the latest tried", music.partner(39), -1);
        Due.is("40 beside itself", music.beside(1, 1), 0);
        Due.is("41 beside itself", music.beside(2, 2), -4);
        music = Texts.scored("voice " + Texts.times(80, "C464") + ";voice;voice C4 64;voice " + Texts.times(81, "C464") + ";");
        Due.is("80 and none", music.beside(0, 1), 400);
        Due.is("none and 80", music.beside(1, 0), 400);
        Due.is("80 and one", music.beside(0, 2), -4);
        Due.is("one and 80", music.beside(2, 0), -4);
        Due.is("81 and none", music.beside(3, 1), -4);
        Due.is("none and 81", music.beside(1, 3), -4);
        music = Texts.scored("voice [" + Texts.times(150, "C464") + "];voice [" + Texts.times(150, "r64") + "];");
        Due.is("300 and 300", music.beside(0, 0), -4);
        Due.is("300 and rests", music.beside(0, 1), -4);
        Due.is("rests and rests", music.beside(1, 1), 0);
    }

    /** Promise 20: "BAD: none such (v may be w)" */
    private static void besideOfNone() {
        Due.is("beside(0, 0) without voice", new PlainMusic().beside(0, 0), -1);
        PlainMusic music = Texts.scored("voice C4 4;voice D4 4;");
        Due.is("beside(1, 1)", music.beside(1, 1), 0);
        Due.is("beside(0, 1)", music.beside(0, 1), 2);
        Due.is("beside(1, 0)", music.beside(1, 0), 2);
        for (int no : new int[] {-1, 2, 3, 4, 5, LEAST, MOST}) {
            Due.is("beside(0, " + no + ")", music.beside(0, no), -1);
            Due.is("beside(" + no + ", 0)", music.beside(no, 0), -1);
            Due.is("beside(" + no + ", " + no + ")", music.beside(no, no), -1);
        }
        music = Texts.scored(Texts.times(4, "voice C4 4;"));
        Due.is("beside(3, 3)", music.beside(3, 3), 0);
        Due.is("beside(4, 3)", music.beside(4, 3), -1);
    }

    /** Promise 21: "Of the latest beside() that was tried", "NO: beside none. BAD: none such." */
    private static void partnerOfNone() {
        partners(new PlainMusic());
        PlainMusic music = Texts.scored("voice C4 4 C8 4 D4 4;voice C4 4 D4 4;voice;voice " + Texts.times(81, "C464") + ";");
        partners(music);
        Due.is("beside(0, 1)", music.beside(0, 1), 5);
        partners(music, 0, -2, 1);
        Due.is("BAD", music.beside(0, 4), -1);
        partners(music, 0, -2, 1);
        Due.is("LARGE", music.beside(0, 3), -4);
        partners(music, 0, -2, 1);
        Due.is("beside(2, 0)", music.beside(2, 0), 15);
        partners(music);
        Due.is("beside(0, 2)", music.beside(0, 2), 15);
        partners(music, -2, -2, -2);
    }

    /** Promise 22: "0 before" */
    private static void waysBefore() {
        Due.is("ways() of a new object", new PlainMusic().ways(), 0);
        PlainMusic music = Texts.scored("voice C4 4 C4 4;voice C4 4;voice " + Texts.times(81, "C464") + ";");
        Due.is("ways() before", music.ways(), 0);
        music.beside(0, 5);
        music.beside(0, 2);
        Due.is("ways() when none was tried", music.ways(), 0);
        music.beside(0, 1);
        Due.is("ways()", music.ways(), 2);
        music.beside(0, 5);
        music.beside(0, 2);
        Due.is("ways() of the latest tried", music.ways(), 2);
        music.beside(1, 1);
        Due.is("ways()", music.ways(), 1);
    }

    /** "modulo 1000000007": 2 n over n ways, of two voices of n that are far apart. */
    private static void waysModulo() {
        long[] due = {1, 2, 6, 20, 70, 252, 924, 3432, 12870, 48620, 184756, 705432, 2704156, 10400600, 40116600, 155117520,
            601080390, 2333606220L % 1000000007L, 9075135300L % 1000000007L};
        for (int n = 0; n < due.length; n++) {
            PlainMusic music = Texts.scored("voice " + Texts.times(n, "C064") + ";voice " + Texts.times(n, "C864") + ";");
            Due.is("beside(0, 1) of " + n, music.beside(0, 1), 10 * n);
            Due.is("ways() of " + n, music.ways(), due[n]);
        }
    }
}
