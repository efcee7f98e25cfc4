import java.math.BigInteger;
import java.util.List;

/** Promises 16 to 22: lines, second, readings, tree, beside, partner, ways. */
public final class SearchesTest {
    private SearchesTest() {
    }

    public static void main(String[] args) {
        secondsOfOne();
        secondsOfTwo();
        secondsOfThree();
        secondsNotTried();
        secondsStay();
        everyRule();
        trees();
        treesByOrder();
        treesNotTried();
        treesStay();
        pairs();
        firstOfTheLeast();
        manyWays();
        pairsNotTried();
        pairsStay();
        Due.end("SearchesTest");
    }

    // ---- SECOND VOICES

    private static void rows(PlainMusic music, int low, int high, int rules, int[]... due) {
        String call = "lines(" + low + ", " + high + ", " + rules + ")";
        Due.is(call, music.lines(low, high, rules), due.length);
        for (int k = 0; k < due.length; k++) {
            for (int i = 0; i < due[k].length; i++) {
                Due.is("second(" + k + ", " + i + ") after " + call, music.second(k, i), due[k][i]);
            }
            Due.is("second(" + k + ", -1) after " + call, music.second(k, -1), -1);
            Due.is("second(" + k + ", " + due[k].length + ") after " + call, music.second(k, due[k].length), -1);
        }
        for (int k : new int[] {-1, due.length, 100000, Integer.MIN_VALUE, Integer.MAX_VALUE}) {
            Due.is("second(" + k + ", 0) after " + call, music.second(k, 0), -1);
        }
    }

    private static int[] row(int... keys) {
        return keys;
    }

    private static void secondsOfOne() {
        PlainMusic music = Texts.scored("line C4;");
        Due.is("second(0, 0) before lines", music.second(0, 0), -1);
        Due.is("all", music.lines(0, 120, 0), 121);
        Due.is("the last", music.second(120, 0), 120);
        Due.is("by 1", music.lines(0, 120, 1), 61);
        Due.is("by 2", music.lines(0, 120, 2), 11);
        Due.is("by 128", music.lines(0, 120, 128), 71);
        Due.is("by 256", music.lines(0, 120, 256), 73);
        Due.is("by the others", music.lines(0, 120, 4 + 8 + 16 + 32 + 64), 121);
        rows(music, 47, 60, 1, row(48), row(51), row(52), row(55), row(56), row(57), row(60));
        rows(music, 36, 47, 1, row(36), row(39), row(40), row(43), row(44), row(45));
        rows(music, 48, 60, 2, row(48), row(60));
        rows(music, 48, 59, 128, row(48), row(50), row(52), row(53), row(55), row(57), row(59));
        rows(music, 46, 49, 256, row(48), row(49));
        rows(music, 49, 49, 2);
        rows(music, 120, 120, 511, row(120));
        rows(Texts.scored("line Cbb0;"), 0, 2, 1, row(1), row(2));
    }

    private static void secondsOfTwo() {
        PlainMusic music = Texts.scored("line C4 D4;");
        rows(music, 60, 61, 0, row(60, 60), row(60, 61), row(61, 60), row(61, 61));
        rows(music, 60, 62, 32, row(60, 61), row(60, 62), row(61, 60), row(61, 62), row(62, 60), row(62, 61));
        Due.is("by 16", music.lines(48, 61, 16), 158);
        rows(music, 50, 57, 2, row(55, 50));
        rows(music, 60, 62, 2, row(60, 62));
        rows(music, 60, 62, 6);
        Due.is("by 4", music.lines(60, 62, 4), 8);
        rows(music, 60, 62, 10);
        Due.is("by 8", music.lines(60, 62, 8), 7);
        rows(music, 36, 45, 8 + 2, row(43, 38));
        rows(music, 62, 67, 8 + 2, row(67, 62));
        rows(music, 55, 57, 1, row(55, 57), row(56, 57), row(57, 57));
        rows(music, 55, 57, 4 + 1, row(56, 57), row(57, 57));
        Due.is("the widest that is tried", music.lines(0, 120, 0), 14641);
        Due.is("its first", music.second(0, 1), 0);
        Due.is("its 121st", music.second(121, 0), 1);
        Due.is("its last", music.second(14640, 0), 120);
        rows(Texts.scored("line D4 C4;"), 60, 62, 8 + 2);
        rows(Texts.scored("line C4 C4;"), 60, 62, 8 + 32 + 2);
        rows(Texts.scored("line C4 C4;"), 55, 60, 8 + 32 + 2, row(55, 60));
        rows(Texts.scored("line C4 C4;"), 60, 60, 4 + 8, row(60, 60));
        rows(Texts.scored("line C4 C4;"), 60, 72, 4 + 2, row(60, 60), row(67, 60), row(67, 72), row(72, 72));
    }

    private static void secondsOfThree() {
        PlainMusic music = Texts.scored("line C4 C4 C4;");
        music.lines(55, 60, 64);
        int seen = 0;
        for (int k = 0; music.second(k, 0) >= 0; k++) {
            if (music.second(k, 0) == 55 && music.second(k, 1) == 60) {
                Due.is("behind a leap up", music.second(k, 2), 58 + seen);
                seen++;
            }
        }
        Due.is("two ways back down", seen, 2);
        seen = 0;
        for (int k = 0; music.second(k, 0) >= 0; k++) {
            if (music.second(k, 0) == 60 && music.second(k, 1) == 55) {
                Due.is("behind a leap down", music.second(k, 2), 56 + seen);
                seen++;
            }
        }
        Due.is("two ways back up", seen, 2);
        Due.is("by 64", music.lines(55, 60, 64), 216 - 2 * 4);
        Due.is("of four apart", music.lines(55, 59, 64), 125);
        music = Texts.scored("line C4 D4 E4 F4 G4;");
        Due.is("all of five", music.lines(50, 59, 0), 100000);
        for (int i = 0; i < 5; i++) {
            Due.is("row 12345, KEY " + i, music.second(12345, i), 51 + i);
            Due.is("the last row, KEY " + i, music.second(99999, i), 59);
        }
        Due.is("behind the last row", music.second(100000, 0), -1);
    }

    private static void secondsNotTried() {
        PlainMusic music = new PlainMusic();
        int[][] bad = {{-1, 5, 0}, {0, 121, 0}, {6, 5, 0}, {0, 5, -1}, {0, 5, 512}, {121, 121, 0},
            {Integer.MIN_VALUE, Integer.MAX_VALUE, 0}, {0, 5, Integer.MAX_VALUE}, {0, Integer.MAX_VALUE, 0}};
        for (int[] call : bad) {
            Due.is("lines without line", music.lines(call[0], call[1], call[2]), -1);
        }
        Due.is("lines without line", music.lines(0, 120, 511), -2);
        music = Texts.scored("line C4 D4 E4 F4 G4 A4;");
        for (int[] call : bad) {
            Due.is("lines(..)", music.lines(call[0], call[1], call[2]), -1);
        }
        Due.is("10 to the power of 6", music.lines(50, 59, 0), -4);
        Due.is("7 to the power of 6", music.lines(50, 56, 0), -4);
        Due.is("6 to the power of 6", music.lines(50, 55, 0), 46656);
        music = Texts.scored("line C4 D4 E4;");
        Due.is("47 to the power of 3", music.lines(0, 46, 511), -4);
        Due.is("46 to the power of 3", music.lines(0, 45, 0), 97336);
        music = Texts.scored("line C4 D4 E4 F4 G4 A4 B4 C5;");
        Due.is("5 to the power of 8", music.lines(0, 4, 0), -4);
        Due.is("121 to the power of 8", music.lines(0, 120, 511), -4);
        Due.is("4 to the power of 8", music.lines(57, 60, 0), 65536);
        Due.is("1 to the power of 8", music.lines(60, 60, 0), 1);
        Due.is("the one", music.second(0, 7), 60);
        Due.is("the one, beyond", music.second(0, 8), -1);
    }

    private static void secondsStay() {
        PlainMusic music = Texts.scored("line C4 D4 E4;");
        Due.is("lines(60, 61, 0)", music.lines(60, 61, 0), 8);
        Due.is("LARGE", music.lines(0, 120, 0), -4);
        Due.is("BAD", music.lines(0, 120, 512), -1);
        Texts.feedExactly(music, "line @");
        music.score();
        Due.is("second behind them", music.second(7, 2), 61);
        Due.is("none such", music.second(8, 2), -1);
        Due.is("lines(60, 60, 0)", music.lines(60, 60, 0), 1);
        Due.is("second of the latest", music.second(1, 0), -1);
        Texts.feedExactly(music, "line C4 D4 E4;");
        music.score();
        Due.is("second of another score", music.second(0, 0), -1);
        Due.is("lines(70, 71, 0)", music.lines(70, 71, 0), 8);
        Due.is("no row", music.lines(70, 70, 3), 0);
        Due.is("second of no row", music.second(0, 0), -1);
    }

    /** Each RULE, alone and with others, beside the oracle. */
    private static void everyRule() {
        String[] texts = {"line C4 E4 D4 G4;", "line E4 E4 F4;", "line Cb4 Bb3 C4 D4 C4;", "line D0 C0;"};
        int[] lows = {46, 55, 57, 0};
        int[] highs = {62, 80, 65, 40};
        for (int t = 0; t < texts.length; t++) {
            PlainMusic music = Texts.scored(texts[t]);
            Oracle oracle = new Oracle(texts[t]);
            for (int rules = 0; rules < 512; rules += t == 0 || rules < 16 ? 1 : 17) {
                int low = Integer.bitCount(rules) > 2 ? lows[t] : highs[t] - 8;
                List<int[]> due = oracle.lines(low, highs[t], rules);
                Due.is("lines by " + rules + " to " + texts[t], music.lines(low, highs[t], rules), due.size());
                for (int k = 0; k < due.size(); k += 1 + due.size() / 20) {
                    for (int i = 0; i < due.get(k).length; i++) {
                        Due.is("second(" + k + ", " + i + ") by " + rules, music.second(k, i), due.get(k)[i]);
                    }
                }
            }
        }
    }

    // ---- READINGS

    private static void read(String text, int... due) {
        PlainMusic music = Texts.scored(text);
        Due.is("readings() of " + text, music.readings(), 1);
        for (int i = 0; i < due.length; i++) {
            Due.is("tree(0, " + i + ") of " + text, music.tree(0, i), due[i]);
        }
        Due.is("tree(0, -1) of " + text, music.tree(0, -1), -1);
        Due.is("tree(0, " + due.length + ") of " + text, music.tree(0, due.length), -1);
        Due.is("tree(1, 0) of " + text, music.tree(1, 0), -1);
        Due.is("tree(-1, 0) of " + text, music.tree(-1, 0), -1);
    }

    private static void trees() {
        read("rule a=b; row b;", 0);
        read("rule a=a; row a;", 0);
        read("rule a=x; rule a=b; row b;", 1);
        read("rule s=t d; rule t=c; rule d=g; row c g;", 0, 1, 2);
        read("row c g c; rule s=t p; rule t=c; rule d=g; rule p=d t;", 0, 1, 3, 2, 1);
        read("rule s=p t; rule p=t d; rule t=c; rule d=g; row c g c;", 0, 1, 2, 3, 2);
        String[] none = {"rule a=b; row a;", "rule a=b; row b b;", "rule a=b c; row b c;", "rule a=b; rule c=d; row d;",
            "rule s=t d; rule t=c; row c g;", "rule s=s s; row s;"};
        for (String text : none) {
            PlainMusic music = Texts.scored(text);
            Due.is("readings() of " + text, music.readings(), 0);
            Due.is("tree(0, 0) of " + text, music.tree(0, 0), -1);
        }
        Due.is("readings() without rule", Texts.scored("row a;").readings(), -2);
        Due.is("readings() without row", Texts.scored("rule a=b;").readings(), -2);
        Due.is("like rules", Texts.scored("rule a=b; rule a=b; row b;").readings(), 2);
        int[] catalan = {1, 1, 2, 5, 14, 42, 132, 429, 1430, 4862, 16796, 58786};
        for (int n = 1; n <= 12; n++) {
            PlainMusic music = Texts.scored("rule s=s s; rule s=a; row" + Texts.times(n, " a") + ";");
            Due.is("TREES of " + n, music.readings(), catalan[n - 1]);
            Due.is("the last one's last rule", music.tree(catalan[n - 1] - 1, 2 * n - 2), 1);
            Due.is("beyond", music.tree(catalan[n - 1] - 1, 2 * n - 1), -1);
            Due.is("beyond", music.tree(catalan[n - 1], 0), -1);
        }
    }

    private static void treesByOrder() {
        PlainMusic music = Texts.scored("rule s=s s; rule s=a; rule s=a; row a a a;");
        Due.is("readings()", music.readings(), 16);
        String[] due = {"01011", "01012", "01021", "01022", "02011", "02012", "02021", "02022",
            "00111", "00112", "00121", "00122", "00211", "00212", "00221", "00222"};
        for (int k = 0; k < due.length; k++) {
            for (int i = 0; i < 5; i++) {
                Due.is("tree(" + k + ", " + i + ")", music.tree(k, i), due[k].charAt(i) - '0');
            }
        }
        for (int k : new int[] {-1, 16, Integer.MIN_VALUE, Integer.MAX_VALUE}) {
            Due.is("tree(" + k + ", 0)", music.tree(k, 0), -1);
        }
        for (int i : new int[] {-1, 5, 23, 24, Integer.MIN_VALUE, Integer.MAX_VALUE}) {
            Due.is("tree(0, " + i + ")", music.tree(0, i), -1);
        }
        String text = "rule s=x y; rule s=s x; rule x=a; rule s=y s; rule y=a; rule x=x y; rule y=b; rule s=b; row a b a b a;";
        Oracle oracle = new Oracle(text);
        List<List<Integer>> all = oracle.allTrees();
        music = Texts.scored(text);
        Due.is("readings() of " + text, music.readings(), all.size());
        for (int k = 0; k < all.size(); k++) {
            for (int i = 0; i < 9; i++) {
                Due.is("tree(" + k + ", " + i + ") of " + text, music.tree(k, i), all.get(k).get(i));
            }
        }
    }

    private static void treesNotTried() {
        String million = "rule s=x t;rule t=x u;rule u=x v;rule v=x w;rule w=x x;" + Texts.times(10, "rule x=a;");
        PlainMusic music = Texts.scored(million + "row a a a a a a;");
        Due.is("a million", music.readings(), 1000000);
        int[] due = {0, 7, 1, 6, 2, 5, 3, 6, 4, 7, 8};
        for (int i = 0; i < due.length; i++) {
            Due.is("tree(210123, " + i + ")", music.tree(210123, i), due[i]);
        }
        Due.is("tree(999999, 10)", music.tree(999999, 10), 14);
        Due.is("tree(1000000, 0)", music.tree(1000000, 0), -1);
        music = Texts.scored(million + "rule s=z x; rule z=y y; rule y=y y; rule y=b; row a a a a a a;");
        Due.is("a million, and none more", music.readings(), 1000000);
        music = Texts.scored(million + "rule w=y x; rule y=a; row a a a a a a;");
        Due.is("a million and 100000", music.readings(), -4);
        Due.is("tree(0, 0)", music.tree(0, 0), -1);
        music = Texts.scored(million + "rule s=k m;rule m=k n;rule n=k o;rule o=k p;rule p=k k;rule k=a;row a a a a a a;");
        Due.is("a million and 1", music.readings(), -4);
        Due.is("tree(0, 0)", music.tree(0, 0), -1);
        String most = Texts.times(12, "rule a=a a;") + Texts.times(12, "rule a=a;");
        music = Texts.scored(most + "row a a a a a a a a a a a a;");
        Due.is("the most that can be", music.readings(), -4);
        Due.is("tree(0, 0)", music.tree(0, 0), -1);
        music = Texts.scored("rule s=a z;" + Texts.times(11, "rule a=a a;") + Texts.times(11, "rule a=a;")
            + "rule z=z; row a a a a a a a a a a a z;");
        Due.is("nearly the most that can be", music.readings(), -4);
        music = Texts.scored("rule s=z a;" + Texts.times(11, "rule a=a a;") + Texts.times(11, "rule a=a;")
            + "row a a a a a a a a a a a a;");
        Due.is("many parts, no whole", music.readings(), 0);
    }

    private static void treesStay() {
        PlainMusic music = Texts.scored("rule a=b; row b;");
        Due.is("tree(0, 0) before readings", music.tree(0, 0), -1);
        music.readings();
        Texts.feedExactly(music, "rule @");
        music.score();
        Due.is("tree(0, 0) behind a FAULT", music.tree(0, 0), 0);
        Texts.feedExactly(music, "rule a=b; row b;");
        music.score();
        Due.is("tree(0, 0) of another score", music.tree(0, 0), -1);
    }

    // ---- BESIDE ONE ANOTHER

    private static void laid(String text, int cost, int ways, int... partners) {
        PlainMusic music = Texts.scored(text);
        Due.is("ways() before beside", music.ways(), 0);
        Due.is("partner(0) before beside", music.partner(0), -1);
        Due.is("beside(0, 1) of " + text, music.beside(0, 1), cost);
        Due.is("ways() of " + text, music.ways(), ways);
        for (int i = 0; i < partners.length; i++) {
            Due.is("partner(" + i + ") of " + text, music.partner(i), partners[i]);
        }
        for (int i : new int[] {-1, partners.length, 80, 81, Integer.MIN_VALUE, Integer.MAX_VALUE}) {
            Due.is("partner(" + i + ") of " + text, music.partner(i), -1);
        }
    }

    private static void pairs() {
        laid("voice; voice;", 0, 1);
        laid("voice C4 4; voice;", 5, 1, -2);
        laid("voice; voice C4 4 D4 4;", 10, 1);
        laid("voice r4; voice r4 r4;", 0, 1);
        laid("voice C4 4; voice C4 4;", 0, 1, 0);
        laid("voice C4 4; voice C4 8;", 1, 1, 0);
        laid("voice C4 4; voice {1/2:C4 8};", 0, 1, 0);
        laid("voice C4 4.; voice C4 4;", 1, 1, 0);
        laid("voice {3/2:C4 4.}; voice C4 4;", 0, 1, 0);
        laid("voice C4 4; voice E4 4;", 4, 1, 0);
        laid("voice E4 4; voice C4 8;", 5, 1, 0);
        laid("voice C4 4; voice A4 4;", 9, 1, 0);
        laid("voice C4 4; voice A4 8;", 10, 3, 0);
        laid("voice C4 4; voice Bb4 4;", 10, 3, 0);
        laid("voice C4 4; voice B4 4;", 10, 2, -2);
        laid("voice C8 4; voice C0 4;", 10, 2, -2);
        laid("voice <C4 G4>4; voice <C4 A4>4;", 0, 1, 0);
        laid("voice <C4 G4>4; voice <D4 G4>4;", 2, 1, 0);
        laid("voice r4 C4 4 r4 D4 4; voice D4 4 r4;", 5, 1, -2, 0);
        laid("voice C4 4 D4 4; voice r2 C4 4 r2;", 5, 1, 0, -2);
    }

    private static void firstOfTheLeast() {
        laid("voice C4 4 C4 4; voice C4 4;", 5, 2, 0, -2);
        laid("voice C4 4; voice C4 4 C4 4;", 5, 2, 0);
        laid("voice C4 4 C4 4 C4 4; voice C4 4;", 10, 3, 0, -2, -2);
        laid("voice C4 4 C8 4; voice C0 4 C4 4;", 10, 1, 1, -2);
        laid("voice C4 4 C8 4; voice C0 4 C6 4;", 20, 6, -2, -2);
        laid("voice C4 4 Bb4 4; voice Bb4 4 C4 4;", 10, 2, -2, 0);
        laid("voice C4 4 D4 4 E4 4; voice E4 4 C4 4 D4 4;", 8, 1, 0, 1, 2);
        laid("voice C4 4 A4 4; voice A4 4 C4 4;", 10, 2, -2, 0);
        laid("voice C4 4 A4 4 C5 4; voice A4 8 C5 4;", 6, 1, -2, 0, 1);
        laid("voice C4 4 C#4 4; voice C#4 4 C4 4;", 2, 1, 0, 1);
        laid("voice C4 4 C8 4 C4 4; voice C4 4 C0 4 C4 4;", 10, 2, 0, -2, 2);
    }

    private static void manyWays() {
        PlainMusic music = Texts.scored("voice " + Texts.times(40, "C4 64 ") + "; voice " + Texts.times(40, "C8 64 ") + ";");
        Due.is("40 beside 40", music.beside(0, 1), 400);
        Due.is("80 over 40, modulo 1000000007", music.ways(),
            choose(80, 40).mod(BigInteger.valueOf(1000000007)).intValue());
        Due.is("partner(39)", music.partner(39), -2);
        Due.is("partner(40)", music.partner(40), -1);
        Due.is("beside itself", music.beside(0, 0), 0);
        Due.is("ways beside itself", music.ways(), 1);
        Due.is("partner(39) of itself", music.partner(39), 39);
        music = Texts.scored("voice " + Texts.times(80, "C4 64 ") + "; voice;");
        Due.is("80 beside none", music.beside(0, 1), 400);
        Due.is("partner(79)", music.partner(79), -2);
        Due.is("none beside 80", music.beside(1, 0), 400);
        Due.is("ways()", music.ways(), 1);
        Due.is("partner(0)", music.partner(0), -1);
    }

    private static BigInteger choose(int n, int k) {
        BigInteger all = BigInteger.ONE;
        for (int i = 1; i <= k; i++) {
            all = all.multiply(BigInteger.valueOf(n - k + i)).divide(BigInteger.valueOf(i));
        }
        return all;
    }

    private static void pairsNotTried() {
        PlainMusic music = new PlainMusic();
        Due.is("beside without voice", music.beside(0, 0), -1);
        music = Texts.scored("voice " + Texts.times(41, "C4 64 r 64 ") + "; voice " + Texts.times(40, "C4 64 ")
            + "; voice " + Texts.times(39, "C4 64 ") + "; voice " + Texts.times(100, "r64") + ";");
        Due.is("41 and 39", music.beside(0, 2), 10);
        Due.is("partner(40)", music.partner(40), -2);
        Due.is("41 and 40", music.beside(0, 1), -4);
        Due.is("41 and 41", music.beside(0, 0), -4);
        Due.is("partner(40)", music.partner(40), -2);
        Due.is("ways()", music.ways(), 820);
        Due.is("40 and 40", music.beside(1, 1), 0);
        Due.is("41 and none but rests", music.beside(0, 3), 205);
        for (int v : new int[] {-1, 4, 5, Integer.MIN_VALUE, Integer.MAX_VALUE}) {
            Due.is("beside(" + v + ", 0)", music.beside(v, 0), -1);
            Due.is("beside(0, " + v + ")", music.beside(0, v), -1);
        }
    }

    private static void pairsStay() {
        PlainMusic music = Texts.scored("voice C4 4 D4 4; voice D4 4;");
        music.beside(0, 1);
        music.beside(0, 2);
        music.beside(-1, 0);
        Texts.feedExactly(music, "@");
        music.score();
        Due.is("partner(1) behind BAD and a FAULT", music.partner(1), 0);
        Due.is("ways() behind BAD and a FAULT", music.ways(), 1);
        Texts.feedExactly(music, "voice C4 4 D4 4; voice D4 4;");
        music.score();
        Due.is("partner(1) of another score", music.partner(1), -1);
        Due.is("ways() of another score", music.ways(), 0);
    }
}
