/** Part 2 and promises 4 and 6 to 8, sentence by sentence. */
public final class EdgesOfMeaningTest {
    private static final int LEAST = Integer.MIN_VALUE;
    private static final int MOST = Integer.MAX_VALUE;

    private EdgesOfMeaningTest() {
    }

    public static void main(String[] args) {
        lowestAndHighestKeys();
        lowestAndHighestSteps();
        walkedTwice();
        asManyTimesAsThereAre();
        whatIsWithinThemAnew();
        ofALengthParts();
        halfOfWhatWasAddedLast();
        startIsTheSumOfAllLengths();
        asShortAsCanBe();
        oneBarWithoutLines();
        emptyBars();
        linesInTheWalk();
        withoutTime();
        howManyEvents();
        aFaultKeepsTheScore();
        toldOfNone();
        toldOfFull();
        countOfNone();
        eventOfNone();
        pitchesOfAnEvent();
        tiesBarsNumbersDots();
        the300thEvent();
        Due.end("EdgesOfMeaningTest");
    }

    private static void event(PlainMusic music, int i, int what, long due) {
        Due.is("event(0, " + i + ", " + what + ")", music.event(0, i, what), due);
    }

    /** START and LENGTH of EVENT i of voice 0, each a numerator and a denominator. */
    private static void times(PlainMusic music, int i, int... due) {
        for (int what = 0; what < due.length; what++) {
            event(music, i, what, due[what]);
        }
    }

    private static void starts(String text, int... tops) {
        PlainMusic music = Texts.scored(text);
        Due.is("count(0, 0) of " + text, music.count(0, 0), tops.length);
        for (int i = 0; i < tops.length; i++) {
            Due.is("START " + i + " of " + text, music.event(0, i, 0), tops[i]);
            Due.is("its denominator", music.event(0, i, 1), 1);
        }
    }

    /** "The KEY of a PITCH: 12 times its digit, and 0, 2, 4, 5, 7, 9, 11 .. 1 more for each #, less for each b." */
    private static void lowestAndHighestKeys() {
        String letters = "CDEFGAB";
        int[] naturals = {0, 2, 4, 5, 7, 9, 11};
        String[] marks = {"bb", "b", "", "#", "##"};
        for (int l = 0; l < 7; l++) {
            for (int m = 0; m < 5; m++) {
                String pitch = letters.charAt(l) + marks[m];
                PlainMusic music = Texts.scored("voice " + pitch + "0 1 " + pitch + "8 1;");
                event(music, 0, 10, naturals[l] + m - 2);
                event(music, 1, 10, 96 + naturals[l] + m - 2);
            }
        }
    }

    /** "Its STEP: 7 times its digit, and 0 .. 6 for C .. B." */
    private static void lowestAndHighestSteps() {
        String letters = "CDEFGAB";
        for (int l = 0; l < 7; l++) {
            for (String marks : new String[] {"bb", "", "##"}) {
                String pitch = letters.charAt(l) + marks;
                PlainMusic music = Texts.scored("voice " + pitch + "0 1 " + pitch + "8 1;");
                event(music, 0, 20, l);
                event(music, 1, 20, 56 + l);
            }
        }
    }

    /** The letters of voice 0's EVENTS, a line as /. */
    private static void walked(String parts, String due) {
        PlainMusic music = Texts.scored("voice " + parts + ";");
        StringBuilder got = new StringBuilder();
        int bar = 0;
        for (int i = 0; i < music.count(0, 0); i++) {
            for (; bar < music.event(0, i, 6); bar++) {
                got.append('/');
            }
            got.append(music.event(0, i, 4) == 0 ? 'r' : "CDEFGAB".charAt((int) music.event(0, i, 20) % 7));
        }
        for (; bar + 1 < music.count(0, 1); bar++) {
            got.append('/');
        }
        Due.is("THE WALK of " + parts + " is " + got, got.toString().equals(due) ? 1 : 0, 1);
    }

    /** "[ ] without : is walked twice" */
    private static void walkedTwice() {
        walked("[]", "");
        walked("[C4 1]", "CC");
        walked("[|]", "//");
        walked("r1[C4 1 D4 1]r1", "rCDCDr");
    }

    /** "with : as many times as there are :" */
    private static void asManyTimesAsThereAre() {
        walked("[:]", "");
        walked("[C4 1:]", "C");
        walked("[C4 1::]", "CC");
        walked("[C4 1:::]", "CCC");
        walked("[:D4 1]", "D");
        walked("[C4 1:D4 1]", "CD");
        walked("[C4 1:D4 1:E4 1]", "CDCE");
        walked("[C4 1::E4 1]", "CCE");
        walked("[C4 1:D4 1::F4 1]F4 1", "CDCCFF");
        walked("[C4 1:|:E4 1]", "C/CE");
    }

    /** "what is within them anew each time" */
    private static void whatIsWithinThemAnew() {
        walked("[[C4 1]]", "CCCC");
        walked("[[[C4 1]]]", "CCCCCCCC");
        walked("[[C4 1:D4 1:E4 1]]", "CDCECDCE");
        walked("[[C4 1:D4 1:E4 1]:F4 1:[G4 1]]", "CDCEFCDCEGG");
        walked("[{2/1:[C4 1:D4 1]}:E4 1]", "CDE");
        walked("[r1:[C4 1:D4 1::]:]", "rCDCCr");
    }

    /** "Of what stands in { a/b: .. } all lengths are b a-ths." */
    private static void ofALengthParts() {
        times(Texts.scored("voice {1/1:C4 1};"), 0, 0, 1, 1, 1);
        times(Texts.scored("voice {3/2:C4 1};"), 0, 0, 1, 2, 3);
        times(Texts.scored("voice {16/1:C4 64};"), 0, 0, 1, 1, 1024);
        times(Texts.scored("voice {1/16:C4 1...};"), 0, 0, 1, 30, 1);
        times(Texts.scored("voice {3/2:{5/4:C4 1}C4 1}C4 1;"), 0, 0, 1, 8, 15);
        times(Texts.scored("voice {3/2:{5/4:C4 1}C4 1}C4 1;"), 1, 8, 15, 2, 3);
        times(Texts.scored("voice {3/2:{5/4:C4 1}C4 1}C4 1;"), 2, 6, 5, 1, 1);
        times(Texts.scored("voice [{3/2:[C4 1]}];"), 3, 2, 1, 2, 3);
        Due.is("an empty one", Texts.scored("voice {16/1:};").count(0, 0), 0);
    }

    /** "1 / NUMBER, for each . half of what was added last more" */
    private static void halfOfWhatWasAddedLast() {
        times(Texts.scored("voice C4 1;"), 0, 0, 1, 1, 1);
        times(Texts.scored("voice C4 1.;"), 0, 0, 1, 3, 2);
        times(Texts.scored("voice C4 1..;"), 0, 0, 1, 7, 4);
        times(Texts.scored("voice C4 1...;"), 0, 0, 1, 15, 8);
        times(Texts.scored("voice r 64;"), 0, 0, 1, 1, 64);
        times(Texts.scored("voice r 64...;"), 0, 0, 1, 15, 512);
    }

    /** "START (the sum of all LENGTHS before)" */
    private static void startIsTheSumOfAllLengths() {
        starts("voice C4 1;", 0);
        starts("voice C4 1 r1 C4 1|C4 1;", 0, 1, 2, 3);
        starts("voice [C4 1]r1[C4 1 C4 1:r1]C4 1;", 0, 1, 2, 3, 4, 5, 6);
        PlainMusic music = Texts.scored("voice C4 64...{3/1:r4}C4 1;");
        times(music, 1, 15, 512, 1, 12);
        times(music, 2, 173, 1536, 1, 1);
    }

    /** "Fractions are told as short as can be, with denominators above 0." */
    private static void asShortAsCanBe() {
        PlainMusic music = Texts.scored("voice C4 4 C4 4 {4/2:C4 2} {6/3:C4 1.};");
        times(music, 0, 0, 1, 1, 4);
        times(music, 1, 1, 4, 1, 4);
        times(music, 2, 1, 2, 1, 4);
        times(music, 3, 3, 4, 3, 4);
        music = Texts.scored("voice {10/1:{10/1:{10/1:{10/1:{10/1:{10/1:C4 1 C4 1}}}}}};");
        times(music, 0, 0, 1, 1, 1000000);
        times(music, 1, 1, 1000000, 1, 1000000);
        music = Texts.scored("voice {1/10:{1/10:{1/10:C4 2 C4 2}}};");
        times(music, 1, 500, 1, 500, 1);
    }

    /** "BARS: 0 goes from the beginning to the first |", "the last one to the end" */
    private static void oneBarWithoutLines() {
        Due.is("BARS of an empty voice", Texts.scored("voice;").count(0, 1), 1);
        Due.is("BARS without line", Texts.scored("voice C4 1 C4 1;").count(0, 1), 1);
        Due.is("BARS with one line", Texts.scored("voice C4 1|C4 1;").count(0, 1), 2);
        Due.is("BARS with all lines", Texts.scored("voice " + Texts.times(100, "|") + ";").count(0, 1), 101);
    }

    private static void emptyBars() {
        walked("|", "/");
        walked("||", "//");
        walked("|C4 1", "/C");
        walked("C4 1|", "C/");
        walked("C4 1||D4 1", "C//D");
    }

    /** "the first | that the WALK comes to" */
    private static void linesInTheWalk() {
        walked("[C4 1|]", "C/C/");
        walked("[C4 1:|:D4 1]", "C/CD");
        walked("{2/1:C4 1|C4 1}", "C/C");
        Due.is("[[|]]", Texts.scored("voice [[|]];").count(0, 1), 5);
    }

    /** "Without time it is 4/4" */
    private static void withoutTime() {
        Due.is("told(5)", new PlainMusic().told(5), 4);
        Due.is("told(6)", new PlainMusic().told(6), 4);
        PlainMusic music = Texts.scored("time 32/32;");
        Due.is("told(5)", music.told(5), 32);
        Due.is("told(6)", music.told(6), 32);
        Texts.feedExactly(music, "voice;");
        music.score();
        Due.is("told(5)", music.told(5), 4);
        Due.is("told(6)", music.told(6), 4);
        music = Texts.scored("time 1/1;");
        Due.is("told(5)", music.told(5), 1);
        Due.is("told(6)", music.told(6), 1);
    }

    /** Promise 4: "how many EVENTS all WALKS have" */
    private static void howManyEvents() {
        Texts.taken("", 0);
        Texts.taken("voice;", 0);
        Texts.taken("voice r4;", 1);
        String most = "voice [" + Texts.times(150, "r64") + "];";
        Texts.taken(most + most + most + most, 1200);
    }

    /** Promise 4: "the score stays, and what was found in it; with another score nothing is found any more" */
    private static void aFaultKeepsTheScore() {
        String text = "time 2/4; voice C4 8 C#6 8~|D4 2; line C4 D4; rule a = b; row b;";
        PlainMusic music = Texts.scored(text);
        find(music);
        String[] wrong = {"@", "voice; voice", "", "row a; row", "time 3/4; line C4 C4 C4 C4 C4 C4 C4 C4 C4;", "voice C4 3",
            "voice {1/16:{1/16:{1/16:r1}}};", "voice r4~"};
        for (String next : wrong) {
            if (!next.isEmpty()) {
                Texts.feedExactly(music, next);
                Due.is("a FAULT", music.score() <= -11 ? 1 : 0, 1);
            }
            found(music, true);
            Due.is("told(0)", music.told(0), 1);
            Due.is("told(5)", music.told(5), 2);
            Due.is("count(0, 1)", music.count(0, 1), 2);
            event(music, 2, 10, 50);
        }
        Texts.feedExactly(music, text);
        music.score();
        found(music, false);
        find(music);
        found(music, true);
        music.score();
        found(music, false);
    }

    private static void find(PlainMusic music) {
        music.judge();
        music.beam(0, 0);
        music.breaks(100);
        music.lines(50, 60, 0);
        music.readings();
        music.beside(0, 0);
    }

    private static void found(PlainMusic music, boolean is) {
        Due.is("fault(0, 0)", music.fault(0, 0), is ? 2 : -1);
        Due.is("group(0)", music.group(0), is ? 1 : 0);
        Due.is("line(0)", music.line(0), is ? 2 : 0);
        Due.is("second(0, 0)", music.second(0, 0), is ? 50 : -1);
        Due.is("tree(0, 0)", music.tree(0, 0), is ? 0 : -1);
        Due.is("partner(0)", music.partner(0), is ? 0 : -1);
        Due.is("ways()", music.ways(), is ? 1 : 0);
    }

    /** Promise 6: "BAD." */
    private static void toldOfNone() {
        for (PlainMusic music : new PlainMusic[] {new PlainMusic(), Texts.scored("voice r4;")}) {
            for (int what : new int[] {-1, 7, 8, 100, LEAST, MOST}) {
                Due.is("told(" + what + ")", music.told(what), -1);
            }
        }
    }

    private static void toldOfFull() {
        PlainMusic music = Texts.scored(Texts.times(3, "voice;") + "voice" + Texts.times(100, "|") + ";line" + Texts.times(8, "C4")
            + ";" + Texts.times(24, "rule a=b;") + "row" + Texts.times(12, " a") + ";");
        int[] due = {4, 8, 24, 12, 101, 4, 4};
        for (int what = 0; what < due.length; what++) {
            Due.is("told(" + what + ")", music.told(what), due[what]);
        }
        Due.is("told(4), the most BARS", Texts.scored("voice ||;voice |;voice;").told(4), 3);
        Due.is("told(4) of empty voices", Texts.scored("voice;voice;").told(4), 1);
        Due.is("told(4) without voice", Texts.scored("line C4;").told(4), 0);
    }

    /** Promise 7: "BAD." */
    private static void countOfNone() {
        Due.is("count(0, 0) without voice", new PlainMusic().count(0, 0), -1);
        PlainMusic music = Texts.scored("voice r4|;voice;");
        Due.is("count(0, 0)", music.count(0, 0), 1);
        Due.is("count(0, 1)", music.count(0, 1), 2);
        Due.is("count(1, 0)", music.count(1, 0), 0);
        Due.is("count(1, 1)", music.count(1, 1), 1);
        for (int no : new int[] {-1, 2, 3, 4, 5, LEAST, MOST}) {
            Due.is("count(" + no + ", 0)", music.count(no, 0), -1);
            Due.is("count(" + no + ", 1)", music.count(no, 1), -1);
            Due.is("count(0, " + no + ")", music.count(0, no), -1);
        }
        music = Texts.scored(Texts.times(4, "voice r4;"));
        Due.is("count(3, 0)", music.count(3, 0), 1);
        Due.is("count(4, 0)", music.count(4, 0), -1);
    }

    /** Promise 8: "10000: none such." */
    private static void eventOfNone() {
        Due.is("event(0, 0, 0) without voice", new PlainMusic().event(0, 0, 0), 10000);
        Due.is("event(0, 0, 0) of an empty voice", Texts.scored("voice;").event(0, 0, 0), 10000);
        PlainMusic music = Texts.scored("voice r4 <C4 D4 E4 F4>4; voice r4;");
        for (int what = 0; what <= 8; what++) {
            Due.is("event(0, 1, " + what + ") is one", music.event(0, 1, what) < 10000 ? 1 : 0, 1);
            for (int no : new int[] {-1, 2, 299, 300, 301, LEAST, MOST}) {
                Due.is("event(0, " + no + ", " + what + ")", music.event(0, no, what), 10000);
                Due.is("event(" + no + ", 0, " + what + ")", music.event(no, 0, what), 10000);
            }
        }
        for (int what : new int[] {-1, 9, 14, 15, 19, 24, 25, 30, LEAST, MOST}) {
            event(music, 1, what, 10000);
        }
        Due.is("event(1, 0, 0)", music.event(1, 0, 0), 0);
        Due.is("event(1, 1, 0)", music.event(1, 1, 0), 10000);
    }

    /** "4 how many PITCHES (0 a rest)", "10 to 13 the KEY of its PITCH 0 .. 3, 20 to 23 its STEP" */
    private static void pitchesOfAnEvent() {
        PlainMusic music = Texts.scored("voice r4 C4 4 <C4 D4>4 <C4 D4 E4>4 <C4 D4 E4 F4>4;");
        int[] keys = {48, 50, 52, 53};
        for (int i = 0; i <= 4; i++) {
            event(music, i, 4, i);
            for (int p = 0; p < 4; p++) {
                event(music, i, 10 + p, p < i ? keys[p] : 10000);
                event(music, i, 20 + p, p < i ? 28 + p : 10000);
            }
        }
    }

    /** "5 whether ~ stands behind it, 6 its BAR, 7 its NUMBER, 8 how many ." */
    private static void tiesBarsNumbersDots() {
        PlainMusic music = Texts.scored("voice C4 1~|C4 64...|" + Texts.times(97, "|") + "{3/2:C4 8.}|C4 2..~;");
        int[][] due = {{1, 0, 1, 0}, {0, 1, 64, 3}, {0, 99, 8, 1}, {1, 100, 2, 2}};
        for (int i = 0; i < due.length; i++) {
            for (int what = 5; what <= 8; what++) {
                event(music, i, what, due[i][what - 5]);
            }
        }
    }

    private static void the300thEvent() {
        PlainMusic music = Texts.scored("voice [" + Texts.times(149, "r64") + "]r64 F#3 64.~;");
        times(music, 299, 299, 64, 3, 128);
        event(music, 299, 4, 1);
        event(music, 299, 5, 1);
        event(music, 299, 10, 42);
        event(music, 299, 20, 24);
        event(music, 300, 0, 10000);
    }
}
