/** Parts 4 and 5 and promises 11 to 15, sentence by sentence. */
public final class EdgesOfCutsTest {
    private static final int LEAST = Integer.MIN_VALUE;
    private static final int MOST = Integer.MAX_VALUE;

    private EdgesOfCutsTest() {
    }

    public static void main(String[] args) {
        shortOnes();
        runsInTheBar();
        groupsOfOneToSix();
        aGroupOfOneCostsThree();
        aMultipleOfTheBeat();
        anotherNumber();
        moreThanFourApart();
        moreEventsInTheFirstGroup();
        moreThanFourteenShortOnes();
        beamOfNone();
        groupOfNone();
        asManyBarsAsTheMost();
        widthOfEachTime();
        widthOfEachSign();
        widthOfNone();
        leftTimesItself();
        whereSomethingLacks();
        moreBarsInTheFirstLine();
        moreThanFourteenBars();
        breaksOfAnotherW();
        breaksWithoutVoice();
        lineOfNone();
        Due.end("EdgesOfCutsTest");
    }

    private static void groups(PlainMusic music, int... due) {
        for (int i = 0; i < due.length; i++) {
            Due.is("group(" + i + ")", music.group(i), due[i]);
        }
        for (int i : new int[] {-1, due.length, 13, 14, 15, LEAST, MOST}) {
            Due.is("group(" + i + ")", music.group(i), i >= 0 && i < due.length ? due[i] : 0);
        }
    }

    private static void beamed(String text, int cost, int... due) {
        PlainMusic music = Texts.scored(text);
        Due.is("beam(0, 0) of " + text, music.beam(0, 0), cost);
        groups(music, due);
    }

    /** "SHORT are its EVENTS that are no rests, and have a NUMBER of 8 and more" */
    private static void shortOnes() {
        beamed("voice;", 0);
        beamed("voice C4 1 C4 2 C4 4;", 0);
        beamed("voice C4 8;", 3, 1);
        beamed("voice C4 16;", 3, 1);
        beamed("voice C4 64;", 3, 1);
        beamed("voice C4 4...;", 0);
        beamed("voice C4 8...;", 3, 1);
        beamed("voice {2/1:C4 4};", 0);
        beamed("voice {1/4:C4 8};", 3, 1);
        beamed("voice r8 r16 r64;", 0);
        beamed("voice <C4 D4>8;", 3, 1);
    }

    /** "RUNS: SHORT ones that follow on one another in the BAR, as many as can be." */
    private static void runsInTheBar() {
        beamed("voice C4 8 C4 8;", 1, 2);
        beamed("voice C4 8 r64 C4 8;", 6, 1, 1);
        beamed("voice C4 8 C4 4 C4 8;", 6, 1, 1);
        beamed("voice r64 C4 8 C4 8 r64;", 1, 2);
        beamed("voice C4 8|C4 8;", 3, 1);
        PlainMusic music = Texts.scored("voice C4 8|C4 8 C4 8|r1|;");
        Due.is("beam(0, 1)", music.beam(0, 1), 1);
        groups(music, 2);
        Due.is("beam(0, 2)", music.beam(0, 2), 0);
        groups(music);
        Due.is("beam(0, 3) of an empty BAR", music.beam(0, 3), 0);
        groups(music);
    }

    /** "Each RUN is cut into GROUPS of 1 to 6." */
    private static void groupsOfOneToSix() {
        int[][] due = {{}, {1}, {2}, {3}, {4}, {5}, {6}, {5, 2}, {6, 2}, {6, 3}, {6, 4}, {6, 5}, {6, 6}, {6, 5, 2}, {6, 6, 2}};
        int[] costs = {0, 3, 1, 1, 1, 1, 1, 2, 2, 2, 2, 2, 2, 3, 3};
        for (int n = 0; n <= 14; n++) {
            beamed("time 4/1; voice " + Texts.times(n, "C4 64 ") + ";", costs[n], due[n]);
        }
    }

    /** "A GROUP of one costs 3. Another one costs 1" */
    private static void aGroupOfOneCostsThree() {
        beamed("voice C4 8;", 3, 1);
        beamed("voice C4 8 r4 C4 8;", 6, 1, 1);
        beamed("voice C4 8 C4 8;", 1, 2);
        beamed("voice C4 8 C4 8 r4 C4 8;", 4, 2, 1);
    }

    /** "2 if its START less that of the BAR is a multiple of the BEAT", "a BEAT 1/b" */
    private static void aMultipleOfTheBeat() {
        beamed("time 4/4; voice C4 8 C4 8;", 1, 2);
        beamed("time 4/8; voice C4 8 C4 8;", 3, 2);
        beamed("time 4/16; voice C4 8 C4 8;", 3, 2);
        beamed("time 4/4; voice C4 8 C4 8 C4 8;", 3, 3);
        beamed("time 1/1; voice C4 8 C4 8 C4 8;", 1, 3);
        beamed("time 4/4; voice {3/2:C4 8 C4 8 C4 8};", 1, 3);
        beamed("time 4/4; voice r8 C4 8 C4 8;", 3, 2);
        beamed("time 1/32; voice C4 64 C4 64 C4 64;", 3, 3);
        beamed("time 1/1; voice {1/8:C4 8 C4 8};", 3, 2);
        PlainMusic music = Texts.scored("voice r8|C4 8 C4 8|r16|r8 C4 8 C4 8;");
        Due.is("beam(0, 1), from the BAR's START", music.beam(0, 1), 1);
        Due.is("beam(0, 3), from the BAR's START", music.beam(0, 3), 3);
    }

    /** "1 if its NUMBER is another one than that of the one before" */
    private static void anotherNumber() {
        beamed("time 4/1; voice C4 8 C4 8;", 1, 2);
        beamed("time 4/1; voice C4 8 C4 16;", 2, 2);
        beamed("time 4/1; voice C4 16 C4 8;", 2, 2);
        beamed("time 4/1; voice C4 8 C4 8.;", 1, 2);
        beamed("time 4/1; voice C4 8 {2/1:C4 8};", 1, 2);
        beamed("time 4/1; voice C4 8 {1/2:C4 16};", 2, 2);
        beamed("time 4/1; voice C4 8 C4 16 C4 16 C4 8;", 3, 4);
    }

    /** "by how many the STEPS of both ones' lowest KEYS are more than 4 apart" */
    private static void moreThanFourApart() {
        beamed("time 4/1; voice C4 8 G4 8;", 1, 2);
        beamed("time 4/1; voice C4 8 A4 8;", 2, 2);
        beamed("time 4/1; voice A4 8 C4 8;", 2, 2);
        beamed("time 4/1; voice C4 8 B4 8;", 3, 2);
        beamed("time 4/1; voice C4 8 E5 8;", 6, 2);
        beamed("time 4/1; voice C4 8 F5 8;", 6, 1, 1);
        beamed("time 4/1; voice Cbb4 8 G##4 8;", 1, 2);
        beamed("time 4/1; voice C##4 8 Abb4 8;", 2, 2);
        beamed("time 4/1; voice <C4 C6>8 <G4 C8>8;", 1, 2);
        beamed("time 4/1; voice <C4 A4>8 <A4 C5>8;", 2, 2);
        beamed("time 4/1; voice <Dbb4 B##3>8 G4 8;", 1, 2);
    }

    /** "of such the one that has more EVENTS in the first GROUP that is not alike" */
    private static void moreEventsInTheFirstGroup() {
        beamed("time 4/1; voice C4 8 E5 8 r1;", 6, 2);
        beamed("time 4/4; voice C4 8 C4 8 C4 8 C4 8;", 2, 2, 2);
        beamed("time 4/8; voice C4 8 C4 8 C4 8 C4 8;", 6, 2, 2);
        beamed("time 4/8; voice C4 8 C4 8 C4 8;", 5, 3);
        beamed("time 4/1; voice " + Texts.times(7, "C4 64 ") + ";", 2, 5, 2);
        beamed("time 4/1; voice " + Texts.times(8, "C4 64 ") + ";", 2, 6, 2);
    }

    /** "Not tried: a BAR with more than 14 SHORT ones." */
    private static void moreThanFourteenShortOnes() {
        PlainMusic music = Texts.scored("voice " + Texts.times(14, "C4 64 ") + "|" + Texts.times(15, "C4 64 ")
            + "|" + Texts.times(14, "C4 64 r64 C4 4 ") + "|" + Texts.times(15, "C4 64 r64 ")
            + "|" + Texts.times(16, "r64 C4 4 ") + ";");
        Due.is("beam of 14", music.beam(0, 0), 3);
        groups(music, 6, 6, 2);
        Due.is("beam of 15", music.beam(0, 1), -4);
        groups(music, 6, 6, 2);
        Due.is("beam of 14 apart", music.beam(0, 2), 42);
        groups(music, 1, 1, 1, 1, 1, 1, 1, 1, 1, 1, 1, 1, 1, 1);
        Due.is("beam of 15 apart", music.beam(0, 3), -4);
        groups(music, 1, 1, 1, 1, 1, 1, 1, 1, 1, 1, 1, 1, 1, 1);
        Due.is("beam of none", music.beam(0, 4), 0);
        groups(music);
        music = Texts.scored("voice " + Texts.times(300, "C464") + ";");
        Due.is("beam of 300", music.beam(0, 0), -4);
        groups(music);
    }

    /** Promise 11: "BAD: none such" */
    private static void beamOfNone() {
        Due.is("beam(0, 0) without voice", new PlainMusic().beam(0, 0), -1);
        PlainMusic music = Texts.scored("voice C4 8|C4 8;voice C4 8;");
        Due.is("beam(0, 1)", music.beam(0, 1), 3);
        Due.is("beam(1, 0)", music.beam(1, 0), 3);
        Due.is("beam(1, 1)", music.beam(1, 1), -1);
        for (int no : new int[] {-1, 2, 100, 101, 102, LEAST, MOST}) {
            Due.is("beam(0, " + no + ")", music.beam(0, no), -1);
            Due.is("beam(" + no + ", 0)", music.beam(no, 0), -1);
        }
        music = Texts.scored("voice C4 64" + Texts.times(100, "|") + "C4 64;");
        Due.is("beam(0, 100)", music.beam(0, 100), 3);
        Due.is("beam(0, 101)", music.beam(0, 101), -1);
    }

    /** Promise 12: "the latest beam() that was tried", "0: none such." */
    private static void groupOfNone() {
        groups(new PlainMusic());
        PlainMusic music = Texts.scored("voice C4 8 C4 8|" + Texts.times(15, "C464") + "|r4;");
        groups(music);
        music.beam(0, 0);
        groups(music, 2);
        Due.is("LARGE", music.beam(0, 1), -4);
        groups(music, 2);
        Due.is("BAD", music.beam(0, 3), -1);
        groups(music, 2);
        Due.is("beam(0, 2)", music.beam(0, 2), 0);
        groups(music);
    }

    /** "A PAGE. Its BARS: as many as the voice with the most BARS has." */
    private static void asManyBarsAsTheMost() {
        PlainMusic music = Texts.scored("voice C4 4;voice ||C4 4;voice |;");
        Due.is("told(4)", music.told(4), 3);
        Due.is("width(0)", music.width(0), 18);
        Due.is("width(1)", music.width(1), 10);
        Due.is("width(2)", music.width(2), 18);
        Due.is("width(3)", music.width(3), -1);
    }

    private static void wide(String text, int due) {
        Due.is("width(0) of " + text, Texts.scored(text).width(0), due);
    }

    /** "10, and 8 for each time (less the BAR's beginning) at which an EVENT of any voice in its BAR .. has its START" */
    private static void widthOfEachTime() {
        wide("voice;", 10);
        wide("voice C4 4;", 18);
        wide("voice r4;", 18);
        wide("voice C4 4 r4;", 26);
        wide("voice C4 4 r4;voice r4 C4 4;", 26);
        wide("voice C4 4 r4;voice r8 C4 4;", 34);
        wide("voice C4 4 C4 4 C4 4;voice {3/2:C4 4. C4 4. C4 4.};", 34);
        wide("voice {3/2:C4 4 C4 4};voice {5/4:{3/2:C4 4 C4 4}};voice C4 8. C4 4;voice C4 8. r4;", 42);
        PlainMusic music = Texts.scored("voice C4 4|C4 4 C4 4;voice C4 2|C4 4 C4 4;voice |r8 r4;");
        Due.is("width(1), less the BAR's beginning", music.width(1), 10 + 8 * 3);
        wide("voice " + Texts.times(300, "r64 ") + ";", 2410);
    }

    /** "and 3 for each # and b of all their PITCHES" */
    private static void widthOfEachSign() {
        wide("voice C4 4;", 18);
        wide("voice C#4 4;", 21);
        wide("voice Cb4 4;", 21);
        wide("voice C##4 4;", 24);
        wide("voice Cbb4 4;", 24);
        wide("voice E#4 4;", 21);
        wide("voice Fb4 4;", 21);
        wide("voice B##8 4 Cbb0 4;", 38);
        wide("voice <Cbb4 Db4 E#4 F##4>4;", 36);
        wide("voice C#4 4;voice C#4 4;", 24);
        wide("voice [C#4 4];", 32);
    }

    /** Promise 15: "BAD: none such." */
    private static void widthOfNone() {
        Due.is("width(0) without voice", new PlainMusic().width(0), -1);
        Due.is("width(0) of a line alone", Texts.scored("line C#4;").width(0), -1);
        PlainMusic music = Texts.scored("voice" + Texts.times(100, "|") + ";");
        Due.is("width(0)", music.width(0), 10);
        Due.is("width(100)", music.width(100), 10);
        for (int no : new int[] {-1, 101, 102, 103, LEAST, MOST}) {
            Due.is("width(" + no + ")", music.width(no), -1);
        }
    }

    private static void laid(PlainMusic music, int w, int cost, int... due) {
        Due.is("breaks(" + w + ")", music.breaks(w), cost);
        laidSo(music, due);
    }

    private static void laidSo(PlainMusic music, int... due) {
        for (int i = 0; i < due.length; i++) {
            Due.is("line(" + i + ")", music.line(i), due[i]);
        }
        for (int i : new int[] {-1, due.length, 14, 15, LEAST, MOST}) {
            Due.is("line(" + i + ")", music.line(i), 0);
        }
    }

    /** "A LINE costs what is left times itself, 0 if it is the last one" */
    private static void leftTimesItself() {
        PlainMusic music = Texts.scored("voice |;");
        laid(music, 10, 0, 1, 1);
        laid(music, 11, 1, 1, 1);
        laid(music, 19, 81, 1, 1);
        laid(music, 20, 0, 2);
        laid(music, 21, 0, 2);
        laid(music, 1000, 0, 2);
        laid(Texts.scored("voice;"), 1000, 0, 1);
        music = Texts.scored("voice r2 r4 r8|;");
        laid(music, 43, 81, 1, 1);
        laid(music, 44, 0, 2);
        music = Texts.scored("voice |" + Texts.times(75, "r64 r32 ") + ";");
        laid(music, 1000, 990 * 990 + 10000 + 210 * 210, 1, 1);
    }

    /** "where something lacks, it must have one BAR alone, and costs 10000 and what lacks times itself" */
    private static void whereSomethingLacks() {
        PlainMusic music = Texts.scored("voice |;");
        laid(music, 9, 20002, 1, 1);
        laid(music, 1, 20162, 1, 1);
        laid(Texts.scored("voice;"), 10, 0, 1);
        laid(Texts.scored("voice;"), 9, 10001, 1);
        laid(Texts.scored("voice;"), 1, 10081, 1);
        music = Texts.scored("voice |r2 r4|;");
        laid(music, 25, 225 + 10001, 1, 1, 1);
        laid(music, 26, 256, 1, 1, 1);
        laid(music, 35, 625 + 81, 1, 1, 1);
        laid(music, 36, 0, 2, 1);
        laid(music, 46, 0, 3);
        laid(music, 45, 81, 2, 1);
    }

    /** "of such the one with more BARS in the first LINE that is not alike" */
    private static void moreBarsInTheFirstLine() {
        laid(Texts.scored("voice ||;"), 20, 0, 2, 1);
        laid(Texts.scored("voice |||;"), 20, 0, 2, 2);
        laid(Texts.scored("voice |||r4|||;"), 26, 36 + 256 + 64 + 36, 2, 1, 1, 2, 1);
        laid(Texts.scored("voice |||||||;"), 30, 0, 3, 3, 2);
        laid(Texts.scored("voice |||||;"), 40, 0, 4, 2);
        laid(Texts.scored("voice ||;"), 25, 25, 2, 1);
        laid(Texts.scored("voice " + Texts.times(12, "|") + ";"), 30, 0, 3, 3, 3, 3, 1);
    }

    /** "Not tried: more than 14 BARS." */
    private static void moreThanFourteenBars() {
        laid(Texts.scored("voice " + Texts.times(13, "|") + ";"), 140, 0, 14);
        laid(Texts.scored("voice " + Texts.times(13, "|") + ";"), 10, 0, 1, 1, 1, 1, 1, 1, 1, 1, 1, 1, 1, 1, 1, 1);
        laid(Texts.scored("voice;voice " + Texts.times(13, "|") + ";"), 130, 0, 13, 1);
        laid(Texts.scored("voice " + Texts.times(14, "|") + ";"), 1000, -4);
        laid(Texts.scored("voice " + Texts.times(14, "|") + ";voice;"), 1, -4);
        laid(Texts.scored("voice " + Texts.times(100, "|") + ";"), 1000, -4);
    }

    /** Promise 13: "(1 .. 1000)", "BAD: another w" */
    private static void breaksOfAnotherW() {
        PlainMusic[] all = {new PlainMusic(), Texts.scored("voice;"), Texts.scored("voice " + Texts.times(14, "|") + ";")};
        for (PlainMusic music : all) {
            for (int w : new int[] {0, -1, 1001, LEAST, MOST}) {
                laid(music, w, -1);
            }
        }
        PlainMusic music = Texts.scored("voice;");
        laid(music, 1000, 0, 1);
        Due.is("breaks(1001)", music.breaks(1001), -1);
        laidSo(music, 1);
        laid(music, 1, 10081, 1);
    }

    /** "NO: the score has no voice" */
    private static void breaksWithoutVoice() {
        laid(new PlainMusic(), 1, -2);
        laid(new PlainMusic(), 1000, -2);
        laid(Texts.scored("line C4; time 4/4; rule a = b; row a;"), 100, -2);
        laid(Texts.scored("voice;"), 100, 0, 1);
    }

    /** Promise 14: "the latest breaks() that was tried", "0: none such." */
    private static void lineOfNone() {
        laidSo(new PlainMusic());
        PlainMusic music = Texts.scored("voice |;");
        laidSo(music);
        laid(music, 10, 0, 1, 1);
        laid(music, 20, 0, 2);
        Due.is("BAD", music.breaks(0), -1);
        laidSo(music, 2);
        Texts.feedExactly(music, "voice " + Texts.times(14, "|") + ";");
        music.score();
        Due.is("LARGE", music.breaks(100), -4);
        laidSo(music);
    }
}
