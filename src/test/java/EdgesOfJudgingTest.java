/** Part 3 and promises 9 and 10, sentence by sentence: the last that is no fault, the first that is one. */
public final class EdgesOfJudgingTest {
    private static final int LEAST = Integer.MIN_VALUE;
    private static final int MOST = Integer.MAX_VALUE;

    private EdgesOfJudgingTest() {
    }

    public static void main(String[] args) {
        aWholeBar();
        firstAndLastMayBeShorter();
        whereABarIsToldOf();
        tieAndNoEventBehind();
        tieWithoutOneOfItsKeys();
        moreThanTwelve();
        neitherARest();
        soundsAtOneTime();
        belowTheHighest();
        ofALesserNumber();
        oneFaultForEachOther();
        theSameStart();
        otherHasEnded();
        noRestsInBothPairs();
        zeroOrSevenModuloTwelve();
        ofOtherLessTheOtherOnes();
        thisOneMoves();
        byVoiceEventSortOther();
        faultOfNone();
        judgedAgain();
        Due.end("EdgesOfJudgingTest");
    }

    /** Each fault of due is SORT, voice, EVENT, OTHER, in one number of digits. */
    private static void judged(String text, int... due) {
        PlainMusic music = Texts.scored(text);
        Due.is("judge() of " + text, music.judge(), due.length);
        int[] weights = {1000, 100, 10, 1};
        for (int k = 0; k < due.length; k++) {
            for (int what = 0; what < 4; what++) {
                Due.is("fault(" + k + ", " + what + ") of " + text, music.fault(k, what), due[k] / weights[what] % 10);
            }
        }
        Due.is("fault behind the last of " + text, music.fault(due.length, 0), -1);
    }

    /** "a whole BAR of time a/b is a/b long" */
    private static void aWholeBar() {
        judged("voice r1|r1|r1;");
        judged("voice r1|r2 r4 r8 r16 r32 r64|r1;", 1011);
        judged("voice r1|r2 r4 r8 r16 r32 r64 r64|r1;");
        judged("voice r1|r1 {16/1:{16/1:r64}}|r1;", 1011);
        judged("time 1/32; voice r32|r32|r64 r64;");
        judged("time 1/32; voice r32|r64|r32;", 1011);
        judged("time 32/1; voice {1/16:r1 r1}|{1/8:r1 r1 r1 r1}|{1/16:{1/2:r1}};");
        judged("time 32/1; voice {1/16:r1 r1}|{1/16:r1 r1}r64|r1;", 1021);
        judged("time 6/8; voice r2.|r2.|r2.;");
        judged("time 3/4; voice {3/2:r2 r2 r2}r64|;", 1000);
    }

    /** "(the first and the last one may be shorter)" */
    private static void firstAndLastMayBeShorter() {
        judged("voice;");
        judged("voice r64;");
        judged("voice r1;");
        judged("voice r1 r64;", 1000);
        judged("voice |;");
        judged("voice r64|r64;");
        judged("voice r1 r64|r1 r64;", 1000, 1021);
        judged("voice r2|r1|r2;");
        judged("voice r2|r2|r2;", 1011);
        judged("voice r1||r1;", 1011);
    }

    /** "at its first EVENT (or how many EVENTS are ahead of it)" */
    private static void whereABarIsToldOf() {
        judged("voice ||;", 1001);
        judged("voice r1 || r1;", 1011);
        judged("voice r1 ||;", 1011);
        judged("voice r1 | r2 r4 | r1;", 1011);
        judged("voice ||||;", 1001, 1002, 1003);
        judged("voice r2 r2 ||| r2 |;", 1021, 1022, 1023);
    }

    /** "2: an event with ~ behind which there is no EVENT" */
    private static void tieAndNoEventBehind() {
        judged("voice C4 4;");
        judged("voice C4 4~;", 2000);
        judged("voice C4 4~|;", 2000);
        judged("voice C4 4~[:];", 2000);
        judged("voice [C4 4~];", 2010);
        judged("voice C4 4~; voice C4 4;", 2000);
        judged("voice C4 4~|[:]{1/1:}C4 4;");
    }

    /** "or one without one of its KEYS" */
    private static void tieWithoutOneOfItsKeys() {
        judged("voice C4 4~ C4 4;");
        judged("voice C4 4~ C#4 4;", 2000);
        judged("voice C4 4~ r4;", 2000);
        judged("voice C4 4~ B#3 4;");
        judged("voice C4 4~ <A3 C4 E4>4;");
        judged("voice <C4 E4>4~ <C4 E4>4;");
        judged("voice <C4 E4>4~ C4 4;", 2000);
        judged("voice <C4 E4>4~ E4 4;", 2000);
        judged("voice <C4 D4 E4 F4>4~ <C4 D4 E4 F4>4;");
        judged("voice <C4 D4 E4 F4>4~ <C4 D4 E4 G4>4;", 2000);
        judged("voice <C4 D4 E4 F4>4~ <B3 D4 E4 F4>4;", 2000);
    }

    /** "3: its lowest KEY is more than 12 from that of the EVENT just before it" */
    private static void moreThanTwelve() {
        judged("voice C4 4 C5 4;");
        judged("voice C5 4 C4 4;");
        judged("voice C4 4 C#5 4;", 3010);
        judged("voice C5 4 B3 4;", 3010);
        judged("voice <C4 G6>4 <C5 G7>4;");
        judged("voice <C4 G6>4 <C#5 D5>4;", 3010);
        judged("voice Cbb0 4 C1 4;", 3010);
        judged("voice Cbb0 4 Bb0 4;");
        judged("voice B##8 4;");
    }

    /** "(neither a rest)" */
    private static void neitherARest() {
        judged("voice r4 C8 4 r4 C0 4;");
        judged("voice C0 4 r4;");
        judged("voice C0 4 r4 C8 4 C0 4;", 3030);
        judged("voice [r4:C0 4:C8 4];");
        judged("voice C8 4 r4 C0 4;");
    }

    /** "4: .. an EVENT that sounds at one time with it" */
    private static void soundsAtOneTime() {
        judged("voice C4 4; voice r4 D4 4;");
        judged("voice C4 4 r64; voice r8 r16 r32 r64 r64 D4 4;");
        judged("voice C4 4; voice r8 r16 r32 r64 D4 4;", 4140);
        judged("voice r4 C4 4; voice D4 4;");
        judged("voice r8 r16 r32 r64 C4 4; voice D4 4;", 4100);
        judged("voice r4 C4 64 r4; voice D4 1;", 4100);
        judged("voice C4 1; voice r4 D4 64 r4;", 4110);
        judged("voice r4; voice D4 4;");
        judged("voice C4 4; voice r4;");
        judged("voice; voice D4 4;");
        judged("voice {3/2:C4 4 C4 4 C4 4}; voice r2 D4 4;");
        judged("voice {7/5:{11/9:C4 4}}; voice {11/9:{7/5:r4}} D4 4;");
    }

    /** "has its lowest KEY below the highest one of this one" */
    private static void belowTheHighest() {
        judged("voice D4 4; voice D4 4;");
        judged("voice D4 4; voice D#4 4;", 4100);
        judged("voice D4 4; voice <C4 D4>4;");
        judged("voice D4 4; voice <C4 D#4>4;", 4100);
        judged("voice <D4 G4>4; voice E4 4;", 4100);
        judged("voice <D4 G4>4; voice C4 4;");
        judged("voice D4 4; voice Ebb4 4;");
    }

    /** "in voice OTHER, of a lesser number" */
    private static void ofALesserNumber() {
        judged("voice D4 4; voice C4 4;");
        judged("voice C4 4; voice D4 4;", 4100);
        judged("voice E4 4; voice r4; voice r4; voice F4 4;", 4300);
        judged("voice C4 4; voice D4 4; voice E4 4; voice F4 4;", 4100, 4200, 4201, 4300, 4301, 4302);
    }

    /** "(Of 4 and 5 one fault for each OTHER.)" */
    private static void oneFaultForEachOther() {
        judged("voice C4 8 C4 8 C4 8 C4 8; voice D4 2;", 4100);
        judged("voice C4 2; voice D4 8 D4 8 D4 8 D4 8;", 4100, 4110, 4120, 4130);
        judged("voice C4 8 E4 8; voice D4 4;", 4100);
        judged("voice E4 8 C4 8; voice D4 4;", 4100);
    }

    /** "5: .. an EVENT begins at the same START" */
    private static void theSameStart() {
        judged("voice G4 4 A4 4; voice C4 4 D4 4;", 5110);
        judged("voice G4 4 A4 4; voice C4 4. D4 4;");
        judged("voice G4 4. A4 4; voice C4 4 D4 4;");
        judged("voice G4 8 A4 4; voice r16 C4 16 D4 4;", 5120);
        judged("voice {3/2:G4 4 A4 4}; voice {3/1:C4 2 D4 4};", 5110);
        judged("voice {3/2:G4 4 A4 4}; voice {13/8:C4 4 D4 4};");
        judged("voice G4 4 A4 4; voice C4 4;");
        judged("voice G4 4; voice C4 4 D4 4;");
    }

    /** Where OTHER has no EVENT any more, nothing of it sounds or begins. */
    private static void otherHasEnded() {
        judged("voice C4 4; voice C4 4 C5 4;");
        judged("voice C4 4 C5 4; voice C4 4 C5 4 C6 4;", 5110);
        String text = "time 32/1; voice " + Texts.times(300, "C0 64") + "; voice r1 r1 r1 r1 r1 D4 4 E4 4;";
        judged(text);
        judged(text.replace("r1 r1 r1 r1 r1 D4 4", "r1 r1 r1 r1 r2 D4 4"), 4150);
    }

    /** "it, the EVENT just before it, this one, the one just before this one are no rests" */
    private static void noRestsInBothPairs() {
        judged("voice r4 A4 4; voice C4 4 D4 4;");
        judged("voice G4 4 r4; voice C4 4 D4 4;");
        judged("voice G4 4 A4 4; voice r4 D4 4;");
        judged("voice G4 4 A4 4; voice C4 4 r4;");
        judged("voice r4 G4 4 A4 4 r4; voice r4 C4 4 D4 4 r4;", 5120);
        judged("voice A4 4; voice D4 4;");
        judged("voice G4 4 A4 4 r4; voice C4 4 r4 D4 4;");
        judged("voice r4 r4 G4 4 A4 4; voice [r4:C4 4:D4 4];");
        judged("voice G4 4 r4 A4 4; voice C4 4 D4 4 r4;");
        judged("voice [r4:G4 4:A4 4]; voice r4 r4 C4 4 D4 4;");
    }

    /** "the lowest KEYS .. as far from each other in both pairs, modulo 12 .., and this is 0 or 7" */
    private static void zeroOrSevenModuloTwelve() {
        String[] first = {"C4", "C#4", "D4", "D#4", "E4", "F4", "F#4", "G4", "G#4", "A4", "A#4", "B4", "C5", "C#5"};
        String[] next = {"D4", "D#4", "E4", "F4", "F#4", "G4", "G#4", "A4", "A#4", "B4", "C5", "C#5", "D5", "D#5"};
        for (int apart = 0; apart < first.length; apart++) {
            String text = "voice " + first[apart] + " 4 " + next[apart] + " 4; voice C4 4 D4 4;";
            if (apart % 12 == 0 || apart % 12 == 7) {
                judged(text, 5110);
            } else {
                judged(text);
            }
        }
        judged("voice G4 4 D5 4; voice C4 4 D4 4;");
        judged("voice C5 4 A4 4; voice C4 4 D4 4;");
        judged("voice C5 4 D4 4; voice C4 4 D4 4;", 5110);
        judged("voice G5 4 A4 4; voice C4 4 D4 4;", 5110);
        judged("voice <G4 A4>4 <A4 B4>4; voice <C4 E4>4 <D4 F4>4;", 5110);
        judged("voice <F4 G4>4 <F4 A4>4; voice <C4 E4>4 <D4 F4>4;");
    }

    /** "(that of OTHER less the other one's)" */
    private static void ofOtherLessTheOtherOnes() {
        judged("voice C4 4 D4 4; voice G3 4 A3 4;");
        judged("voice C4 4 D4 4; voice F3 4 G3 4;", 5110);
        judged("voice C4 4 D4 4; voice F4 4 G4 4;", 4100, 4110, 5110);
        judged("voice C4 4 D4 4; voice G4 4 A4 4;", 4100, 4110);
    }

    /** "and this one's lowest KEY is not that of the one before" */
    private static void thisOneMoves() {
        judged("voice G4 4 G4 4; voice C4 4 C4 4;");
        judged("voice G5 4 G4 4; voice C4 4 C4 4;");
        judged("voice G4 4 G4 4; voice C4 4 C3 4;", 5110);
        judged("voice G4 4 G4 4; voice C4 4 B#3 4;");
        judged("voice G4 4 Ab4 4; voice C4 4 Db4 4;", 5110);
        judged("voice G4 4 G4 4; voice <C4 E4>4 <C4 F4>4;");
    }

    /** "faults, by voice, EVENT, SORT, then OTHER" */
    private static void byVoiceEventSortOther() {
        judged("voice C4 4 E4 4; voice C4 4 E4 4; voice C4 4 E5 4~;",
            5110, 2210, 3210, 4210, 4211, 5210, 5211);
        judged("voice r1|C4 4~; voice r1|D4 1~|;", 2010, 2110, 4110);
        judged("voice C4 1; voice ||D4 1;", 1101, 4100);
        judged("voice C4 4 D4 1.; voice ||D4 1 E4 64 |;", 1000, 1101, 1102, 4100, 4110);
    }

    /** Promise 10: "BAD: none such." */
    private static void faultOfNone() {
        Due.is("fault(0, 0) of a new object", new PlainMusic().fault(0, 0), -1);
        PlainMusic music = Texts.scored("voice C4 4~ r4 C4 4~;");
        Due.is("fault(0, 0) before judge()", music.fault(0, 0), -1);
        Due.is("judge()", music.judge(), 2);
        int[] due = {2, 0, 2, 0};
        for (int what = 0; what < 4; what++) {
            Due.is("fault(1, " + what + ")", music.fault(1, what), due[what]);
        }
        for (int no : new int[] {-1, 4, 5, LEAST, MOST}) {
            Due.is("fault(0, " + no + ")", music.fault(0, no), -1);
        }
        for (int no : new int[] {-1, 2, 3, 6403, 6404, 6405, LEAST, MOST}) {
            for (int what = 0; what < 4; what++) {
                Due.is("fault(" + no + ", " + what + ")", music.fault(no, what), -1);
            }
        }
        music = Texts.scored("voice C4 4;");
        Due.is("judge() of none", music.judge(), 0);
        Due.is("fault(0, 0) of none", music.fault(0, 0), -1);
    }

    /** "the latest judge()" */
    private static void judgedAgain() {
        PlainMusic music = new PlainMusic();
        Due.is("judge() without voice", music.judge(), 0);
        Texts.feedExactly(music, "voice C4 4~;");
        music.score();
        Due.is("judge()", music.judge(), 1);
        Due.is("judge() again", music.judge(), 1);
        Due.is("fault(1, 0)", music.fault(1, 0), -1);
        Texts.feedExactly(music, "voice r4;");
        music.score();
        Due.is("judge()", music.judge(), 0);
        Due.is("fault(0, 0)", music.fault(0, 0), -1);
        String dear = "voice [[" + Texts.times(37, "C4 64~ D6 64~ ") + "]];";
        music = Texts.scored(dear + dear);
        Due.is("judge() of twice 296 EVENTS", music.judge(), 2 * (1 + 296 + 295) + 295);
        Due.is("the last one's SORT", music.fault(1478, 0), 5);
        Due.is("behind the last one", music.fault(1479, 0), -1);
    }
}
