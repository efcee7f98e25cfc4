import java.util.List;

/** Promises 9 and 10: judge, fault. */
public final class JudgeTest {
    private JudgeTest() {
    }

    public static void main(String[] args) {
        bars();
        ties();
        leaps();
        crossings();
        parallels();
        order();
        numbersOfFaults();
        whenFound();
        Due.end("JudgeTest");
    }

    /** Each fault of due is SORT, voice, EVENT, OTHER, in one number of digits. */
    private static void judged(String text, int... due) {
        PlainMusic music = Texts.scored(text);
        Due.is("judge() of " + text, music.judge(), due.length);
        for (int k = 0; k < due.length; k++) {
            for (int what = 0; what < 4; what++) {
                int digit = due[k] / new int[] {1000, 100, 10, 1}[what] % 10;
                Due.is("fault(" + k + ", " + what + ") of " + text, music.fault(k, what), digit);
            }
        }
        Due.is("fault behind the last of " + text, music.fault(due.length, 0), -1);
    }

    private static void bars() {
        judged("");
        judged("voice;");
        judged("time 3/4; voice C4 4|D4 2.|E4 4;");
        judged("time 3/4; voice C4 2.|D4 2.|E4 2.;");
        judged("time 3/4; voice C4 1|D4 2|E4 1|;", 1000, 1011, 1022);
        judged("voice D4 4|C4 1|D4 1;");
        judged("voice D4 4|C4 1 D4 64|D4 1;", 1011);
        judged("voice D4 4|C4 2 D4 4|D4 1;", 1011);
        judged("voice C4 1 C4 1;", 1000);
        judged("voice C4 1.;", 1000);
        judged("voice C4 2;");
        judged("voice ||C4 1|;", 1001);
        judged("voice C4 1||;", 1011);
        judged("voice C4 1|||;", 1011, 1012);
        judged("voice |||;", 1001, 1002);
        judged("voice C4 1||r 1|C4 1;", 1011);
        judged("voice {3/2:C4 2 C4 2 C4 2}|{3/2:C4 2 C4 2}|C4 1;", 1031);
        judged("voice C4 2;voice D3 1 D3 4|C3 1;", 1100);
        judged("voice C4 1 | D4 1 | E4 1; time 2/2;");
        judged("voice C4 1 | D4 1 | E4 1; time 7/8;", 1000, 1011, 1022);
    }

    private static void ties() {
        judged("voice C4 4~ C4 4;");
        judged("voice C4 4~|C4 1;");
        judged("voice C4 4~;", 2000);
        judged("voice C4 4~ D4 4;", 2000);
        judged("voice C4 4 C4 4~ r4 C4 4;", 2010);
        judged("voice <C4 E4>4~ C4 4;", 2000);
        judged("voice <C4 E4>4~ E4 4;", 2000);
        judged("voice <C4 E4>4~ <C4 E4 G4>4;");
        judged("voice <C4 E4>4~ <B3 C4 D4 E4>4;");
        judged("voice C#4 4~ Db4 4;");
        judged("voice [C4 4~ : D4 4 : C4 4];", 2000);
        judged("voice C5 4~; voice C4 4;", 2000);
    }

    private static void leaps() {
        judged("voice C4 4 C5 4 C4 4;");
        judged("voice C4 4 C#5 4;", 3010);
        judged("voice C#5 4 C4 4;", 3010);
        judged("voice C4 4 r 4 C6 4;");
        judged("voice C4 4 | C6 1;", 3010);
        judged("voice <C4 G5>4 <C5 E7>4;");
        judged("voice <C4 G5>4 <C#5 E5>4;", 3010);
        judged("voice C6 4; voice C2 4;");
    }

    private static void crossings() {
        judged("voice C4 1; voice C4 1;");
        judged("voice C4 1; voice D4 1;", 4100);
        judged("voice C4 1; voice <A3 D4>1;", 4100);
        judged("voice C4 1; voice <A3 C4>1;");
        judged("voice <C4 G4>1; voice E4 1;", 4100);
        judged("voice <C4 G4>1; voice C4 1;");
        judged("voice C4 2 G4 2; voice E4 2 F4 2;", 4100);
        judged("voice G4 2 C4 2; voice E4 2 F4 2;", 4110);
        judged("voice C4 2 G4 2; voice r2 F4 2;");
        judged("voice r2 C4 2; voice E4 2 r2;");
        judged("voice G4 4 C4 4 G4 4; voice E4 2.;", 4100);
        judged("voice C4 4 C4 4 C4 2; voice D4 1;", 4100);
        judged("voice C4 1; voice D4 4 D4 4 D4 2;", 4100, 4110, 4120);
        judged("voice G4 4 C4 8 G4 8; voice E4 4 {3/2:E4 8 E4 8 E4 8};", 4110, 4120);
        judged("voice C5 1; voice C4 1; voice D4 1;", 4201);
        judged("voice C4 1; voice B3 1; voice D4 1;", 4200, 4201);
        judged("voice C4 4; voice r4 E4 4;");
        judged("voice r4 C4 4; voice E4 4;");
        judged("voice r1; voice E4 1;");
        judged("voice C4 1; voice r1;");
    }

    private static void parallels() {
        judged("voice G4 4 A4 4; voice C4 4 D4 4;", 5110);
        judged("voice C5 4 D5 4; voice C4 4 D4 4;", 5110);
        judged("voice C4 4 D4 4; voice C4 4 D4 4;", 5110);
        judged("voice C5 4 D4 4; voice C4 4 D4 4;", 5110);
        judged("voice G5 4 A4 4; voice C4 4 D4 4;", 5110);
        judged("voice F4 4 G4 4; voice C4 4 D4 4;");
        judged("voice G4 4 D5 4; voice C4 4 D4 4;");
        judged("voice C5 4 A4 4; voice C4 4 D4 4;");
        judged("voice G4 4 G4 4; voice C4 4 C4 4;");
        judged("voice G4 4 G5 4; voice C4 4 C4 4;");
        judged("voice G4 4 G4 4; voice C4 4 C3 4;", 5110);
        judged("voice G4 4 r4 A4 4; voice C4 4 r4 D4 4;");
        judged("voice r4 A4 4; voice C4 4 D4 4;");
        judged("voice G4 4 A4 4; voice r4 D4 4;");
        judged("voice G4 4 r4; voice C4 4 D4 4;");
        judged("voice G4 4 A4 4; voice C4 4 r4 D4 4;");
        judged("voice G4 4 r4 A4 4; voice C4 4 D4 4;");
        judged("voice r4 G4 4; voice C4 4 C3 4;");
        judged("voice G4 4 A4 4; voice C4 2 D4 2;");
        judged("voice G4 2 A4 4; voice r4 C4 4 D4 4;", 5120);
        judged("voice G4 2 A4 4; voice D4 4 C4 4 D4 4;", 5120);
        judged("voice <G4 C5>4 <A4 C5>4; voice <C4 E4>4 <D4 F4>4;", 5110);
        judged("voice <F4 G4>4 <E4 A4>4; voice <B3 C4>4 <C4 D4>4;");
        judged("voice G4 4 A4 4; voice C4 4; voice C4 4 D4 4;", 5210);
        judged("voice G4 4 A4 4; voice G4 4 A4 4; voice C4 4 D4 4;", 5110, 5210, 5211);
        judged("voice G4 4 A4 4; voice C4 4 D4 8;", 5110);
        judged("voice F3 4 G3 4; voice C4 4 D4 4;", 4100, 4110);
        judged("voice F3 4 G3 4; voice Bb3 4 C4 4;", 4100, 4110, 5110);
    }

    private static void order() {
        judged("voice G4 4 A4 4 B4 4~; voice A4 1~ | r 4 | D3 4; time 5/16;",
            1000, 2020, 1100, 2100, 4100, 1111);
        judged("voice C4 4 D4 4 ; voice C4 4 E2 4; voice C3 4~ E4 4;", 3110, 2200, 3210, 4210, 4211, 5211);
        judged("voice C4 4 E4 4; voice C4 4 E4 4; voice C4 4 E5 4;", 5110, 3210, 4210, 4211, 5210, 5211);
        judged("voice C4 1; voice | E4 2 | F4 1;", 1101, 4100, 4110);
    }

    private static void numbersOfFaults() {
        PlainMusic music = Texts.scored("voice C4 4 D6 4~;");
        Due.is("fault before judge()", music.fault(0, 0), -1);
        Due.is("judge()", music.judge(), 2);
        for (int what : new int[] {-1, 4, 5, Integer.MIN_VALUE, Integer.MAX_VALUE}) {
            Due.is("fault(0, " + what + ")", music.fault(0, what), -1);
        }
        for (int k : new int[] {-1, 2, 7000, Integer.MIN_VALUE, Integer.MAX_VALUE}) {
            Due.is("fault(" + k + ", 0)", music.fault(k, 0), -1);
        }
        mostFaults();
    }

    /** Nearly all that can be found in one score. */
    private static void mostFaults() {
        StringBuilder text = new StringBuilder("time 1/1;");
        for (int v = 0; v < 4; v++) {
            String pair = "C" + v + "64~C" + (v + 4) + "64~";
            text.append("voice[[[[[[|" + pair + pair + "]]]]]]" + Texts.times(22, pair) + ";");
        }
        List<int[]> due = new Oracle(text.toString()).judge();
        PlainMusic music = Texts.scored(text.toString());
        Due.is("many faults", due.size() > 6000 ? 1 : 0, 1);
        Due.is("judge()", music.judge(), due.size());
        for (int k = 0; k < due.size(); k++) {
            for (int what = 0; what < 4; what++) {
                Due.is("fault(" + k + ", " + what + ") of many", music.fault(k, what), due.get(k)[what]);
            }
        }
        Due.is("behind the last", music.fault(due.size(), 0), -1);
    }

    private static void whenFound() {
        PlainMusic music = Texts.scored("voice C4 4~;");
        music.judge();
        Texts.feedExactly(music, "voice C4 3;");
        music.score();
        Due.is("fault behind a FAULT", music.fault(0, 0), 2);
        Texts.feedExactly(music, "voice C4 4~;");
        music.score();
        Due.is("fault of another score", music.fault(0, 0), -1);
        Due.is("judge()", music.judge(), 1);
        Due.is("judge() again", music.judge(), 1);
        Due.is("fault(0, 0)", music.fault(0, 0), 2);
        Due.is("fault(1, 0)", music.fault(1, 0), -1);
    }
}
