/** Promises 11 to 15: beam, group, breaks, line, width. */
public final class CutsTest {
    private CutsTest() {
    }

    public static void main(String[] args) {
        costs();
        ties();
        runs();
        barsOfBeams();
        beamsNotTried();
        groupsStay();
        widths();
        manyTimes();
        lineCosts();
        pagesNotTried();
        linesStay();
        Due.end("CutsTest");
    }

    private static void groups(PlainMusic music, String text, int... due) {
        for (int i = 0; i < due.length; i++) {
            Due.is("group(" + i + ") of " + text, music.group(i), due[i]);
        }
        for (int i : new int[] {-1, due.length, 14, 100, Integer.MIN_VALUE, Integer.MAX_VALUE}) {
            Due.is("group(" + i + ") of " + text, music.group(i), 0);
        }
    }

    private static void beamed(String text, int cost, int... due) {
        PlainMusic music = Texts.scored(text);
        Due.is("group(0) before beam", music.group(0), 0);
        Due.is("beam(0, 0) of " + text, music.beam(0, 0), cost);
        groups(music, text, due);
    }

    private static void costs() {
        beamed("voice;", 0);
        beamed("voice C4 4 D4 2;", 0);
        beamed("voice C4 8;", 3, 1);
        beamed("voice C4 8 C4 8;", 1, 2);
        beamed("voice C4 8 C4 8 C4 8;", 3, 3);
        beamed("voice C4 8 C4 8 C4 8 C4 8;", 2, 2, 2);
        beamed("time 6/8; voice C4 8 C4 8 C4 8 C4 8;", 6, 2, 2);
        beamed("time 2/2; voice C4 8 C4 8 C4 8 C4 8;", 1, 4);
        beamed("time 3/16; voice C4 16 C4 16;", 3, 2);
        beamed("time 4/1; voice C4 8 C4 16 C4 16;", 2, 3);
        beamed("time 4/1; voice C4 8 C4 8. C4 8..;", 1, 3);
        beamed("time 4/1; voice C4 8 C4 16 C4 32 C4 64;", 4, 4);
        beamed("time 4/1; voice C4 8 G4 8;", 1, 2);
        beamed("time 4/1; voice C4 8 A4 8;", 2, 2);
        beamed("time 4/1; voice A4 8 C4 8;", 2, 2);
        beamed("time 4/1; voice C4 8 C6 8;", 6, 1, 1);
        beamed("time 4/1; voice <C4 E7>8 <D4 F7>8;", 1, 2);
        beamed("time 4/1; voice <C4 E4>8 <C6 E6>8;", 6, 1, 1);
        beamed("time 4/1; voice Gb4 8 Cb4 8 B#3 8;", 1, 3);
        beamed("voice C4 8. C4 16 C4 8. C4 16;", 4, 2, 2);
    }

    private static void ties() {
        beamed("time 4/1; voice " + Texts.times(6, "C4 16 ") + ";", 1, 6);
        beamed("time 4/1; voice " + Texts.times(7, "C4 16 ") + ";", 2, 5, 2);
        beamed("time 4/1; voice " + Texts.times(12, "C4 16 ") + ";", 2, 6, 6);
        beamed("time 4/1; voice " + Texts.times(13, "C4 64 ") + ";", 3, 6, 5, 2);
        beamed("time 4/1; voice " + Texts.times(14, "C4 64 ") + ";", 3, 6, 6, 2);
        beamed("time 4/1; voice C4 8 E5 8;", 6, 2);
        beamed("time 4/1; voice C4 8 E5 8 C4 8;", 9, 2, 1);
        beamed("time 4/1; voice C4 8 F5 8;", 6, 1, 1);
        beamed("time 4/8; voice C4 8 C4 8 C4 8 C4 8;", 6, 2, 2);
        beamed("time 4/8; voice C4 16 C4 8 C4 16;", 3, 3);
    }

    private static void runs() {
        beamed("voice C4 8 C4 8 r 8 C4 8;", 4, 2, 1);
        beamed("voice C4 8 C4 4 C4 8;", 6, 1, 1);
        beamed("voice r8 C4 8 r8 C4 8 r8;", 6, 1, 1);
        beamed("voice C4 4 C4 16 C4 16 C4 4 C4 16 C4 16 C4 16;", 4, 2, 3);
        beamed("voice C4 8. C4 16 C4 4 r 4 C4 64 C4 64;", 3, 2, 2);
        beamed("voice {3/2:C4 4 C4 4 C4 4};", 0);
        beamed("voice {3/2:C4 8 C4 8 C4 8};", 1, 3);
        beamed("voice {3/2:C4 8 C4 8 C4 8 C4 8 C4 8 C4 8};", 2, 3, 3);
        beamed("voice C4 8 C4 8 | C4 8;", 1, 2);
    }

    private static void barsOfBeams() {
        String text = "voice C4 8 | C4 8 C4 8 C4 8 C4 8 | r1 ||; voice C4 16 | C4 16";
        PlainMusic music = Texts.scored(text + " E5 16;");
        Due.is("beam(0, 0)", music.beam(0, 0), 3);
        groups(music, "bar 0", 1);
        Due.is("beam(0, 1)", music.beam(0, 1), 2);
        groups(music, "bar 1", 2, 2);
        Due.is("beam(0, 2)", music.beam(0, 2), 0);
        groups(music, "bar 2");
        Due.is("beam(0, 3)", music.beam(0, 3), 0);
        Due.is("beam(0, 4)", music.beam(0, 4), 0);
        Due.is("beam(0, 5)", music.beam(0, 5), -1);
        Due.is("beam(1, 1)", music.beam(1, 1), 6);
        groups(music, "bar 1 of 1", 2);
        for (int n : new int[] {-1, 5, 101, 102, Integer.MIN_VALUE, Integer.MAX_VALUE}) {
            Due.is("beam(0, " + n + ")", music.beam(0, n), -1);
            Due.is("beam(" + n + ", 0)", music.beam(n, 0), -1);
        }
        Due.is("beam(1, 2)", music.beam(1, 2), -1);
        Due.is("beam(2, 0)", music.beam(2, 0), -1);
        groups(music, "the latest tried", 2);
    }

    private static void beamsNotTried() {
        PlainMusic music = Texts.scored("voice C4 8|" + Texts.times(15, "C4 64 ") + "|"
            + Texts.times(14, "C4 64 r 4 C4 1 ") + "|" + Texts.times(15, "r 64 C4 4 ") + ";");
        Due.is("beam(0, 0)", music.beam(0, 0), 3);
        Due.is("beam of 15 SHORT", music.beam(0, 1), -4);
        groups(music, "the latest tried", 1);
        Due.is("beam of 14 SHORT", music.beam(0, 2), 42);
        groups(music, "14 SHORT", 1, 1, 1, 1, 1, 1, 1, 1, 1, 1, 1, 1, 1, 1);
        Due.is("beam of no SHORT", music.beam(0, 3), 0);
        groups(music, "no SHORT");
    }

    private static void groupsStay() {
        PlainMusic music = Texts.scored("voice C4 8 C4 8;");
        music.beam(0, 0);
        music.beam(0, 1);
        music.beam(1, 0);
        Texts.feedExactly(music, "@");
        music.score();
        groups(music, "behind BAD and a FAULT", 2);
        Texts.feedExactly(music, "voice C4 8 C4 8;");
        music.score();
        groups(music, "another score");
    }

    private static void wide(String text, int... due) {
        PlainMusic music = Texts.scored(text);
        for (int b = 0; b < due.length; b++) {
            Due.is("width(" + b + ") of " + text, music.width(b), due[b]);
        }
        for (int b : new int[] {-1, due.length, 101, 102, Integer.MIN_VALUE, Integer.MAX_VALUE}) {
            Due.is("width(" + b + ") of " + text, music.width(b), -1);
        }
        Due.is("told(4) of " + text, music.told(4), due.length);
    }

    private static void widths() {
        wide("");
        wide("voice;", 10);
        wide("voice C4 4 D4 4;", 26);
        wide("voice r 4 D4 4 r 4;", 34);
        wide("voice C#4 4 Db4 4;", 32);
        wide("voice C##4 4 Dbb4 4 E#4 4;", 49);
        wide("voice <Cb4 E4 G#4 Bbb4>1;", 30);
        wide("voice C4 4 D4 4; voice C4 4 D4 4;", 26);
        wide("voice C4 4 D4 4; voice C4 8 D4 4;", 34);
        wide("voice C4 2|C4 4 C4 4; voice C4 4|r 4 r 4;", 18, 26);
        wide("voice C4 2|C4 4 C4 4||; voice C4 4|r 8 r 4 C#4 4;", 18, 45, 10, 10);
        wide("voice {3/2:C4 8 C4 8 C4 8} C4 4; voice C4 8 C4 8 C4 4;", 50);
        wide("voice C4 4; voice {3/2:C4 2.};voice C4 8. C4 16;voice r64 r64;", 34);
        wide("voice [C#4 4 [r4]];", 64);
        wide("voice {13/1:{11/1:{7/1:{5/1:{3/1: C4 1 C4 1 C4 1}}}}}|{13/1:{11/1:{7/1:{5/1:{3/1: C4 1 C4 1}}}}};"
            + "voice r1|{13/1:{11/1:{7/1:{5/1:{3/1: C4 1 C4 2}}}}};", 34, 26);
        wide("voice C4 4|C4 4;voice {16/1:{16/1: C4 1|C4 2 C4 2 C4 1}};voice {15/1:{15/1:{13/1:C4 1|C4 1 C4 1}}};", 18, 42);
    }

    /** A BAR with more times than one voice has EVENTS. */
    private static void manyTimes() {
        String part = "[[[[[" + Texts.times(8, "C4 64 ") + "]]]]]" + Texts.times(44, "r64");
        String text = "voice " + part + "; voice {3/2:" + part + "}; voice {5/4:" + part + "}; voice {7/4:" + part + "};";
        PlainMusic music = Texts.scored(text);
        Due.is("width(0) of many times", music.width(0), new Oracle(text).width(0));
        Due.is("more than 800 times", music.width(0) > 6400 ? 1 : 0, 1);
        Due.is("breaks(1) of many times", music.breaks(1), new Oracle(text).breaks(1).get(0));
    }

    private static void laid(PlainMusic music, int w, int cost, int... due) {
        Due.is("breaks(" + w + ")", music.breaks(w), cost);
        for (int i = 0; i < due.length; i++) {
            Due.is("line(" + i + ") of " + w, music.line(i), due[i]);
        }
        for (int i : new int[] {-1, due.length, 14, 100, Integer.MIN_VALUE, Integer.MAX_VALUE}) {
            Due.is("line(" + i + ") of " + w, music.line(i), 0);
        }
    }

    private static void lineCosts() {
        PlainMusic music = Texts.scored("voice C4 1|C4 1|C4 1;");
        Due.is("line(0) before breaks", music.line(0), 0);
        laid(music, 36, 0, 2, 1);
        laid(music, 35, 289 * 2, 1, 1, 1);
        laid(music, 53, 17 * 17, 2, 1);
        laid(music, 54, 0, 3);
        laid(music, 1000, 0, 3);
        laid(music, 40, 16, 2, 1);
        laid(music, 20, 8, 1, 1, 1);
        laid(music, 18, 0, 1, 1, 1);
        laid(music, 17, 30003, 1, 1, 1);
        laid(music, 1, 30000 + 3 * 289, 1, 1, 1);
        music = Texts.scored("voice C4 1|C4 1|C4 1|C4 2 C4 2;");
        laid(music, 40, 500, 2, 1, 1);
        laid(music, 44, 64, 2, 2);
        laid(music, 26, 64 * 3, 1, 1, 1, 1);
        laid(music, 25, 49 * 3 + 10001, 1, 1, 1, 1);
        music = Texts.scored("voice C4 1|C4 4 C4 4 C4 4 C4 4|C4 1;voice;");
        laid(music, 36, 18 * 18 + 10036, 1, 1, 1);
        laid(music, 60, 0, 2, 1);
        laid(music, 59, 41 * 41 + 17 * 17, 1, 1, 1);
        music = Texts.scored("voice;");
        laid(music, 10, 0, 1);
        laid(music, 9, 10001, 1);
        laid(music, 11, 0, 1);
        music = Texts.scored("voice" + Texts.times(13, "|") + ";");
        laid(music, 20, 0, 2, 2, 2, 2, 2, 2, 2);
        laid(music, 35, 25 * 4, 3, 3, 3, 3, 2);
    }

    private static void pagesNotTried() {
        PlainMusic music = new PlainMusic();
        for (int w : new int[] {0, -1, 1001, Integer.MIN_VALUE, Integer.MAX_VALUE}) {
            Due.is("breaks(" + w + ") without voice", music.breaks(w), -1);
        }
        Due.is("breaks(1) without voice", music.breaks(1), -2);
        Due.is("breaks(1000) without voice", music.breaks(1000), -2);
        music = Texts.scored("voice;voice" + Texts.times(14, "|") + ";");
        Due.is("breaks of 15 BARS", music.breaks(100), -4);
        Due.is("line(0)", music.line(0), 0);
        Due.is("breaks(0) of 15 BARS", music.breaks(0), -1);
        music = Texts.scored("voice " + Texts.times(75, "<C##0 D##0 E##0 F##0>64") + ";");
        Due.is("a wide BAR", music.width(0), 10 + 8 * 75 + 3 * 600);
        Due.is("a wide BAR in a narrow LINE", music.breaks(1), 10000 + 2409 * 2409);
    }

    private static void linesStay() {
        PlainMusic music = Texts.scored("voice C4 1|C4 1|C4 1;");
        laid(music, 36, 0, 2, 1);
        Due.is("breaks(0)", music.breaks(0), -1);
        Due.is("breaks(1001)", music.breaks(1001), -1);
        Texts.feedExactly(music, "voice C4 5;");
        music.score();
        Due.is("line(0) behind BAD and a FAULT", music.line(0), 2);
        Due.is("line(1) behind BAD and a FAULT", music.line(1), 1);
        Texts.feedExactly(music, "voice C4 1|C4 1|C4 1;");
        music.score();
        Due.is("line(0) of another score", music.line(0), 0);
        laid(music, 17, 30003, 1, 1, 1);
        Texts.feedExactly(music, "voice C4 1|C4 1;");
        music.score();
        laid(music, 17, 20002, 1, 1);
        Texts.feedExactly(music, "voice C4 1;");
        music.score();
        laid(music, 17, 10001, 1);
    }
}
