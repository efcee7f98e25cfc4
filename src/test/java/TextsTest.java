/** Promises 1 to 8: a new object, feed, cut, score, place, told, count, event. */
public final class TextsTest {
    private TextsTest() {
    }

    public static void main(String[] args) {
        aNewObject();
        tape();
        bytesInOrder();
        tokensThatAreNone();
        tokensOutOfPlace();
        tooMuch();
        tooMuchWalked();
        twiceAndNotHigher();
        numbers();
        times();
        restsHeld();
        leastFaultOfAToken();
        oneAfterAnother();
        voicesApart();
        manyBars();
        fullTape();
        scoreStays();
        told();
        walks();
        events();
        keys();
        Due.end("TextsTest");
    }

    private static void fine(String text, int events) {
        Texts.taken(text, events);
    }

    private static void wrong(String text, int fault, int place) {
        Texts.refused(text, fault, place);
    }

    /** What one text had leaves nothing behind for the next one. */
    private static void oneAfterAnother() {
        PlainMusic music = new PlainMusic();
        for (int i = 0; i < 20; i++) {
            String name = "n" + (char) ('a' + i);
            Texts.feedExactly(music, "rule " + name + " = " + name + name + "; line C4; row " + name + "; time 3/4; voice "
                + Texts.times(20, "r4 ") + ";");
            Due.is("score() no. " + i, music.score(), 20);
            Due.is("place() no. " + i, music.place(), -2);
            Texts.feedExactly(music, "rule x" + name + " = y" + name + "; line C4 D4; row z; time 2/4; voice [ C4 4;");
            Due.is("score() behind no. " + i, music.score(), -12);
        }
        Due.is("told(1)", music.told(1), 1);
        Due.is("told(2)", music.told(2), 1);
        Due.is("told(3)", music.told(3), 1);
        Due.is("told(0)", music.told(0), 1);
    }

    /** Nor has one voice what those ahead of it had. */
    private static void voicesApart() {
        String lines = "voice " + Texts.times(60, "|") + ";";
        fine(lines + lines + lines + lines, 0);
        String events = "voice [[" + Texts.times(50, "C464") + "]];";
        fine(events + events + events + events, 800);
        String parts = "voice [[[[[[[]]]]]]][[[[[[[]]]]]]][[[[[[[]]]]]]];";
        fine(parts + parts + parts + parts, 0);
        String long1 = "voice {1/16:{1/16: C4 1 D4 1}};";
        fine(long1 + long1 + long1 + long1, 8);
        PlainMusic music = new PlainMusic();
        for (int i = 0; i < 12; i++) {
            Texts.feedExactly(music, "voice <C4 E4 G4>4;" + events.replace("C", "D") + lines + parts);
            Due.is("score() no. " + i, music.score(), 201);
            Due.is("the first KEY", music.event(0, 0, 10), 48);
            Due.is("the last KEY", music.event(1, 199, 10), 50);
            Due.is("the last START", music.event(1, 199, 0), 199);
            Due.is("BARS", music.count(2, 1), 61);
        }
    }

    private static void manyBars() {
        PlainMusic music = Texts.scored("voice r1" + Texts.times(99, "|") + "C4 8|D#4 16 D4 16;");
        Due.is("BARS", music.count(0, 1), 101);
        Due.is("told(4)", music.told(4), 101);
        Due.is("BAR 99", music.event(0, 1, 6), 99);
        Due.is("BAR 100", music.event(0, 3, 6), 100);
        Due.is("width(100)", music.width(100), 29);
        Due.is("width(99)", music.width(99), 18);
        Due.is("width(101)", music.width(101), -1);
        Due.is("beam(0, 100)", music.beam(0, 100), 1);
        Due.is("group(0)", music.group(0), 2);
        Due.is("beam(0, 101)", music.beam(0, 101), -1);
        Due.is("judge()", music.judge(), 99);
        Due.is("fault(98, 3)", music.fault(98, 3), 99);
    }

    private static void fullTape() {
        fine("voice " + Texts.times(12, "|") + Texts.times(1981, " ") + ";", 0);
        wrong("voice " + Texts.times(1994, "|"), 2, 2000);
        wrong("voice " + Texts.times(1993, "|") + ";", 3, 0);
        wrong("voice " + Texts.times(1993, "|") + "a", 2, 1999);
        wrong("voice " + Texts.times(1993, "|") + "A", 1, 1999);
        wrong("voice C4 4" + Texts.times(1990, "4"), 1, 9);
        wrong("voice C4 4;" + Texts.times(1989, "a"), 1, 11);
        wrong(Texts.times(1999, " ") + "[", 2, 1999);
        wrong(Texts.times(1991, " ") + "voice C44", 2, 2000);
        wrong(Texts.times(1991, " ") + "rule a=bc", 2, 2000);
        fine(Texts.times(1992, " ") + "voice|;%", 0);
    }

    private static void aNewObject() {
        PlainMusic music = new PlainMusic();
        Due.is("cut(1)", music.cut(1), -1);
        Due.is("cut(0)", music.cut(0), 0);
        Due.is("place()", music.place(), -2);
        int[] due = {0, 0, 0, 0, 0, 4, 4};
        for (int what = 0; what < due.length; what++) {
            Due.is("told(" + what + ")", music.told(what), due[what]);
        }
        Due.is("count(0, 0)", music.count(0, 0), -1);
        Due.is("event(0, 0, 0)", music.event(0, 0, 0), 10000);
        Due.is("judge()", music.judge(), 0);
        Due.is("fault(0, 0)", music.fault(0, 0), -1);
        Due.is("beam(0, 0)", music.beam(0, 0), -1);
        Due.is("group(0)", music.group(0), 0);
        Due.is("breaks(100)", music.breaks(100), -2);
        Due.is("line(0)", music.line(0), 0);
        Due.is("width(0)", music.width(0), -1);
        Due.is("lines(0, 10, 0)", music.lines(0, 10, 0), -2);
        Due.is("second(0, 0)", music.second(0, 0), -1);
        Due.is("readings()", music.readings(), -2);
        Due.is("tree(0, 0)", music.tree(0, 0), -1);
        Due.is("beside(0, 0)", music.beside(0, 0), -1);
        Due.is("partner(0)", music.partner(0), -1);
        Due.is("ways()", music.ways(), 0);
        Due.is("sample(0, 1)", music.sample(0, 1), 0.0);
        Due.is("score() of nothing", music.score(), 0);
    }

    private static void tape() {
        PlainMusic music = new PlainMusic();
        for (int i = 1; i <= 100; i++) {
            Due.is("feed no. " + i, music.feed(0x20202020, 0x20202020, 0x20202020, 0x20202020, 0x20202020), 20 * i);
        }
        Due.is("feed beyond 2000", music.feed(0, 0, 0, 0, 0), -3);
        Due.is("cut(2001)", music.cut(2001), -1);
        Due.is("cut(-1)", music.cut(-1), -1);
        Due.is("cut(least)", music.cut(Integer.MIN_VALUE), -1);
        Due.is("cut(19)", music.cut(19), 1981);
        Due.is("feed to 2001", music.feed(0, 0, 0, 0, 0), -3);
        Due.is("cut(1)", music.cut(1), 1980);
        Due.is("feed to 2000", music.feed(0x20202020, 0x20202020, 0x20202020, 0x20202020, 0x20202020), 2000);
        Due.is("score() of blanks", music.score(), 0);
        Due.is("THE TAPE is empty", music.cut(0), 0);
        Texts.feed(music, "@");
        Due.is("score()", music.score(), -11);
        Due.is("THE TAPE is empty behind a FAULT", music.cut(0), 0);
        Texts.feed(music, "time 3/4; voice C4 4");
        Due.is("cut(11)", music.cut(11), 9);
        Due.is("what is left is read", music.score(), 0);
        Due.is("told(5)", music.told(5), 3);
    }

    private static void bytesInOrder() {
        PlainMusic music = new PlainMusic();
        Due.is("feed", music.feed(1987012963, 1696613172, 540293920, 538976288, 0x2020203b), 20);
        Due.is("cut", music.cut(1), 19);
        Due.is("voice C4 4;", music.score(), 1);
        Due.is("KEY", music.event(0, 0, 10), 48);
        Due.is("feed", music.feed(0x2020ff20, 0x20202020, 0x20202020, 0x20202020, 0x20202020), 20);
        Due.is("score()", music.score(), -11);
        Due.is("place()", music.place(), 2);
    }

    private static void tokensThatAreNone() {
        wrong("@", 1, 0);
        wrong("\u0000", 1, 0);
        wrong("\u0080", 1, 0);
        wrong(" \u000b", 1, 1);
        wrong("voice H4 4;", 1, 6);
        wrong("voice C9 4;", 1, 6);
        wrong("voice C 4 4;", 1, 6);
        wrong("voice C###4 4;", 1, 6);
        wrong("voice Cbbb4 4;", 1, 6);
        wrong("voice C#b4 4;", 1, 6);
        wrong("voice Cb#4 4;", 1, 6);
        wrong("voice C", 1, 6);
        wrong("voice C#", 1, 6);
        wrong("voice C4 4 B", 1, 11);
        wrong("rule abcdefghi = a;", 1, 5);
        fine("rule abcdefgh = a;", 0);
        wrong("timevoice", 1, 0);
        wrong("voice C4 12345;", 1, 9);
        wrong("voice C412345;", 1, 8);
        wrong("voice C4 00004;", 1, 9);
        fine("voice C4 0004;", 1);
        wrong("time 3\u00ff4;", 1, 6);
        wrong("voice ; ,", 1, 8);
        fine("\t\n\r voice\rC4\n4%~\t; [\n\t;%", 1);
        fine("% time 3/4;", 0);
        fine("%", 0);
        wrong("voice C%4 4;\n;", 1, 6);
        fine("voice C4%4 4;\n8%;\n;", 1);
    }

    private static void tokensOutOfPlace() {
        wrong("C4", 2, 0);
        wrong(" ;", 2, 1);
        wrong("r", 2, 0);
        wrong("voices;", 2, 0);
        wrong("time", 2, 4);
        wrong("time 3", 2, 6);
        wrong("time 3;", 2, 6);
        wrong("time 3/4", 2, 8);
        wrong("time 3/4  ", 2, 10);
        wrong("time 3/4 % x", 2, 12);
        wrong("time r;", 2, 5);
        wrong("time /0;", 2, 5);
        wrong("voice {/0:};", 2, 7);
        wrong("voice C4 ..../;", 2, 9);
        wrong("voice", 2, 5);
        wrong("voice C4", 2, 8);
        wrong("voice C4;", 2, 8);
        wrong("voice C4 4", 2, 10);
        wrong("voice C4 4 time", 2, 11);
        wrong("voice 4;", 2, 6);
        wrong("voice a;", 2, 6);
        wrong("voice A4b4;", 2, 8);
        wrong("voice .;", 2, 6);
        wrong("voice ~;", 2, 6);
        wrong("voice | ~;", 2, 8);
        wrong("voice r;", 2, 7);
        wrong("voice r r 4;", 2, 8);
        wrong("voice [C4 4;", 2, 11);
        wrong("voice C4 4];", 2, 10);
        wrong("voice :;", 2, 6);
        wrong("voice };", 2, 6);
        wrong("voice [C4 4};", 2, 11);
        wrong("voice {3/2:C4 4];", 2, 15);
        wrong("voice {3/2:C4 4:};", 2, 15);
        wrong("voice [{3/2:C4 4:}];", 2, 16);
        wrong("voice [{3/2:C4 4]};", 2, 16);
        wrong("voice {3 2:C4 4};", 2, 9);
        wrong("voice {3/2 C4 4};", 2, 11);
        wrong("voice {:C4 4};", 2, 7);
        wrong("voice <>4;", 2, 7);
        wrong("voice <r>4;", 2, 7);
        wrong("voice <C4 4;", 2, 10);
        wrong("voice <C4", 2, 9);
        wrong("voice >;", 2, 6);
        wrong("voice C4 4 ~ ~;", 2, 13);
        wrong("voice C4 4 ~ .;", 2, 13);
        wrong("line;", 2, 4);
        wrong("line r;", 2, 5);
        wrong("line C4 4;", 2, 8);
        wrong("line C4", 2, 7);
        wrong("row;", 2, 3);
        wrong("row time;", 2, 4);
        wrong("row a r;", 2, 6);
        wrong("row a", 2, 5);
        wrong("rule;", 2, 4);
        wrong("rule a;", 2, 6);
        wrong("rule a b;", 2, 7);
        wrong("rule a = ;", 2, 9);
        wrong("rule a = b c d;", 2, 13);
        wrong("rule a = b = c;", 2, 11);
        wrong("rule r = a;", 2, 5);
        wrong("rule a = b", 2, 10);
    }

    private static void tooMuch() {
        String voice = "voice;";
        fine(Texts.times(4, voice), 0);
        wrong(Texts.times(5, voice), 3, 24);
        wrong(Texts.times(4, voice) + "voice @", 3, 24);
        fine(Texts.times(24, "rule a=b;"), 0);
        wrong(Texts.times(25, "rule a=b;"), 3, 216);
        fine("line" + Texts.times(8, " C4") + ";", 0);
        wrong("line" + Texts.times(9, " C4") + ";", 3, 29);
        fine("row" + Texts.times(12, " a") + ";", 0);
        wrong("row" + Texts.times(13, " a") + ";", 3, 28);
        fine("rule a=b c;rule d=e f;rule g=h i;rule j=k l;row m n o p a;", 0);
        wrong("rule a=b c;rule d=e f;rule g=h i;rule j=k l;row m n o p q;", 3, 56);
        wrong("row a b c d e f g h i j k l;rule m=n o;rule p=a q;", 3, 48);
        wrong("row a b c d e f g h i j k l;rule m=n o;rule p=q;", 3, 46);
        wrong("row a b c d e f g h i j k l;rule m=n o;rule a=p;rule q=a;", 3, 53);
        fine("voice <C4 D4 E4 F4>4;", 1);
        wrong("voice <C4 D4 E4 F4 G4>4;", 3, 19);
        wrong("voice <C4 D4 E4 F4 C4>4;", 3, 19);
        fine("voice C4 64...;", 1);
        wrong("voice C4 64....;", 3, 14);
        wrong("voice r 4....;", 3, 12);
        fine("voice [[[[[[[]]]]]]];", 0);
        fine("voice [[[[[[[:]]]]]]];", 0);
        fine("voice [{1/1:[{1/1:[{1/1:[]}]}]}];", 0);
        wrong("voice [[[[[[[|]]]]]]];", 3, 13);
        wrong("voice [[[[[[[:r 4]]]]]]];", 3, 14);
        wrong("voice [[[[[[[<C4>4]]]]]]];", 3, 13);
        wrong("voice [[[[[[[[]]]]]]]];", 3, 13);
        wrong("voice [[[[[[[{1/1:}]]]]]]];", 3, 13);
        wrong("voice {1/1:{1/1:{1/1:{1/1:{1/1:{1/1:{1/1:C4 1}}}}}}};", 3, 41);
        wrong("voice [[[[[[[4]]]]]]];", 2, 13);
        fine("voice [[[[[[]]]]]][[[[[[C4 4]]]]]];", 64);
        fine("voice " + Texts.times(300, "C464") + ";", 300);
        wrong("voice " + Texts.times(300, "C464") + "r4;", 3, 1206);
        wrong("voice " + Texts.times(300, "r64 ") + "C464;", 3, 1206);
        fine("voice " + Texts.times(75, "<C4D4E4F4>64") + ";voice " + Texts.times(75, "<C4D4E4F4>64") + ";", 150);
        wrong("voice " + Texts.times(75, "<C4D4E4F4>64") + "<C464;", 3, 907);
        wrong("voice " + Texts.times(74, "<C4D4E4F4>64") + "<C4D4E4>64<C4B3>64;", 3, 907);
    }

    private static void tooMuchWalked() {
        String events = "voice [" + Texts.times(150, "C464") + "]";
        fine(events + ";", 300);
        wrong(events + "r64;", 3, 0);
        wrong(" time 4/4; " + events + "r64;", 3, 11);
        String lines = "voice [" + Texts.times(50, "|") + "]";
        fine(lines + ";", 0);
        wrong(lines + "|;", 3, 0);
        String parts = "voice " + Texts.times(666, "[]");
        fine(parts + "||;", 0);
        wrong(parts + "|||;", 3, 0);
        fine("voice [[]" + Texts.times(499, ":") + "][];", 0);
        wrong("voice [[]" + Texts.times(499, ":") + "][]|;", 3, 0);
        fine("voice [[]" + Texts.times(249, ":[]") + "]" + Texts.times(84, "[]") + "{1/1:}{1/1:{1/1:}};", 0);
        wrong("voice " + Texts.times(666, "[]") + "{1/1:}{1/1:}|; @", 3, 0);
        fine("voice [[[[[[[]]]]]]][[[[[[[]]]]]]][[[[[[[]]]]]]][[[[[[[]]]]]]][[[[[[[]]]]]]]" + Texts.times(95, "|") + ";", 0);
        wrong("voice " + Texts.times(6, "[[[[[[[]]]]]]]") + ";", 3, 0);
    }

    private static void twiceAndNotHigher() {
        wrong("time 3/4; time 3/4;", 4, 10);
        wrong("line C4; line C4;", 4, 9);
        wrong("row a; row a;", 4, 7);
        wrong("time 3/4; time @", 4, 10);
        fine("row a; rule a = b; line C4; time 1/1;", 0);
        wrong("voice <C4 C4>4;", 4, 10);
        wrong("voice <C4 B3>4;", 4, 10);
        wrong("voice <C#4 Db4>4;", 4, 11);
        wrong("voice <B4 Cb5>4;", 4, 10);
        wrong("voice <C4 E4 D4>4;", 4, 13);
        fine("voice <B#3 C#4 Dbb5>4;", 1);
        fine("voice <D##4 E#4>4;", 1);
        wrong("voice <E#4 Fb4>4;", 4, 11);
    }

    private static void numbers() {
        for (int n : new int[] {1, 2, 4, 8, 16, 32, 64}) {
            fine("voice C4 " + n + ";", 1);
        }
        for (int n : new int[] {0, 3, 5, 6, 7, 9, 12, 63, 65, 128, 256, 9999}) {
            wrong("voice C4 " + n + ";", 5, 9);
            wrong("voice r " + n + ";", 5, 8);
        }
        for (int n : new int[] {1, 3, 15, 16}) {
            fine("voice {" + n + "/" + n + ":};", 0);
        }
        for (int n : new int[] {0, 17, 32, 9999}) {
            wrong("voice {" + n + "/1:};", 5, 7);
            wrong("voice {1/" + n + ":};", 5, 9);
        }
        fine("time 1/1;", 0);
        fine("time 32/32;", 0);
        fine("time 31/16;", 0);
        wrong("time 0/4;", 5, 5);
        wrong("time 33/4;", 5, 5);
        wrong("time 4/0;", 5, 7);
        wrong("time 4/3;", 5, 7);
        wrong("time 4/24;", 5, 7);
        wrong("time 4/64;", 5, 7);
        wrong("time 0 4;", 5, 5);
    }

    private static void times() {
        String ten = "{1/10:{1/10:{1/10:";
        fine("voice " + ten + "C4 1}}};", 1);
        wrong("voice " + ten + "C4 1.}}};", 6, 0);
        wrong("voice " + ten + "C4 1 r 64}}};", 6, 0);
        wrong("  voice C4 64 " + ten + "C4 1}}};", 6, 2);
        wrong("voice r 64 " + ten + "r 1}}};", 6, 0);
        wrong("voice {1/16:{1/16:{1/4:r 1}}};", 6, 0);
        String tenth = "{10/1:{10/1:{10/1:{10/1:{10/1:{10/1:";
        fine("voice " + tenth + "C4 1}}}}}};", 1);
        wrong("voice " + tenth + "C4 2}}}}}};", 6, 0);
        wrong("voice " + tenth + "C4 1.}}}}}};", 6, 0);
        fine("voice " + tenth + "C4 1 C4 1}}}}}} C4 64;", 3);
        wrong("voice {15/1:{15/1:{15/1:{15/1:C4 1}}}} {16/1:{16/1:C4 1}};", 6, 0);
        fine("voice {15/1:{15/1:{15/1:{15/1:C4 1}}}} {16/1:C4 1};", 2);
        fine("voice {15/1:{15/1:{15/1:{15/1:C4 1}}}}; voice {16/1:{16/1:C4 1}};", 2);
        wrong("voice " + ten + "C4 2." + Texts.times(100, "|") + "C4 2}}}|;", 3, 0);
        wrong("voice " + ten + "C4 1.}}}; @", 6, 0);
        wrong("voice " + ten + "C4 1.}}} @;", 1, 33);
    }

    private static void restsHeld() {
        wrong("voice r 4~;", 7, 9);
        wrong("voice r 4. ~;", 7, 11);
        fine("voice C4 4. ~ <C4 E4>4~;", 2);
    }

    private static void leastFaultOfAToken() {
        wrong("time 3/4; time", 4, 10);
        wrong("voice C4 4....;", 3, 13);
        wrong("time 4/12345", 1, 7);
        wrong("row a b c d e f g h i j k l abcdefghi;", 1, 28);
        wrong("line" + Texts.times(8, " C4") + " C9;", 1, 29);
        wrong("line" + Texts.times(8, " C4") + " 4;", 2, 29);
        wrong("voice; voice; voice; voice; voice", 3, 28);
    }

    private static void scoreStays() {
        PlainMusic music = Texts.scored("time 3/8; voice C4 4 D4 8;");
        Texts.feedExactly(music, "voice; voice; time 2/4; @");
        Due.is("score()", music.score(), -11);
        Due.is("place()", music.place(), 24);
        Due.is("told(0)", music.told(0), 1);
        Due.is("told(5)", music.told(5), 3);
        Due.is("count(0, 0)", music.count(0, 0), 2);
        Due.is("event(0, 1, 10)", music.event(0, 1, 10), 50);
        Texts.feedExactly(music, "voice r4;");
        Due.is("score()", music.score(), 1);
        Due.is("place()", music.place(), -2);
        Due.is("told(5)", music.told(5), 4);
        Due.is("told(6)", music.told(6), 4);
        Due.is("event(0, 0, 4)", music.event(0, 0, 4), 0);
        Due.is("score() of nothing", music.score(), 0);
        Due.is("told(0)", music.told(0), 0);
        Texts.feedExactly(music, "@");
        Due.is("score()", music.score(), -11);
        Due.is("place()", music.place(), 0);
    }

    private static void told() {
        PlainMusic music = Texts.scored("time 5/16; line C4 D4; rule a=b; rule a=b c; rule c=c;"
            + "row a b c d; voice|; voice C4 4||; voice;");
        int[] due = {3, 2, 3, 4, 3, 5, 16};
        for (int what = 0; what < due.length; what++) {
            Due.is("told(" + what + ")", music.told(what), due[what]);
        }
        for (int what : new int[] {-1, 7, 10, Integer.MIN_VALUE, Integer.MAX_VALUE}) {
            Due.is("told(" + what + ")", music.told(what), -1);
        }
        int[][] counts = {{0, 2}, {1, 3}, {0, 1}};
        for (int v = 0; v < 3; v++) {
            Due.is("count(" + v + ", 0)", music.count(v, 0), counts[v][0]);
            Due.is("count(" + v + ", 1)", music.count(v, 1), counts[v][1]);
            Due.is("count(" + v + ", 2)", music.count(v, 2), -1);
            Due.is("count(" + v + ", -1)", music.count(v, -1), -1);
        }
        for (int v : new int[] {-1, 3, 4, Integer.MIN_VALUE, Integer.MAX_VALUE}) {
            Due.is("count(" + v + ", 0)", music.count(v, 0), -1);
        }
    }

    /** The KEYS' steps that a voice of C4 1 and so on comes to, a line as /. */
    private static void walks(String parts, String due) {
        PlainMusic music = Texts.scored("voice " + parts + ";");
        StringBuilder got = new StringBuilder();
        int bar = 0;
        for (int i = 0; i < music.count(0, 0); i++) {
            while (bar < music.event(0, i, 6)) {
                got.append('/');
                bar++;
            }
            got.append("cdefgab".charAt((int) music.event(0, i, 20) % 7));
        }
        while (bar < music.count(0, 1) - 1) {
            got.append('/');
            bar++;
        }
        Due.is("the walk of " + parts + ", " + got + " for " + due, got.toString().equals(due) ? 1 : 0, 1);
    }

    private static void walks() {
        walks("", "");
        walks("|", "/");
        walks("C4 1 D4 1", "cd");
        walks("[C4 1]D4 1", "ccd");
        walks("[C4 1:D4 1]", "cd");
        walks("[C4 1:D4 1:E4 1]F4 1", "cdcef");
        walks("[:D4 1::E4 1]", "de");
        walks("[C4 1::D4 1]", "ccd");
        walks("[C4 1|[D4 1]]", "c/ddc/dd");
        walks("[C4 1[D4 1:E4 1]:F4 1:[G4 1]]", "cdefcdegg");
        walks("[{3/2:C4 1|}:D4 1]", "c/d");
        walks("{3/2:[C4 1:D4 1:]}E4 1", "cdce");
        walks("[[C4 1:D4 1|:E4 1]F4 1]", "cd/cefcd/cef");
        walks("|C4 1||D4 1|", "/c//d/");
    }

    private static void events(PlainMusic music, int v, int i, long... due) {
        for (int what = 0; what < due.length; what++) {
            Due.is("event(" + v + ", " + i + ", " + what + ")", music.event(v, i, what), due[what]);
        }
    }

    private static void events() {
        PlainMusic music = Texts.scored("voice r 2. | {3/2: C4 8 D4 8.~ {5/4: <D4 F#4 A4>16...}} ; voice G2 1;");
        events(music, 0, 0, 0, 1, 3, 4, 0, 0, 0, 2, 1);
        events(music, 0, 1, 3, 4, 1, 12, 1, 0, 1, 8, 0);
        events(music, 0, 2, 5, 6, 1, 8, 1, 1, 1, 8, 1);
        events(music, 0, 3, 23, 24, 1, 16, 3, 0, 1, 16, 3);
        events(music, 1, 0, 0, 1, 1, 1, 1, 0, 0, 1, 0);
        long[] keys = {50, 54, 57, 10000};
        long[] steps = {29, 31, 33, 10000};
        for (int p = 0; p < 4; p++) {
            Due.is("KEY " + p, music.event(0, 3, 10 + p), keys[p]);
            Due.is("STEP " + p, music.event(0, 3, 20 + p), steps[p]);
            Due.is("KEY " + p + " of a rest", music.event(0, 0, 10 + p), 10000);
            Due.is("STEP " + p + " of a rest", music.event(0, 0, 20 + p), 10000);
        }
        for (int what : new int[] {-1, 9, 14, 19, 24, 100, Integer.MIN_VALUE, Integer.MAX_VALUE}) {
            Due.is("event(0, 3, " + what + ")", music.event(0, 3, what), 10000);
        }
        for (int i : new int[] {-1, 4, 300, Integer.MIN_VALUE, Integer.MAX_VALUE}) {
            Due.is("event(0, " + i + ", 0)", music.event(0, i, 0), 10000);
        }
        for (int v : new int[] {-1, 2, 4, Integer.MIN_VALUE, Integer.MAX_VALUE}) {
            Due.is("event(" + v + ", 0, 0)", music.event(v, 0, 0), 10000);
        }
        Due.is("four PITCHES", Texts.scored("voice <C4 D4 E4 F4>4;").event(0, 0, 13), 53);
        Due.is("four STEPS", Texts.scored("voice <C4 D4 E4 F4>4;").event(0, 0, 23), 31);
    }

    private static void keys() {
        String[] pitches = {"C0", "D1", "E2", "F3", "G4", "A5", "B6", "C8", "B##8", "Cbb0", "Cb4", "F#7", "Ab3", "E##0"};
        long[] keys = {0, 14, 28, 41, 55, 69, 83, 96, 109, -2, 47, 90, 44, 6};
        long[] steps = {0, 8, 16, 24, 32, 40, 48, 56, 62, 0, 28, 52, 26, 2};
        for (int i = 0; i < pitches.length; i++) {
            PlainMusic music = Texts.scored("voice " + pitches[i] + " 1;");
            Due.is("KEY of " + pitches[i], music.event(0, 0, 10), keys[i]);
            Due.is("STEP of " + pitches[i], music.event(0, 0, 20), steps[i]);
        }
    }
}
