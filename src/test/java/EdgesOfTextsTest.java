/** Part 1 and promises 1 to 5, sentence by sentence: the last that is taken, the first that is not. */
public final class EdgesOfTextsTest {
    private static final int BLANKS = 0x20202020;
    private static final int LEAST = Integer.MIN_VALUE;
    private static final int MOST = Integer.MAX_VALUE;

    private EdgesOfTextsTest() {
    }

    public static void main(String[] args) {
        nothingOnTheTape();
        upToTwoThousandBytes();
        aRefusedFeedLeavesTheTape();
        highestByteFirst();
        notSoManyToCut();
        theTapeIsEmptyThen();
        everyByteAlone();
        pitchLetters();
        pitchMarks();
        pitchDigits();
        namesOfAtMostEight();
        wordsAreNoNames();
        numbersOfOneToFourDigits();
        blanks();
        remarks();
        asLongAsCanBe();
        anyNumberOfItems();
        atLeastOne();
        oneOrTwoNames();
        partsThatMayLack();
        theEndIsTheTextsLength();
        faultOne();
        fifthVoice();
        twentyFifthRule();
        ninthPitchOfLine();
        thirteenthNameOfRow();
        seventeenthName();
        fifthPitchWithin();
        fourthDot();
        pitch301();
        withinMoreThanSixOthers();
        walkOf300Events();
        walkOf100Lines();
        walkOf2000();
        secondTimeLineRow();
        pitchThatIsNotHigher();
        numberOfAnEvent();
        numbersOfABrace();
        numbersOfTime();
        above1000();
        denominatorsAbove1000000();
        tieBehindARest();
        theFirstOneThatReadingMeets();
        ofOneTokenTheLeast();
        placeOfTheLatestScore();
        Due.end("EdgesOfTextsTest");
    }

    private static void fine(String text, int events) {
        Texts.taken(text, events);
    }

    private static void wrong(String text, int fault, int place) {
        Texts.refused(text, fault, place);
    }

    private static int blanks(PlainMusic music) {
        return music.feed(BLANKS, BLANKS, BLANKS, BLANKS, BLANKS);
    }

    /** Promise 1: "Nothing on THE TAPE, a score without anything." */
    private static void nothingOnTheTape() {
        PlainMusic music = new PlainMusic();
        Due.is("cut(0)", music.cut(0), 0);
        Due.is("cut(1)", music.cut(1), -1);
        Due.is("told(0)", music.told(0), 0);
        Due.is("told(4)", music.told(4), 0);
        Due.is("judge()", music.judge(), 0);
        Due.is("sample(0, 1)", music.sample(0, 1), 0.0);
        Due.is("feed", blanks(music), 20);
        Due.is("another object's", new PlainMusic().cut(0), 0);
    }

    /** "THE TAPE has up to 2000 bytes." "FULL: more than 2000." */
    private static void upToTwoThousandBytes() {
        PlainMusic music = new PlainMusic();
        for (int i = 1; i <= 100; i++) {
            Due.is("feed no. " + i, blanks(music), 20 * i);
        }
        Due.is("feed to 2020", blanks(music), -3);
        Due.is("cut(1)", music.cut(1), 1999);
        Due.is("feed to 2019", blanks(music), -3);
        Due.is("cut(18)", music.cut(18), 1981);
        Due.is("feed to 2001", blanks(music), -3);
        Due.is("cut(1)", music.cut(1), 1980);
        Due.is("feed to 2000", blanks(music), 2000);
        Due.is("feed to 2020 again", blanks(music), -3);
        fine("voice" + Texts.times(1994, " ") + ";", 0);
        wrong("voice;" + Texts.times(1993, " ") + "@", 1, 1999);
        wrong("voice" + Texts.times(1995, " "), 2, 2000);
    }

    /** A FULL one puts not even those on THE TAPE for which there were room. */
    private static void aRefusedFeedLeavesTheTape() {
        PlainMusic music = new PlainMusic();
        Texts.feedExactly(music, "voice " + Texts.times(1975, " "));
        Due.is("feed to 2001", music.feed(0x3b3b3b3b, 0x3b3b3b3b, 0x3b3b3b3b, 0x3b3b3b3b, 0x3b3b3b3b), -3);
        Due.is("how many it has", music.cut(0), 1981);
        Due.is("score()", music.score(), -12);
        Due.is("place()", music.place(), 1981);
    }

    /** "Twenty bytes come behind THE TAPE, the highest of each int first" */
    private static void highestByteFirst() {
        for (int place = 0; place < 20; place++) {
            int[] five = {BLANKS, BLANKS, BLANKS, BLANKS, BLANKS};
            five[place / 4] ^= (0x20 ^ 0xff) << 24 - place % 4 * 8;
            PlainMusic music = new PlainMusic();
            blanks(music);
            Due.is("feed", music.feed(five[0], five[1], five[2], five[3], five[4]), 40);
            Due.is("score()", music.score(), -11);
            Due.is("place()", music.place(), 20 + place);
        }
    }

    /** Promise 3: "BAD: there are not so many." */
    private static void notSoManyToCut() {
        PlainMusic music = new PlainMusic();
        for (int n : new int[] {1, 20, 2000, MOST, -1, LEAST}) {
            Due.is("cut(" + n + ") of none", music.cut(n), -1);
        }
        blanks(music);
        for (int n : new int[] {21, 40, 2000, 2001, MOST, -1, -20, LEAST}) {
            Due.is("cut(" + n + ") of twenty", music.cut(n), -1);
        }
        Due.is("cut(0)", music.cut(0), 20);
        Due.is("cut(20)", music.cut(20), 0);
        Due.is("cut(1) of none", music.cut(1), -1);
        Texts.feed(music, "voice C4 4; @");
        Due.is("cut(9)", music.cut(9), 11);
        Due.is("score()", music.score(), 1);
    }

    /** Promise 4: "THE TAPE, which is empty then, becomes the score" */
    private static void theTapeIsEmptyThen() {
        PlainMusic music = new PlainMusic();
        Due.is("score() of an empty TAPE", music.score(), 0);
        Texts.feedExactly(music, "voice r4;");
        Due.is("score()", music.score(), 1);
        Due.is("cut(1) behind a score", music.cut(1), -1);
        Due.is("score() of an empty TAPE again", music.score(), 0);
        Due.is("a score without anything", music.told(0), 0);
        Texts.feedExactly(music, "voice r4");
        Due.is("score() with a FAULT", music.score(), -12);
        Due.is("cut(1) behind a FAULT", music.cut(1), -1);
        Texts.feedExactly(music, ";");
        Due.is("nothing is left of it", music.score(), -12);
        Due.is("place()", music.place(), 0);
    }

    /** "1 no token begins there (also a letter A .. G of no PITCH)"; of each byte there is. */
    private static void everyByteAlone() {
        for (int b = 0; b < 256; b++) {
            String text = String.valueOf((char) b);
            if (b == 9 || b == 10 || b == 13 || b == 32 || b == '%') {
                fine(text, 0);
            } else if (b >= 'a' && b <= 'z' || b >= '0' && b <= '9' || ";:/|[]{}<>=.~".indexOf(b) >= 0) {
                wrong(text, 2, 0);
            } else {
                wrong(text, 1, 0);
            }
        }
    }

    /** "PITCHES: a letter A .. G" */
    private static void pitchLetters() {
        for (char letter = 'A'; letter <= 'G'; letter++) {
            fine("line " + letter + "4;", 0);
        }
        for (char letter : new char[] {'@', 'H', 'R', 'Z', '`'}) {
            wrong("line " + letter + "4;", 1, 5);
        }
        for (char letter : new char[] {'a', 'g', 'h'}) {
            wrong("line " + letter + "4;", 2, 5);
        }
    }

    /** "then none or one of # ## b bb" */
    private static void pitchMarks() {
        for (String marks : new String[] {"", "#", "##", "b", "bb"}) {
            fine("line C" + marks + "4 B" + marks + "0 B" + marks + "8;", 0);
        }
        for (String marks : new String[] {"###", "bbb", "#b", "b#", "##b", "bb#", " ", "# ", "b "}) {
            wrong("line C" + marks + "4;", 1, 5);
        }
    }

    /** "then a digit 0 .. 8" */
    private static void pitchDigits() {
        for (char digit = '0'; digit <= '8'; digit++) {
            fine("line C" + digit + " Eb" + digit + ";", 0);
        }
        for (char no : new char[] {'9', '/', ':', ';', 'C', 'x'}) {
            wrong("line C" + no + ";", 1, 5);
            wrong("line C#" + no + ";", 1, 5);
            wrong("line Cbb" + no + ";", 1, 5);
        }
        wrong("line C", 1, 5);
        wrong("line Cb", 1, 5);
        wrong("line C##", 1, 5);
    }

    /** "NAMES: small letters, at most 8." "a NAME .. is too long (at its first byte)" */
    private static void namesOfAtMostEight() {
        fine("rule a = z;", 0);
        fine("rule abcdefgh = zzzzzzzz stuvwxyz;", 0);
        fine("row abcdefgh;", 0);
        wrong("rule abcdefghi = z;", 1, 5);
        wrong("row a abcdefghi;", 1, 6);
        wrong("rule a = " + Texts.times(100, "z") + ";", 1, 9);
        wrong("voicevoice;", 1, 0);
        wrong("rule aB4 = a;", 2, 6);
        wrong("rule aZ = a;", 1, 6);
        wrong("rule a_b = a;", 1, 6);
    }

    /** "WORDS are NAMES that are none: time voice line rule row r." */
    private static void wordsAreNoNames() {
        for (String word : new String[] {"time", "voice", "line", "rule", "row", "r"}) {
            wrong("rule " + word + " = a;", 2, 5);
            wrong("rule a = " + word + ";", 2, 9);
            wrong("rule a = b " + word + ";", 2, 11);
            wrong("row a " + word + ";", 2, 6);
        }
        for (String name : new String[] {"tim", "times", "voic", "voices", "lin", "lines", "rul", "rules", "ro", "rows", "rr"}) {
            fine("rule " + name + " = " + name + " " + name + "; row " + name + ";", 0);
            wrong(name + " C4;", 2, 0);
        }
    }

    /** "NUMBERS: 1 to 4 digits"; "a .. NUMBER is too long (at its first byte)" */
    private static void numbersOfOneToFourDigits() {
        for (String number : new String[] {"4", "04", "004", "0004"}) {
            fine("voice C4 " + number + ";", 1);
        }
        for (String number : new String[] {"00004", "12345", "000000000000000000004"}) {
            wrong("voice C4 " + number + ";", 1, 9);
        }
        wrong("voice C4 9999;", 5, 9);
        wrong("voice C4 10000;", 1, 9);
        wrong("voice C40004 4;", 2, 13);
        wrong("voice C400004;", 1, 8);
    }

    /** "BLANKS (9, 10, 13, 32)" */
    private static void blanks() {
        for (int blank : new int[] {9, 10, 13, 32}) {
            char b = (char) blank;
            fine(b + "voice" + b + b + "C4" + b + "4" + b + ";" + b, 1);
        }
        for (int none : new int[] {0, 8, 11, 12, 14, 31, 33, 127, 128, 160, 255}) {
            wrong("voice C4" + (char) none + "4;", 1, 8);
        }
    }

    /** "REMARKS (from % up to the next 10, or the end)" */
    private static void remarks() {
        fine("voice % @ \u0000 \u00ff ; 12345 abcdefghi\n;", 0);
        fine("voice;% @", 0);
        fine("voice;%", 0);
        fine("%\n%\n%%\nvoice;%", 0);
        fine("voice C4%\n4%\n;", 1);
        wrong("voice;%\n@", 1, 8);
        wrong("voice %\r;", 2, 9);
        wrong("voice %;", 2, 8);
        wrong("voice % % \n@;", 1, 11);
    }

    /** "TOKENS, as long as can be, with BLANKS .. between where needed" */
    private static void asLongAsCanBe() {
        fine("voiceC44D##48.~r16;", 3);
        wrong("voice C4 44;", 5, 9);
        fine("voice C4 4 r4;", 2);
        wrong("voice rr4;", 2, 6);
        wrong("voicer4;", 2, 0);
        fine("voice[r4]{3/2:r4}<C4D4>4|;", 4);
        wrong("voice C4 164;", 5, 9);
        fine("voice C4 16 B44 Bb44 Bbb44;", 4);
        fine("rule ab=cd e;row cde;", 0);
        fine("time4/4;", 0);
        wrong("time44;", 5, 4);
    }

    /** "score = {item}" */
    private static void anyNumberOfItems() {
        fine("", 0);
        fine("time 4/4;", 0);
        fine("row a; rule a = b; line C4; voice r4; time 4/4; rule a = c;", 1);
        wrong(";", 2, 0);
        wrong("time 4/4;;", 2, 9);
    }

    /** "'line' PITCH {PITCH} ';'", "'row' NAME {NAME} ';'", "'<' PITCH {PITCH} '>'" */
    private static void atLeastOne() {
        wrong("line ;", 2, 5);
        fine("line C4;", 0);
        wrong("row ;", 2, 4);
        fine("row a;", 0);
        wrong("voice <>4;", 2, 7);
        fine("voice <C4>4;", 1);
    }

    /** "'rule' NAME '=' NAME [NAME] ';'" */
    private static void oneOrTwoNames() {
        wrong("rule a = ;", 2, 9);
        fine("rule a = b;", 0);
        fine("rule a = b c;", 0);
        wrong("rule a = b c d;", 2, 13);
    }

    /** "'voice' {part} ';'", "'[' {part} {':' {part}} ']'", "NUMBER {'.'} ['~']" */
    private static void partsThatMayLack() {
        fine("voice;", 0);
        fine("voice [];", 0);
        fine("voice [:];", 0);
        fine("voice [::::];", 0);
        fine("voice {1/1:};", 0);
        fine("voice C4 4;", 1);
        fine("voice C4 4...;", 1);
        fine("voice C4 4~;", 1);
        fine("voice C4 4...~;", 1);
        wrong("voice C4 4~.;", 2, 11);
        wrong("voice C4 4~~;", 2, 11);
        wrong("voice :;", 2, 6);
        wrong("voice {1/1::};", 2, 11);
        wrong("voice [};", 2, 7);
        wrong("voice {1/1:];", 2, 11);
        wrong("voice [;", 2, 7);
        wrong("voice {1/1:;", 2, 11);
        wrong("voice ];", 2, 6);
    }

    /** "2 a token that can't stand there (the end: the text's length)" */
    private static void theEndIsTheTextsLength() {
        String whole = "time 3/4;";
        for (int length = 5; length < whole.length(); length++) {
            wrong(whole.substring(0, length), 2, length);
        }
        wrong("t", 2, 0);
        wrong("time \n\t ", 2, 8);
        wrong("voice % to the end", 2, 18);
        wrong("rule", 2, 4);
        wrong("line", 2, 4);
        wrong("row a", 2, 5);
        wrong("voice [", 2, 7);
        wrong("voice {", 2, 7);
        wrong("voice <", 2, 7);
        wrong("voice r", 2, 7);
    }

    /** "1 no token begins there .. or a NAME or NUMBER is too long" */
    private static void faultOne() {
        wrong("@", 1, 0);
        wrong("voice C4 4; @", 1, 12);
        wrong("voice A;", 1, 6);
        wrong("voice G", 1, 6);
        wrong("abcdefghi", 1, 0);
        wrong("time 12345/4;", 1, 5);
        wrong("\u0000", 1, 0);
        wrong("\u00ff", 1, 0);
    }

    /** "3 one that is too much: a 5th voice" */
    private static void fifthVoice() {
        fine(Texts.times(4, "voice r4;"), 4);
        wrong(Texts.times(5, "voice r4;"), 3, 36);
        wrong(Texts.times(4, "voice r4;") + "time 1/1; voice", 3, 46);
    }

    /** "a 25th rule" */
    private static void twentyFifthRule() {
        fine(Texts.times(24, "rule a=b;"), 0);
        wrong(Texts.times(25, "rule a=b;"), 3, 24 * 9);
        wrong(Texts.times(24, "rule a=b;") + "row a; rule", 3, 24 * 9 + 7);
    }

    /** "a 9th PITCH of line" */
    private static void ninthPitchOfLine() {
        fine("line" + Texts.times(8, "C4") + ";", 0);
        wrong("line" + Texts.times(9, "C4") + ";", 3, 20);
        wrong("line" + Texts.times(8, "C4") + "r", 2, 20);
    }

    /** "a 13th NAME of row" */
    private static void thirteenthNameOfRow() {
        fine("row" + Texts.times(12, " a") + ";", 0);
        wrong("row" + Texts.times(13, " a") + ";", 3, 28);
        wrong("row" + Texts.times(12, " a") + " r", 2, 28);
    }

    /** "a 17th NAME that is not like one before (of rules and row)" */
    private static void seventeenthName() {
        String fifteen = "rule a=b c;rule d=e f;rule g=h i;rule j=k l;rule m=n o;";
        fine(fifteen + "rule p=p p;row a b c d e f g h i j k p;", 0);
        wrong(fifteen + "rule p=q;", 3, 62);
        wrong(fifteen + "rule p=a q;", 3, 64);
        wrong(fifteen + "rule p=a; rule q=a;", 3, 70);
        wrong(fifteen + "row p a q;", 3, 63);
        wrong("row a b c d e f g h i j k l; rule m=n o; rule p=q;", 3, 48);
        fine("row a b c d e f g h i j k l; rule m=n o; rule p=a;", 0);
    }

    /** "a 5th PITCH within < >" */
    private static void fifthPitchWithin() {
        fine("voice <C4D4E4F4>4;", 1);
        wrong("voice <C4D4E4F4G4>4;", 3, 15);
        fine("voice <C4D4E4F4>4<C4D4E4F4>4;", 2);
    }

    /** "the 4th . of an event" */
    private static void fourthDot() {
        fine("voice C4 4...;", 1);
        wrong("voice C4 4....;", 3, 13);
        wrong("voice r 4 . . . .;", 3, 16);
        fine("voice C4 4...C4 4...;", 2);
    }

    /** "the 301st PITCH or r of a voice" */
    private static void pitch301() {
        fine("voice " + Texts.times(300, "C464") + ";", 300);
        wrong("voice " + Texts.times(301, "C464") + ";", 3, 1206);
        fine("voice " + Texts.times(300, "r64") + ";", 300);
        wrong("voice " + Texts.times(301, "r64") + ";", 3, 906);
        fine("voice " + Texts.times(298, "r64") + "<C4E4>64;voice " + Texts.times(300, "r64") + ";", 599);
        wrong("voice " + Texts.times(298, "r64") + "<C4E4G4>64;", 3, 905);
        wrong("voice " + Texts.times(300, "r64") + "<C4>64;", 3, 907);
    }

    /** "what stands within more than 6 others ([ ] and { }; at its first token)" */
    private static void withinMoreThanSixOthers() {
        String six = "voice [{1/1:[{1/1:[{1/1:";
        String closed = "}]}]}];";
        fine(six + "C4 64" + closed, 8);
        fine(six + "[]" + closed, 0);
        fine(six + "{1/1:}" + closed, 0);
        fine(six + "[:]" + closed, 0);
        fine(six + "|" + closed, 0);
        wrong(six + "[C4 64]" + closed, 3, 25);
        wrong(six + "[r 64]" + closed, 3, 25);
        wrong(six + "[<C4>64]" + closed, 3, 25);
        wrong(six + "[|]" + closed, 3, 25);
        wrong(six + "[[]]" + closed, 3, 25);
        wrong(six + "[{1/1:}]" + closed, 3, 25);
        wrong(six + "{1/1:C4 64}" + closed, 3, 29);
        wrong(six + "[:C4 64]" + closed, 3, 26);
        wrong("voice [[[[[[[r4]]]]]]];", 3, 13);
    }

    /** "behind a voice's ; , at its word: its WALK has more than 300 EVENTS" */
    private static void walkOf300Events() {
        fine("voice [" + Texts.times(150, "r64") + "];", 300);
        wrong("voice [" + Texts.times(150, "r64") + "]r64;", 3, 0);
        fine("voice [r64" + Texts.times(150, ":r64") + "];", 300);
        wrong("voice [r64" + Texts.times(151, ":r64") + "];", 3, 0);
        wrong("time 4/4;  voice [" + Texts.times(151, "r64") + "];", 3, 11);
        wrong("voice r4; voice [[[[[[[]]]]]]" + Texts.times(151, "r64") + "];", 3, 10);
    }

    /** "or more than 100 lines |" */
    private static void walkOf100Lines() {
        fine("voice " + Texts.times(100, "|") + ";", 0);
        wrong("voice " + Texts.times(101, "|") + ";", 3, 0);
        fine("voice [" + Texts.times(50, "|") + "];", 0);
        wrong("voice |[" + Texts.times(50, "|") + "];", 3, 0);
        wrong("voice; voice " + Texts.times(101, "|") + ";", 3, 7);
    }

    /** "or comes to more than 2000 (each part that it comes to, each turn of [ ])" */
    private static void walkOf2000() {
        String some = "voice " + Texts.times(600, "[]");
        fine(some + Texts.times(100, "|") + Texts.times(100, "r64") + ";", 100);
        wrong(some + Texts.times(100, "|") + Texts.times(101, "r64") + ";", 3, 0);
        String parts = Texts.times(90, "|") + Texts.times(96, "r64");
        fine(some + parts + "[::]{1/1:{1/1:}}[[]];", 96);
        wrong(some + parts + "[::]{1/1:{1/1:}}[[]]{1/1:};", 3, 0);
        fine("voice [" + Texts.times(1990, ":") + "]|;", 0);
        fine("voice [|" + Texts.times(99, ":[]") + "]" + Texts.times(500, "[]") + ";", 0);
        fine("voice [[]" + Texts.times(499, ":") + "]r64 r64 r64;", 3);
        wrong("voice [[]" + Texts.times(499, ":") + "]r64 r64 r64 r64;", 3, 0);
    }

    /** "4 at the word: a second time, line, row" */
    private static void secondTimeLineRow() {
        wrong("time 4/4;time 4/4;", 4, 9);
        wrong("line C4;line C4;", 4, 8);
        wrong("row a;row a;", 4, 6);
        wrong("row a;time 4/4;line C4;row", 4, 23);
        fine("voice;voice;rule a=a;rule a=a;", 0);
    }

    /** "within < > a PITCH that is not higher (by KEYS) than the one before" */
    private static void pitchThatIsNotHigher() {
        fine("voice <C4 C#4>4;", 1);
        wrong("voice <C4 C4>4;", 4, 10);
        wrong("voice <C#4 C4>4;", 4, 11);
        wrong("voice <C#4 Db4>4;", 4, 11);
        wrong("voice <B#3 C4>4;", 4, 11);
        fine("voice <B3 C4>4;", 1);
        fine("voice <D##4 E#4>4;", 1);
        wrong("voice <C4 E4 D4>4;", 4, 13);
        fine("voice <E4 F4>4<C4 D4>4;", 2);
        fine("voice <Cbb0 Cb0>4;", 1);
        wrong("voice <Cbb0 Cbb0>4;", 4, 12);
    }

    /** "5 a NUMBER (at it): of an event not 1, 2, 4, .. 64" */
    private static void numberOfAnEvent() {
        for (int n = 0; n <= 130; n++) {
            if (n == 1 || n == 2 || n == 4 || n == 8 || n == 16 || n == 32 || n == 64) {
                fine("voice D4 " + n + ";", 1);
                fine("voice r " + n + ";", 1);
            } else {
                wrong("voice D4 " + n + ";", 5, 9);
                wrong("voice <D4>" + n + ";", 5, 10);
            }
        }
    }

    /** "of { not 1 .. 16" */
    private static void numbersOfABrace() {
        for (int n = 0; n <= 20; n++) {
            if (n >= 1 && n <= 16) {
                fine("voice {" + n + "/1:}{1/" + n + ":};", 0);
            } else {
                wrong("voice {" + n + "/1:};", 5, 7);
                wrong("voice {1/" + n + ":};", 5, 9);
            }
        }
        wrong("voice {9999/1:};", 5, 7);
    }

    /** "of time the first not 1 .. 32, the second not 1, 2, 4, .. 32" */
    private static void numbersOfTime() {
        for (int n = 0; n <= 70; n++) {
            if (n >= 1 && n <= 32) {
                fine("time " + n + "/1;", 0);
            } else {
                wrong("time " + n + "/1;", 5, 5);
            }
            if (n == 1 || n == 2 || n == 4 || n == 8 || n == 16 || n == 32) {
                fine("time 1/" + n + ";", 0);
            } else {
                wrong("time 1/" + n + ";", 5, 7);
            }
        }
    }

    /** "6 behind a voice's ; (and 3), at its word: an EVENT's START, LENGTH or end is above 1000" */
    private static void above1000() {
        String ten = "{1/10:{1/10:{1/10:";
        fine("voice " + ten + "r1}}};", 1);
        wrong("voice " + ten + "r1}}}r64;", 6, 0);
        wrong("voice r64" + ten + "r1}}};", 6, 0);
        wrong("voice " + ten + "r1.}}};", 6, 0);
        fine("voice " + ten + "r2 r4 r8 r16 r32 r64 r64}}};", 7);
        wrong("voice " + ten + "r2 r4 r8 r16 r32 r64 r64}}}r64;", 6, 0);
        wrong("voice {1/11:{1/13:{1/7:r1}}};", 6, 0);
        fine("voice {1/9:{1/3:{1/3:{1/12:r1}}}};", 1);
        fine("voice {1/9:{1/3:{1/3:{1/12:r1}}}}{1/14:{1/2:r1}};", 2);
        wrong("voice {1/9:{1/3:{1/3:{1/12:r1}}}}{1/14:{1/2:r1}}r1;", 6, 0);
        wrong("time 4/4; voice; voice " + ten + "r1 r1}}};", 6, 17);
    }

    /** "or has a denominator above 1000000" */
    private static void denominatorsAbove1000000() {
        fine("voice {10/1:{10/1:{10/1:{10/1:{10/1:{10/1:r1}}}}}};", 1);
        wrong("voice {14/1:{14/1:{7/1:{9/1:{9/1:{9/1:r1}}}}}};", 6, 0);
        fine("voice {14/1:{14/1:{7/1:{9/1:{9/1:{9/2:r1}}}}}};", 1);
        wrong("voice {10/1:{10/1:{10/1:{10/1:{10/1:{10/1:r1.}}}}}};", 6, 0);
        String fives = "{5/1:{5/1:{5/1:{5/1:{5/1:{5/1:r1}}}}}}";
        fine("voice " + fives + "r64;", 2);
        fine("voice " + fives + "r64 {2/1:r32};", 3);
        wrong("voice " + fives + "r64.;", 6, 0);
        wrong("voice r64." + fives + ";", 6, 0);
        wrong("voice " + fives + "{3/1:r32};", 6, 0);
        fine("voice " + fives + ";voice r64.;", 2);
    }

    /** "7 ~ behind an event of r (at it)" */
    private static void tieBehindARest() {
        wrong("voice r 4~;", 7, 9);
        wrong("voice r 4...~;", 7, 12);
        wrong("voice r 4 ~~;", 7, 10);
        fine("voice r 4 C4 4~;", 2);
        wrong("voice ~;", 2, 6);
    }

    /** "FAULTS, the first one that reading meets" */
    private static void theFirstOneThatReadingMeets() {
        wrong("voice C4 3; @", 5, 9);
        wrong("@ voice C4 3;", 1, 0);
        wrong("voice r 4~ C4 3;", 7, 9);
        wrong("voice r 3~;", 5, 8);
        wrong("voice " + Texts.times(101, "|") + "@;", 1, 107);
        wrong("voice " + Texts.times(101, "|") + "; @", 3, 0);
        wrong("voice " + Texts.times(101, "|"), 2, 107);
        wrong("voice {1/16:{1/16:{1/16:r1}}} r3;", 5, 31);
        wrong("voice {1/16:{1/16:{1/16:r1}}}; r3;", 6, 0);
        wrong("time 4/4; time 0/0;", 4, 10);
        wrong("voice {0/0:};", 5, 7);
        wrong("voice <C4 C4 @", 4, 10);
    }

    /** "of one token the least" */
    private static void ofOneTokenTheLeast() {
        wrong("voice C4 12345;", 1, 9);
        wrong("time 4/4 0;", 2, 9);
        wrong("line" + Texts.times(8, "C4") + " 0;", 2, 21);
        wrong("voice <C4D4E4F4 F4>4;", 3, 16);
        wrong("voice " + Texts.times(299, "r64") + "<C4 C4>64;", 3, 907);
        wrong("voice " + Texts.times(298, "r64") + "<C4 C4>64;", 4, 904);
        wrong("voice {1/16:{1/16:{1/16:r1}}}" + Texts.times(101, "|") + ";", 3, 0);
        wrong("voice " + Texts.times(101, "|") + "{1/16:{1/16:{1/16:r1}}};", 3, 0);
        wrong("voice {1/16:{1/16:{1/16:r1}}}" + Texts.times(100, "|") + ";", 6, 0);
    }

    /** Promise 5: "The place of the latest score()'s FAULT; NO when it had none, and before." */
    private static void placeOfTheLatestScore() {
        PlainMusic music = new PlainMusic();
        Due.is("before", music.place(), -2);
        Texts.feedExactly(music, "  @");
        Due.is("before score()", music.place(), -2);
        Due.is("score()", music.score(), -11);
        Due.is("place()", music.place(), 2);
        Texts.feedExactly(music, "voice");
        Due.is("place() behind feed", music.place(), 2);
        Due.is("score()", music.score(), -12);
        Due.is("place()", music.place(), 5);
        Due.is("score() of nothing", music.score(), 0);
        Due.is("when it had none", music.place(), -2);
        Texts.feedExactly(music, "@");
        Due.is("score()", music.score(), -11);
        Due.is("the first byte", music.place(), 0);
    }
}
