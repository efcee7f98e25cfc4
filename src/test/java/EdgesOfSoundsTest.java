/** Part 9 and promise 23, sentence by sentence. */
public final class EdgesOfSoundsTest {
    private static final int LEAST = Integer.MIN_VALUE;
    private static final int MOST = Integer.MAX_VALUE;

    private EdgesOfSoundsTest() {
    }

    public static void main(String[] args) {
        aWholeLastsTwoSeconds();
        fromItsStartOn();
        beforeItsEnd();
        restsAndNothing();
        lowestAndHighestFrequencies();
        byKeyModuloTwelve();
        partsOfTheWave();
        fadeOfShortAndLong();
        eachPitchInOrder();
        ratesThatAreNone();
        samplesThatAreNone();
        lastSampleOfTheLongest();
        afterAnotherScore();
        Due.end("EdgesOfSoundsTest");
    }

    /** 0.25 * wave * fade, x and the fade's s / d given as they are divided. */
    private static double sound(double x, double s, double d) {
        double wave = x < 0.25 ? 4.0 * x : x < 0.75 ? 2.0 - 4.0 * x : 4.0 * x - 4.0;
        return 0.0 + 0.25 * wave * (1.0 - s / d);
    }

    /** "A whole (1) lasts two seconds." C4 has 256 turns a second: sample 1 at 1024 is a quarter of one. */
    private static void aWholeLastsTwoSeconds() {
        PlainMusic music = Texts.scored("voice C4 1;");
        Due.is("sample(1, 1024)", music.sample(1, 1024), sound(0.25, 1.0 / 1024.0, 2.0));
        Due.is("sample(2047, 1024)", music.sample(2047, 1024), sound(0.75, 2047.0 / 1024.0, 2.0));
        Due.is("sample(2048, 1024)", music.sample(2048, 1024), 0.0);
        Due.is("sample(2049, 1024)", music.sample(2049, 1024), 0.0);
        music = Texts.scored("voice C4 64;");
        Due.is("sample(31, 1024)", music.sample(31, 1024), sound(0.75, 31.0 / 1024.0, 1.0 / 32.0));
        Due.is("sample(33, 1024)", music.sample(33, 1024), 0.0);
    }

    /** "from its START on" */
    private static void fromItsStartOn() {
        PlainMusic music = Texts.scored("voice r 2 C4 2;");
        Due.is("just before", music.sample(1023, 1024), 0.0);
        Due.is("at its START", music.sample(1024, 1024), 0.0);
        Due.is("just behind", music.sample(1025, 1024), sound(0.25, 1.0 / 1024.0, 1.0));
        music = Texts.scored("voice {3/1:r1} C4 1;");
        Due.is("before a third", music.sample(666, 1000), 0.0);
        Due.is("behind a third", music.sample(667, 1000), sound(32.0 / 375.0, 1.0 / 3000.0, 2.0));
        Due.is("at a third", music.sample(2, 3), 0.0);
    }

    /** "before its end" */
    private static void beforeItsEnd() {
        PlainMusic music = Texts.scored("voice C4 2 C4 2;");
        Due.is("the last of the first", music.sample(1023, 1024), sound(0.75, 1023.0 / 1024.0, 1.0));
        Due.is("at the end", music.sample(1024, 1024), 0.0);
        Due.is("the first of the second", music.sample(1025, 1024), sound(0.25, 1.0 / 1024.0, 1.0));
        Due.is("the last of the second", music.sample(2047, 1024), sound(0.75, 1023.0 / 1024.0, 1.0));
        Due.is("at the end of all", music.sample(2048, 1024), 0.0);
        Due.is("behind the end of all", music.sample(2049, 1024), 0.0);
    }

    private static void restsAndNothing() {
        PlainMusic[] all = {new PlainMusic(), Texts.scored("voice;"), Texts.scored("voice r1;"), Texts.scored("line C4;")};
        for (PlainMusic music : all) {
            for (int n = 0; n < 5; n++) {
                Due.is("sample(" + n + ", 7)", music.sample(n, 7), 0.0);
            }
        }
    }

    /** "16 times 2 to the power of (KEY / 12, rounded down)" */
    private static void lowestAndHighestFrequencies() {
        Due.is("KEY -2, 14.4 a second", Texts.scored("voice Cbb0 1;").sample(1, 100), sound(18.0 / 125.0, 1.0 / 100.0, 2.0));
        Due.is("KEY -1, 15 a second", Texts.scored("voice Cb0 1;").sample(1, 60), sound(0.25, 1.0 / 60.0, 2.0));
        Due.is("KEY 0, 16 a second", Texts.scored("voice C0 1;").sample(1, 64), sound(0.25, 1.0 / 64.0, 2.0));
        Due.is("KEY 11, 30 a second", Texts.scored("voice B0 1;").sample(1, 120), sound(0.25, 1.0 / 120.0, 2.0));
        Due.is("KEY 12, 32 a second", Texts.scored("voice C1 1;").sample(1, 128), sound(0.25, 1.0 / 128.0, 2.0));
        Due.is("KEY 108, 8192 a second", Texts.scored("voice B#8 1;").sample(1, 10000), sound(512.0 / 625.0, 1.0 / 10000.0, 2.0));
        Due.is("KEY 109, 8738.13 a second", Texts.scored("voice B##8 1;").sample(1, 10000),
            sound(8192.0 / 9375.0, 1.0 / 10000.0, 2.0));
    }

    /** "times 1, 16/15, 9/8, 6/5, 5/4, 4/3, 45/32, 3/2, 8/5, 5/3, 9/5, 15/8 (by KEY modulo 12)" */
    private static void byKeyModuloTwelve() {
        String[] pitches = {"C", "C#", "D", "Eb", "E", "F", "F#", "G", "Ab", "A", "Bb", "B"};
        int[] tops = {1, 16, 9, 6, 5, 4, 45, 3, 8, 5, 9, 15};
        int[] bottoms = {1, 15, 8, 5, 4, 3, 32, 2, 5, 3, 5, 8};
        for (int k = 0; k < 12; k++) {
            double x = (double) (tops[k] * 480 / bottoms[k]) / (480.0 * 8.0);
            Due.is(pitches[k] + "0", Texts.scored("voice " + pitches[k] + "0 1;").sample(1, 128), sound(x, 1.0 / 128.0, 2.0));
            Due.is(pitches[k] + "5", Texts.scored("voice " + pitches[k] + "5 1;").sample(1, 4096), sound(x, 1.0 / 4096.0, 2.0));
        }
    }

    /** "wave is 4.0 * x below 0.25, 2.0 - 4.0 * x below 0.75, else 4.0 * x - 4.0" */
    private static void partsOfTheWave() {
        PlainMusic music = Texts.scored("voice C2 1;");
        for (int n = 0; n < 200; n++) {
            Due.is("sample(" + n + ", 6400)", music.sample(n, 6400), sound(n % 100 / 100.0, n / 6400.0, 2.0));
        }
    }

    /** "fade is 1.0 - s / d: s the seconds since its START, d its LENGTH in seconds" */
    private static void fadeOfShortAndLong() {
        PlainMusic music = Texts.scored("voice {16/1:{16/1:{16/1:C8 1}}};");
        Due.is("a short one", music.sample(1, 10000), sound(256.0 / 625.0, 1.0 / 10000.0, 1.0 / 2048.0));
        Due.is("its last one", music.sample(4, 10000), sound(399.0 / 625.0, 1.0 / 2500.0, 1.0 / 2048.0));
        Due.is("behind it", music.sample(5, 10000), 0.0);
        music = Texts.scored("voice {1/10:{1/10:{1/10:C0 1}}};");
        Due.is("a long one", music.sample(1, 64), sound(0.25, 1.0 / 64.0, 2000.0));
        Due.is("later", music.sample(64000, 64) == 0.0 ? 1 : 0, 1);
        Due.is("half of it", music.sample(64001, 64), sound(0.25, 64001.0 / 64.0, 2000.0));
        Due.is("its last one", music.sample(127999, 64), sound(0.75, 127999.0 / 64.0, 2000.0));
        Due.is("behind it", music.sample(128001, 64), 0.0);
        music = Texts.scored("voice {3/2:C4 1};");
        Due.is("two thirds", music.sample(1, 1024), sound(0.25, 1.0 / 1024.0, 4.0 / 3.0));
    }

    /** "Of each voice, each EVENT that sounds then .., each PITCH, in order, what is told is added (to 0.0), in doubles" */
    private static void eachPitchInOrder() {
        PlainMusic music = Texts.scored("voice <C4 D4 E4 G#4>1;voice r1;voice Ab4 2;voice <F4 A4>1;");
        int[][] keys = {{48, 50, 52, 56}, {56}, {53, 57}};
        double[] lengths = {2.0, 1.0, 2.0};
        for (int n = 1; n < 40; n++) {
            double all = 0.0;
            for (int v = 0; v < 3; v++) {
                for (int key : keys[v]) {
                    all = all + sound(turns(key, n), n / 1024.0, lengths[v]);
                }
            }
            Due.is("sample(" + n + ", 1024)", music.sample(n, 1024), all);
        }
    }

    /** What is beyond the whole turns of a KEY of 48 .. 59 at n / 1024 seconds, all fractions of 60. */
    private static double turns(int key, int n) {
        int[] sixtieths = {60, 64, 0, 72, 75, 80, 0, 90, 96, 100, 108, 0};
        long top = (key == 50 ? 135L : 2L * sixtieths[key - 48]) * n % 480;
        return top / 480.0;
    }

    /** "at a rate (1 .. 10000)"; "0.0 when .. the rate is another one" */
    private static void ratesThatAreNone() {
        PlainMusic music = Texts.scored("voice {1/16:D4 1};");
        Due.is("sample(1, 1)", music.sample(1, 1), 0.0);
        Due.is("sample(1, 10000)", music.sample(1, 10000), sound(18.0 / 625.0, 1.0 / 10000.0, 32.0));
        for (int rate : new int[] {0, -1, -10000, 10001, 10002, 20000, LEAST, MOST}) {
            Due.is("sample(1, " + rate + ")", music.sample(1, rate), 0.0);
            Due.is("sample(0, " + rate + ")", music.sample(0, rate), 0.0);
            Due.is("sample(-1, " + rate + ")", music.sample(-1, rate), 0.0);
        }
        music = Texts.scored("voice A0 1;");
        Due.is("26 2/3 turns a second, at one", music.sample(1, 1), sound(2.0 / 3.0, 1.0, 2.0));
    }

    /** "0.0 when n is below 0" */
    private static void samplesThatAreNone() {
        PlainMusic music = Texts.scored("voice {1/16:D4 1};");
        for (int n : new int[] {-1, -2, -9999, LEAST}) {
            Due.is("sample(" + n + ", 10000)", music.sample(n, 10000), 0.0);
            Due.is("sample(" + n + ", 1)", music.sample(n, 1), 0.0);
        }
        Due.is("sample(0, 10000)", music.sample(0, 10000), 0.0);
        Due.is("sample(most, 10000)", music.sample(MOST, 10000), 0.0);
        Due.is("sample(most, 1)", music.sample(MOST, 1), 0.0);
    }

    private static void lastSampleOfTheLongest() {
        PlainMusic music = Texts.scored("voice {1/10:{1/10:{1/9:r1}}}{1/10:{1/10:C0 1}};");
        Due.is("its last SAMPLE", music.sample(19999999, 10000), sound(624.0 / 625.0, 1999999.0 / 10000.0, 200.0));
        Due.is("its end", music.sample(20000000, 10000), 0.0);
        Due.is("behind its end", music.sample(20000001, 10000), 0.0);
    }

    private static void afterAnotherScore() {
        PlainMusic music = Texts.scored("voice C4 1;");
        Texts.feedExactly(music, "voice D4 3;");
        music.score();
        Due.is("behind a FAULT", music.sample(1, 1024), sound(0.25, 1.0 / 1024.0, 2.0));
        Texts.feedExactly(music, "voice C3 1;");
        music.score();
        Due.is("of another score", music.sample(1, 1024), sound(0.125, 1.0 / 1024.0, 2.0));
        music.score();
        Due.is("of a score without anything", music.sample(1, 1024), 0.0);
    }
}
