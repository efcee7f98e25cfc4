/** Promise 23: sample. */
public final class SampleTest {
    private SampleTest() {
    }

    public static void main(String[] args) {
        oneSound();
        begunAndEnded();
        frequencies();
        manySounds();
        exactFractions();
        wrongCalls();
        besideTheOracle();
        Due.end("SampleTest");
    }

    /** C4 has 256 turns a second, so that four SAMPLES at 1024 are one turn. */
    private static void oneSound() {
        PlainMusic music = Texts.scored("voice C4 1;");
        Due.is("at 0", music.sample(0, 1024), 0.0);
        Due.is("at a quarter", music.sample(1, 1024), 0.25 * (1.0 - 1.0 / 2048.0));
        Due.is("at a half", music.sample(2, 1024), 0.0);
        Due.is("at three quarters", music.sample(3, 1024), -0.25 * (1.0 - 3.0 / 2048.0));
        Due.is("at a turn", music.sample(4, 1024), 0.0);
        Due.is("at an eighth", music.sample(1, 2048), 0.125 * (1.0 - 1.0 / 4096.0));
        Due.is("at three eighths", music.sample(3, 2048), 0.125 * (1.0 - 3.0 / 4096.0));
        Due.is("at five eighths", music.sample(5, 2048), -0.125 * (1.0 - 5.0 / 4096.0));
        Due.is("at seven eighths", music.sample(7, 2048), -0.125 * (1.0 - 7.0 / 4096.0));
        Due.is("later, at a quarter", music.sample(1025, 1024), 0.25 * (1.0 - 1025.0 / 2048.0));
        Due.is("the last quarter", music.sample(2045, 1024), 0.25 * (1.0 - 2045.0 / 2048.0));
    }

    private static void begunAndEnded() {
        PlainMusic music = Texts.scored("voice C4 1;");
        Due.is("the last one", music.sample(2047, 1024) != 0.0 ? 1 : 0, 1);
        Due.is("at the end", music.sample(2048, 1024), 0.0);
        Due.is("behind the end", music.sample(2049, 1024), 0.0);
        music = Texts.scored("voice r 2 C4 2 C4 2 r 2;");
        Due.is("in the rest", music.sample(1023, 1024), 0.0);
        Due.is("at the START", music.sample(1024, 1024), 0.0);
        Due.is("behind the START", music.sample(1025, 1024), 0.25 * (1.0 - 1.0 / 1024.0));
        Due.is("before the next one", music.sample(2047, 1024), -0.25 * (1.0 - 1023.0 / 1024.0));
        Due.is("behind the START of the next one", music.sample(2049, 1024), 0.25 * (1.0 - 1.0 / 1024.0));
        Due.is("behind all", music.sample(3073, 1024), 0.0);
        Due.is("an object with no score", new PlainMusic().sample(1, 1024), 0.0);
        Due.is("a score without voice", Texts.scored("line C4;").sample(1, 1024), 0.0);
    }

    /** At a quarter of a turn the wave is 1. */
    private static void frequencies() {
        String[] pitches = {"C0", "C1", "C8", "B#3", "D4", "E4", "F4", "G4", "Db4", "Eb4", "Ab4", "A4", "Bb4", "B4", "F#4",
            "Cb0", "Cbb0"};
        int[] tops = {16, 32, 4096, 256, 288, 320, 1024, 384, 4096, 1536, 2048, 1280, 2304, 480, 360, 15, 72};
        int[] bottoms = {1, 1, 1, 1, 1, 1, 3, 1, 15, 5, 5, 3, 5, 1, 1, 1, 5};
        for (int i = 0; i < pitches.length; i++) {
            PlainMusic music = Texts.scored("voice " + pitches[i] + " 1;");
            int rate = 4 * tops[i];
            int n = bottoms[i];
            if (rate > 10000) {
                n *= 2;
                rate /= 2;
            }
            double wave = rate == 4 * tops[i] ? 1.0 : 0.0;
            double fade = 1.0 - (double) n / (double) rate / 2.0;
            double got = music.sample(n, rate);
            Due.is(pitches[i] + " at a quarter of a turn", got, 0.25 * wave * fade);
            Oracle oracle = new Oracle("voice " + pitches[i] + " 1;");
            Due.is(pitches[i] + " as the oracle has it", music.sample(1, 9999), oracle.sample(1, 9999));
        }
    }

    private static void manySounds() {
        PlainMusic music = Texts.scored("voice <C4 G4>1; voice r 2 C4 2; voice E4 1;");
        double c = 0.25 * (1.0 - 1.0 / 2048.0);
        double fade = 1.0 - 1.0 / 2048.0;
        double g = 0.25 * (2.0 - 4.0 * 0.375) * fade;
        double e = 0.25 * (2.0 - 4.0 * 0.3125) * fade;
        Due.is("three PITCHES", music.sample(1, 1024), 0.0 + c + g + e);
        double later = 1.0 - 1025.0 / 2048.0;
        double sum = 0.0;
        sum += 0.25 * 1.0 * later;
        sum += 0.25 * (2.0 - 4.0 * 0.375) * later;
        sum += 0.25 * 1.0 * (1.0 - 1.0 / 1024.0);
        sum += 0.25 * (2.0 - 4.0 * 0.3125) * later;
        Due.is("four PITCHES, in order", music.sample(1025, 1024), sum);
    }

    private static void exactFractions() {
        String text = "voice {7/1:C4 4 C#4 4} {7/3:F#5 4. B3 1}; voice {11/13:Eb2 2. Ab5 1} {1/16:{1/16:A7 1 B8 1}};";
        PlainMusic music = Texts.scored(text);
        Oracle oracle = new Oracle(text);
        for (int i = 0; i < 400; i++) {
            int rate = 1 + i * 7919 % 10000;
            int n = (int) ((long) i * rate * 2654435L % (6L * rate));
            Due.is("sample(" + n + ", " + rate + ")", music.sample(n, rate), oracle.sample(n, rate));
        }
        for (int n : new int[] {5000003, 9999999, 10239997, 10240001, 15000001, Integer.MAX_VALUE}) {
            for (int rate : new int[] {9999, 10000, 9973, 7001, 1, 1000000007}) {
                Due.is("sample(" + n + ", " + rate + ")", music.sample(n, rate), oracle.sample(n, rate));
            }
        }
    }

    private static void wrongCalls() {
        PlainMusic music = Texts.scored("voice D4 1;");
        for (int rate : new int[] {0, -1, 10001, Integer.MIN_VALUE, Integer.MAX_VALUE}) {
            Due.is("sample(1, " + rate + ")", music.sample(1, rate), 0.0);
        }
        for (int n : new int[] {-1, -1000, Integer.MIN_VALUE, Integer.MAX_VALUE}) {
            Due.is("sample(" + n + ", 10000)", music.sample(n, 10000), 0.0);
        }
        Due.is("sample(1, 1)", music.sample(1, 1), 0.0);
        Due.is("sample(1, 10000)", music.sample(1, 10000) > 0.0 ? 1 : 0, 1);
        Due.is("sample(3, 7)", music.sample(3, 7) != 0.0 ? 1 : 0, 1);
    }

    private static void besideTheOracle() {
        String text = "voice {3/2:C5 8 <D5 F#5 Bb5>8. E5 16}[r8 G4 8.:A4 4:Cb4 4..]; voice <C3 G3>1 F2 1;"
            + "voice {15/1:{15/1:{15/1:{15/1:C4 1 D4 1}}}} Cbb0 2; voice {1/2:B##8 4};";
        PlainMusic music = Texts.scored(text);
        Oracle oracle = new Oracle(text);
        for (int n = 0; n < 450; n++) {
            int rate = n % 3 == 0 ? 100 : n % 3 == 1 ? 9999 : 77;
            int at = n % 3 == 1 ? 67 * n : n;
            Due.is("sample(" + at + ", " + rate + ") of " + text, music.sample(at, rate), oracle.sample(at, rate));
        }
    }
}
