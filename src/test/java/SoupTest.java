import java.util.Random;

/** Tokens and bytes by chance: the FAULTS beside the oracle's; and all calls with ints by chance, which never throw. */
public final class SoupTest {
    private static final Random CHANCE = new Random(77L);
    private static final String[] TOKENS = {"time ", "voice ", "line ", "rule ", "row ", "r ", "abc ", "d ", "e ", "C4 ",
        "D#5 ", "Ebb3 ", "4 ", "8 ", "16 ", "3 ", "0 ", "17 ", "99999 ", ";", ":", "/", "|", "[", "]", "{", "}", "<", ">",
        "=", ".", "~", "%\n", "@", "{3/2:", "C4 8 ", "r 4 ", "<C4 E4>4 ", "voice C4 4;", "time 3/4;", "rule a=b c;",
        "row a b;", "line C4 D4;", "a=b;", "C4 4~ ", "G"};

    private SoupTest() {
    }

    public static void main(String[] args) {
        for (int i = 0; i < 60000; i++) {
            soup();
        }
        for (int i = 0; i < 3000; i++) {
            nearlyVoice();
        }
        for (int i = 0; i < 300; i++) {
            anyCalls();
        }
        Due.end("SoupTest");
    }

    private static PlainMusic music = new PlainMusic();
    private static int texts = 0;

    private static void compare(String text) {
        texts++;
        if (texts % 8 == 0) {
            music = new PlainMusic();
        }
        Texts.feedExactly(music, text);
        int due;
        int place = Oracle.NO;
        try {
            due = new Oracle(text).allEvents();
        } catch (Oracle.Wrong wrong) {
            due = -10 - wrong.fault;
            place = wrong.place;
        }
        Due.is("score() of " + text, music.score(), due);
        Due.is("place() of " + text, music.place(), place);
    }

    private static void soup() {
        StringBuilder text = new StringBuilder(CHANCE.nextBoolean() ? "voice " : "");
        int size = CHANCE.nextInt(12);
        for (int i = 0; i < size; i++) {
            text.append(TOKENS[CHANCE.nextInt(TOKENS.length)]);
        }
        if (CHANCE.nextBoolean()) {
            text.append(';');
        }
        compare(text.toString());
    }

    /** Many parts, brackets within one another, so that THE WALK comes near its ends. */
    private static void nearlyVoice() {
        StringBuilder text = new StringBuilder(CHANCE.nextInt(3) == 0 ? "time 2/4; voice " : "voice ");
        String[] all = {"[", "[", "{3/2:", "{1/16:", "{15/7:", "C464", "r1", "C41...", "|", ":", "]", "]", "}"};
        StringBuilder open = new StringBuilder();
        int size = CHANCE.nextInt(250);
        for (int i = 0; i < size; i++) {
            String part = all[CHANCE.nextInt(all.length)];
            char inner = open.length() == 0 ? ' ' : open.charAt(open.length() - 1);
            char first = part.charAt(0);
            boolean closes = first == ']' || first == ':' ? inner == '[' : first != '}' || inner == '{';
            if (!closes || open.length() == (CHANCE.nextInt(200) == 0 ? 8 : 7 - i % 5) && first != ']' && first != '}') {
                continue;
            }
            if (first == '[' || first == '{') {
                open.append(first);
            } else if (first == ']' || first == '}') {
                open.setLength(open.length() - 1);
            }
            text.append(part);
        }
        for (int i = open.length() - 1; i >= 0; i--) {
            text.append(open.charAt(i) == '[' ? ']' : '}');
        }
        compare(text.append(';').toString());
    }

    private static int anyInt() {
        switch (CHANCE.nextInt(6)) {
            case 0:
                return CHANCE.nextInt();
            case 1:
                return Integer.MIN_VALUE + CHANCE.nextInt(3);
            case 2:
                return Integer.MAX_VALUE - CHANCE.nextInt(3);
            case 3:
                return CHANCE.nextInt(400) - 10;
            default:
                return CHANCE.nextInt(6) - 1;
        }
    }

    private static void anyCalls() {
        PlainMusic music = new PlainMusic();
        for (int i = 0; i < 512; i++) {
            if (CHANCE.nextInt(25) == 0) {
                String text = new RandomTexts(CHANCE).next();
                Texts.feed(music, text);
                if (CHANCE.nextInt(4) != 0) {
                    music.score();
                }
            }
            anyCall(music);
        }
        Due.is("512 calls that end", 1, 1);
    }

    private static void anyCall(PlainMusic music) {
        int a = anyInt();
        int b = anyInt();
        int c = anyInt();
        switch (CHANCE.nextInt(22)) {
            case 0: music.feed(a, b, c, a, b); break;
            case 1: music.cut(a); break;
            case 2: music.score(); break;
            case 3: music.place(); break;
            case 4: music.told(a); break;
            case 5: music.count(a, b); break;
            case 6: music.event(a, b, c); break;
            case 7: music.judge(); break;
            case 8: music.fault(a, b); break;
            case 9: music.beam(a, b); break;
            case 10: music.group(a); break;
            case 11: music.breaks(a); break;
            case 12: music.line(a); break;
            case 13: music.width(a); break;
            case 14: music.lines(a, b, c); break;
            case 15: music.second(a, b); break;
            case 16: music.readings(); break;
            case 17: music.tree(a, b); break;
            case 18: music.beside(a, b); break;
            case 19: music.partner(a); break;
            case 20: music.ways(); break;
            default: music.sample(a, b); break;
        }
    }
}
