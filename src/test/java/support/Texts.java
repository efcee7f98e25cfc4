/** Puts texts on a tape. */
final class Texts {
    private Texts() {
    }

    /** Feeds the text, filled up with blanks to twenty bytes a call. */
    static void feed(PlainMusic music, String text) {
        for (int from = 0; from < text.length(); from += 20) {
            music.feed(four(text, from), four(text, from + 4), four(text, from + 8),
                four(text, from + 12), four(text, from + 16));
        }
    }

    /** Feeds the text and takes off what was filled up. */
    static void feedExactly(PlainMusic music, String text) {
        feed(music, text);
        music.cut((20 - text.length() % 20) % 20);
    }

    static int four(String text, int from) {
        int all = 0;
        for (int i = from; i < from + 4; i++) {
            all = all << 8 | (i < text.length() ? text.charAt(i) : ' ');
        }
        return all;
    }

    /** A new object whose score is the text. */
    static PlainMusic scored(String text) {
        PlainMusic music = new PlainMusic();
        feedExactly(music, text);
        int events = music.score();
        if (events < 0) {
            throw new IllegalStateException("the text has FAULT " + (-10 - events) + " at " + music.place() + ": " + text);
        }
        return music;
    }

    /** The text has no FAULT, and so many EVENTS. */
    static void taken(String text, int events) {
        PlainMusic music = new PlainMusic();
        feedExactly(music, text);
        Due.is("score() of " + text, music.score(), events);
        Due.is("place() of " + text, music.place(), -2);
    }

    /** The text has this FAULT at this place. */
    static void refused(String text, int fault, int place) {
        PlainMusic music = new PlainMusic();
        feedExactly(music, text);
        Due.is("score() of " + text, music.score(), -10 - fault);
        Due.is("place() of " + text, music.place(), place);
    }

    static String times(int n, String part) {
        StringBuilder all = new StringBuilder();
        for (int i = 0; i < n; i++) {
            all.append(part);
        }
        return all.toString();
    }
}
