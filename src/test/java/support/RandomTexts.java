import java.util.Random;

/** Makes texts of all that a score may have, some of them with a byte or a token out of place. */
final class RandomTexts {
    private final Random chance;
    private final StringBuilder text = new StringBuilder();
    private int base;

    RandomTexts(Random chance) {
        this.chance = chance;
    }

    String next() {
        int items = chance.nextInt(6);
        boolean plain = chance.nextInt(3) != 0;
        if (chance.nextInt(2) == 0) {
            text.append("time ").append(1 + chance.nextInt(6)).append('/').append(1 << chance.nextInt(5)).append("; ");
        }
        boolean lined = false;
        boolean rowed = false;
        for (int i = 0; i < items; i++) {
            int kind = chance.nextInt(10);
            if (kind < 5) {
                voice();
            } else if (kind == 5 && (!lined || !plain)) {
                lined = true;
                line();
            } else if (kind == 6 && (!rowed || !plain)) {
                rowed = true;
                harmonies();
            } else if (kind == 7) {
                text.append("% ").append("a remark; [ ~\n");
            }
        }
        if (chance.nextInt(8) == 0) {
            spoil();
        }
        return text.toString();
    }

    private void spoil() {
        if (text.length() == 0) {
            return;
        }
        String bytes = ";:/|[]{}<>=.~ %\nr0123456789abCDEFG#\u0000\u00ffH time voice line rule row ";
        int at = chance.nextInt(text.length());
        char with = bytes.charAt(chance.nextInt(bytes.length()));
        switch (chance.nextInt(4)) {
            case 0:
                text.setCharAt(at, with);
                break;
            case 1:
                text.insert(at, with);
                break;
            case 2:
                text.deleteCharAt(at);
                break;
            default:
                text.setLength(at);
                break;
        }
    }

    private void gap() {
        int kind = chance.nextInt(12);
        text.append(kind == 0 ? "\n" : kind == 1 ? "\t" : kind == 2 ? "%x\n" : kind < 6 ? "" : " ");
    }

    private void pitch(int around) {
        int key = Math.max(0, around + chance.nextInt(15) - 7);
        int octave = Math.min(8, key / 12);
        text.append("CDEFGAB".charAt(chance.nextInt(7)));
        int mark = chance.nextInt(12);
        text.append(mark == 0 ? "#" : mark == 1 ? "b" : mark == 2 ? "##" : mark == 3 ? "bb" : "");
        text.append(octave);
    }

    private void voice() {
        base = 12 * (1 + chance.nextInt(7));
        text.append(" voice ");
        int parts = chance.nextInt(14);
        for (int i = 0; i < parts; i++) {
            part(0);
        }
        text.append(';');
    }

    private void part(int depth) {
        gap();
        int kind = chance.nextInt(16);
        if (kind == 0 && depth < 7) {
            text.append('[');
            parts(depth);
            int turns = chance.nextInt(4);
            for (int i = 0; i < turns; i++) {
                text.append(':');
                parts(depth);
            }
            text.append(']');
        } else if (kind == 1 && depth < 7) {
            text.append('{').append(1 + chance.nextInt(16)).append('/').append(1 + chance.nextInt(16)).append(':');
            parts(depth);
            text.append('}');
        } else if (kind < 5) {
            text.append('|');
        } else {
            event();
        }
    }

    private void parts(int depth) {
        int parts = chance.nextInt(4);
        for (int i = 0; i < parts; i++) {
            part(depth + 1);
        }
    }

    private void event() {
        int kind = chance.nextInt(10);
        boolean rest = kind == 0;
        if (rest) {
            text.append('r');
        } else if (kind == 1) {
            text.append('<');
            int octave = Math.min(7, base / 12);
            String[] chord = {"C" + octave, "E" + octave, "G#" + octave, "Bb" + octave, "C##" + (octave + 1)};
            int from = chance.nextInt(4);
            int size = 1 + chance.nextInt(3);
            for (int i = from; i < Math.min(chord.length, from + size); i++) {
                text.append(chord[i]).append(' ');
            }
            text.append('>');
        } else {
            pitch(base);
        }
        gap();
        text.append(1 << chance.nextInt(chance.nextInt(4) == 0 ? 7 : 5));
        int dots = chance.nextInt(9);
        text.append(dots > 5 ? Texts.times(dots - 5, ".") : "");
        text.append(!rest && chance.nextInt(9) == 0 ? "~" : "");
    }

    private void line() {
        text.append(" line ");
        int size = 1 + chance.nextInt(8);
        for (int i = 0; i < size; i++) {
            pitch(48);
            text.append(' ');
        }
        text.append("; ");
    }

    private void harmonies() {
        int kinds = 1 + chance.nextInt(chance.nextInt(20) == 0 ? 17 : 4);
        int rules = 1 + chance.nextInt(chance.nextInt(20) == 0 ? 25 : 9);
        for (int i = 0; i < rules; i++) {
            text.append(" rule ").append(name(kinds)).append(" = ").append(name(kinds));
            if (chance.nextInt(2) == 0) {
                text.append(' ').append(name(kinds));
            }
            text.append(';');
        }
        text.append(" row");
        int size = 1 + chance.nextInt(chance.nextInt(4) == 0 ? 12 : 6);
        for (int i = 0; i < size; i++) {
            text.append(' ').append(name(kinds));
        }
        text.append("; ");
    }

    private String name(int kinds) {
        return "n" + (char) ('a' + chance.nextInt(kinds));
    }
}
