import java.util.List;
import java.util.Random;

/** Random texts: the program's answers beside those of the oracle. */
public final class FuzzTest {
    private static final Random CHANCE = new Random(20240607L);

    private FuzzTest() {
    }

    public static void main(String[] args) {
        int rounds = args.length > 0 ? Integer.parseInt(args[0]) : 1500;
        int sound = 0;
        for (int round = 0; round < rounds; round++) {
            PlainMusic music = new PlainMusic();
            Oracle oracle = new Oracle();
            for (int take = 0; take < 3; take++) {
                String text = new RandomTexts(CHANCE).next();
                if (text.length() > 2000) {
                    continue;
                }
                Oracle taken = oracle;
                int due;
                int place = Oracle.NO;
                try {
                    taken = new Oracle(text);
                    due = taken.allEvents();
                    sound++;
                } catch (Oracle.Wrong wrong) {
                    due = -10 - wrong.fault;
                    place = wrong.place;
                }
                oracle = taken;
                Texts.feedExactly(music, text);
                Due.is("score of " + text, music.score(), due);
                Due.is("place in " + text, music.place(), place);
                ask(music, oracle, text);
            }
        }
        System.out.println(sound + " texts without FAULT");
        Due.end("FuzzTest");
    }

    private static void ask(PlainMusic music, Oracle oracle, String text) {
        askTold(music, oracle, text);
        askEvents(music, oracle, text);
        askFaults(music, oracle, text);
        askPage(music, oracle, text);
        askSeconds(music, oracle, text);
        askTrees(music, oracle, text);
        askPairs(music, oracle, text);
        for (int i = 0; i < 6; i++) {
            int rate = CHANCE.nextInt(4) == 0 ? CHANCE.nextInt(10002) : 1 + CHANCE.nextInt(50);
            int n = CHANCE.nextInt(1 + 4 * rate) - 1;
            Due.is("sample(" + n + ", " + rate + ") of " + text, music.sample(n, rate), oracle.sample(n, rate));
        }
    }

    private static void askTold(PlainMusic music, Oracle oracle, String text) {
        for (int what = -1; what < 9; what++) {
            Due.is("told(" + what + ") of " + text, music.told(what), oracle.told(what));
        }
        for (int v = -1; v < 6; v++) {
            for (int what = -1; what < 3; what++) {
                Due.is("count(" + v + ", " + what + ") of " + text, music.count(v, what), oracle.count(v, what));
            }
        }
    }

    private static void askEvents(PlainMusic music, Oracle oracle, String text) {
        for (int v = -1; v < 5; v++) {
            int events = oracle.hasVoice(v) ? oracle.voices.get(v).events.size() : 0;
            for (int i = -1; i <= events; i += 1 + CHANCE.nextInt(3)) {
                for (int what = -1; what < 26; what++) {
                    Due.is("event(" + v + ", " + i + ", " + what + ") of " + text,
                        music.event(v, i, what), oracle.event(v, i, what));
                }
            }
        }
    }

    private static void askFaults(PlainMusic music, Oracle oracle, String text) {
        List<int[]> faults = oracle.judge();
        Due.is("judge() of " + text, music.judge(), faults.size());
        for (int k = -1; k <= faults.size(); k++) {
            for (int what = -1; what < 5; what++) {
                boolean none = k < 0 || k == faults.size() || what < 0 || what == 4;
                Due.is("fault(" + k + ", " + what + ") of " + text,
                    music.fault(k, what), none ? Oracle.BAD : faults.get(k)[what]);
            }
        }
    }

    private static void askPage(PlainMusic music, Oracle oracle, String text) {
        for (int v = -1; v < 5; v++) {
            int bars = oracle.hasVoice(v) ? oracle.voices.get(v).barStarts.size() : 0;
            for (int b = -1; b <= bars; b++) {
                List<Integer> due = oracle.beam(v, b);
                int cost = due == null ? Oracle.BAD : due.isEmpty() ? Oracle.LARGE : due.get(0);
                Due.is("beam(" + v + ", " + b + ") of " + text, music.beam(v, b), cost);
                for (int i = 0; cost >= 0 && i <= due.size(); i++) {
                    Due.is("group(" + (i - 1) + ") of bar " + b + " of voice " + v + " of " + text,
                        music.group(i - 1), i == 0 || i == due.size() ? 0 : due.get(i));
                }
            }
        }
        for (int b = -1; b <= oracle.bars(); b++) {
            Due.is("width(" + b + ") of " + text, music.width(b), oracle.width(b));
        }
        for (int w : new int[] {-5, 0, 1, 20 + CHANCE.nextInt(60), 80 + CHANCE.nextInt(300), 1000, 1001}) {
            List<Integer> due = oracle.breaks(w);
            Due.is("breaks(" + w + ") of " + text, music.breaks(w), due.get(0));
            for (int i = 0; due.get(0) >= 0 && i <= due.size(); i++) {
                Due.is("line(" + (i - 1) + ") after breaks(" + w + ") of " + text,
                    music.line(i - 1), i == 0 || i == due.size() ? 0 : due.get(i));
            }
        }
    }

    private static void askSeconds(PlainMusic music, Oracle oracle, String text) {
        if (oracle.line.isEmpty()) {
            Due.is("lines without line", music.lines(40, 50, 3), Oracle.NO);
            return;
        }
        int wide = (int) Math.pow(3000, 1.0 / oracle.line.size());
        int low = Math.max(0, oracle.line.get(0).key - CHANCE.nextInt(wide + 1));
        int high = Math.min(120, low + wide - 1 + CHANCE.nextInt(2));
        int rules = CHANCE.nextInt(512) & CHANCE.nextInt(512);
        rules = CHANCE.nextInt(3) == 0 ? 1 << CHANCE.nextInt(9) : rules;
        String call = "lines(" + low + ", " + high + ", " + rules + ")";
        int not = oracle.linesNot(low, high, rules);
        if (not != 0) {
            Due.is(call + " of " + text, music.lines(low, high, rules), not);
            return;
        }
        List<int[]> rows = oracle.lines(low, high, rules);
        Due.is(call + " of " + text, music.lines(low, high, rules), rows.size());
        for (int k = -1; k <= rows.size(); k += 1 + rows.size() / 50) {
            for (int i = -1; i <= oracle.line.size(); i++) {
                boolean none = k < 0 || k == rows.size() || i < 0 || i == oracle.line.size();
                Due.is("second(" + k + ", " + i + ") after " + call + " of " + text,
                    music.second(k, i), none ? Oracle.BAD : rows.get(k)[i]);
            }
        }
    }

    private static void askTrees(PlainMusic music, Oracle oracle, String text) {
        int all = oracle.readings();
        Due.is("readings() of " + text, music.readings(), all);
        if (all < 0 || all > 3000) {
            Due.is("tree(0, 0) of " + text, music.tree(0, 0) >= 0 ? 1 : 0, all > 0 ? 1 : 0);
            return;
        }
        List<List<Integer>> trees = oracle.allTrees();
        for (int k = -1; k <= all; k += 1 + all / 30) {
            for (int i = -1; i <= 2 * oracle.row.size(); i++) {
                boolean none = k < 0 || k >= all || i < 0 || i >= trees.get(k).size();
                Due.is("tree(" + k + ", " + i + ") of " + text,
                    music.tree(k, i), none ? Oracle.BAD : trees.get(k).get(i));
            }
        }
    }

    private static void askPairs(PlainMusic music, Oracle oracle, String text) {
        for (int v = -1; v < 5; v++) {
            for (int w = -1; w < 5; w++) {
                String call = "beside(" + v + ", " + w + ")";
                if (!oracle.hasVoice(v) || !oracle.hasVoice(w)) {
                    Due.is(call + " of " + text, music.beside(v, w), Oracle.BAD);
                    continue;
                }
                Oracle.Laid laid = oracle.beside(v, w);
                Due.is(call + " of " + text, music.beside(v, w), laid == null ? Oracle.LARGE : laid.cost);
                if (laid == null) {
                    continue;
                }
                Due.is("ways() after " + call + " of " + text, music.ways(), laid.ways);
                for (int i = -1; i <= laid.partners.size(); i++) {
                    boolean none = i < 0 || i == laid.partners.size();
                    Due.is("partner(" + i + ") after " + call + " of " + text,
                        music.partner(i), none ? Oracle.BAD : laid.partners.get(i));
                }
            }
        }
    }
}
