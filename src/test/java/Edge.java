import java.util.ArrayList;
import java.util.List;

/** What the tests of the document's sentences share: which sentence is tested, and what is due by it. */
abstract class Edge {
    /** Numbers that are beyond whatever the document tells, up to where an int wraps around. */
    static final int[] FAR = {Integer.MIN_VALUE, Integer.MIN_VALUE + 1, -2000000000, -65536, -33000,
        33000, 65536, 1 << 30, Integer.MAX_VALUE - 1, Integer.MAX_VALUE};
    /** A pupil who knows all. */
    static final String KNOWING = "pupil 9 knows 32767 to 99 deep 8 long 16;";

    /** A sentence, the promise that it stands in (0: ahead of them), and how many calls tested it. */
    static final class Sentence {
        final int promise;
        final String words;
        int calls;

        Sentence(int promise, String words) {
            this.promise = promise;
            this.words = words;
        }
    }

    static final Check C = new Check();
    static final List<Sentence> SENTENCES = new ArrayList<>();
    private static Sentence now;

    /** What is due from here on is due by these words of the document. */
    static void by(int promise, String words) {
        now = new Sentence(promise, words);
        SENTENCES.add(now);
    }

    static void due(String call, long got, long want) {
        now.calls++;
        C.due(now.promise, "\"" + now.words + "\": " + call, got, want);
    }

    static void due(String call, boolean got, boolean want) {
        due(call, got ? 1L : 0L, want ? 1L : 0L);
    }

    static void same(String call, String got, String want) {
        due(call + (got.equals(want) ? "" : ": [" + got + "] and not [" + want + "]"), got.equals(want), true);
    }

    static void fault(String text, int number, int place) {
        due("1000 * fault and place of [" + text + "]", Check.faultOf(text), number * 1000L + place);
    }

    static void good(String text) {
        fault(text, 0, -1);
    }

    /** What a question comes to in a world that a text tells. */
    static void comes(String world, String sum, int want) {
        due(world + " " + sum, Check.of(world + "ask " + sum + ";").of(0, 0), want);
    }

    /** All that can be asked for without an argument that is a question, in some ninety calls. */
    static String state(AnswersFirst x) {
        StringBuilder out = new StringBuilder();
        for (int what = 0; what < 14; what++) {
            out.append(x.about(what)).append(' ');
        }
        for (int i = 0; i < 8; i++) {
            out.append(x.about(20 + i)).append(' ').append(x.about(30 + i)).append(' ').append(x.about(40 + i)).append(' ');
            out.append(x.kin(0, i)).append(' ');
        }
        for (int i = 0; i < 6; i++) {
            out.append(x.asked(i, false)).append(' ').append(x.asked(i, true)).append(' ');
            out.append(x.knew(i)).append(' ').append(x.way(i, (i + 1) % 6)).append(' ');
        }
        out.append(x.fault(0)).append(' ').append(x.fault(1)).append(' ');
        out.append(x.worlds(-1)).append(' ').append(x.lies()).append(' ').append(x.clash());
        return out.toString();
    }

    static String times(String text, int count) {
        return text.repeat(count);
    }
}
