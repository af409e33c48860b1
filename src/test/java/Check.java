/** Counts and prints the calls whose answer is not the one that is due. */
final class Check {
    private int wrong;
    private int calls;

    void due(int promise, String call, long got, long want) {
        calls++;
        if (got != want) {
            wrong++;
            if (wrong < 60) {
                System.out.println("promise " + promise + ": " + call + " answered " + got + ", due is " + want);
            }
        }
    }

    void due(int promise, String call, boolean got, boolean want) {
        due(promise, call, got ? 1L : 0L, want ? 1L : 0L);
    }

    int wrong() {
        return wrong;
    }

    /** Ends the test: with exit code 1 if there was a wrong answer, or no call at all. */
    void finish() {
        System.out.println(calls + " calls, " + wrong + " wrong");
        if (wrong != 0 || calls == 0) {
            System.exit(1);
        }
    }

    /** Puts a text on the tape, behind nothing. */
    static void type(AnswersFirst x, String text) {
        x.end(0);
        for (int i = 0; i < text.length(); i += 20) {
            x.feed(word(text, i), word(text, i + 4), word(text, i + 8), word(text, i + 12), word(text, i + 16));
        }
        x.end(text.length());
    }

    static int word(String text, int at) {
        int w = 0;
        for (int i = at; i < at + 4; i++) {
            w = w << 8 | (i < text.length() ? text.charAt(i) & 255 : 0);
        }
        return w;
    }

    /** A new object by a text that is played: all of it. */
    static AnswersFirst of(String text) {
        AnswersFirst x = new AnswersFirst();
        play(x, text);
        return x;
    }

    static int play(AnswersFirst x, String text) {
        type(x, text);
        int number = x.text();
        return number < 0 ? -3 : x.played(number);
    }

    /** The fault of a text and its place: 1000 times the first, and the second; 999999: it was taken all the same. */
    static int faultOf(String text) {
        AnswersFirst x = new AnswersFirst();
        type(x, text);
        boolean taken = x.text() == 0;
        boolean good = taken == (x.fault(0) == 0) && x.about(6) == (taken ? 1 : 0) && x.about(9) == 0;
        return good ? x.fault(0) * 1000 + x.fault(1) : 999999;
    }
}
