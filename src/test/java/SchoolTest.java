/** Promises 13, 14, 19 to 31: pupils, asking, mornings, orders, games. */
public final class SchoolTest {
    private static final Check C = new Check();

    public static void main(String[] args) {
        pupils();
        answers();
        lacking();
        asking();
        barring();
        mornings();
        draws();
        stuck();
        orders();
        games();
        leftOver();
        C.finish();
    }

    private static void pupils() {
        AnswersFirst x = new AnswersFirst();
        C.due(13, "pupil(1, 0, 0, 0, 1)", x.pupil(1, 0, 0, 0, 1), 0);
        C.due(13, "pupil(99, 32767, 99, 8, 16)", x.pupil(99, 32767, 99, 8, 16), 1);
        C.due(13, "about(20)", x.about(20), 1);
        C.due(13, "about(21)", x.about(21), 99);
        C.due(13, "about(41)", x.about(41), 32767);
        int[][] bad = {{0, 0, 0, 0, 1}, {100, 0, 0, 0, 1}, {1, -1, 0, 0, 1}, {1, 32768, 0, 0, 1}, {1, 0, -1, 0, 1},
            {1, 0, 100, 0, 1}, {1, 0, 0, -1, 1}, {1, 0, 0, 9, 1}, {1, 0, 0, 0, 0}, {1, 0, 0, 0, 17}};
        for (int[] b : bad) {
            C.due(13, "pupil " + java.util.Arrays.toString(b), x.pupil(b[0], b[1], b[2], b[3], b[4]), -1);
        }
        C.due(13, "about(2)", x.about(2), 2);
        for (int i = 2; i < 6; i++) {
            C.due(13, "pupil " + i, x.pupil(9, 0, 0, 0, 1), i);
        }
        C.due(13, "a seventh", x.pupil(9, 0, 0, 0, 1), -1);
    }

    private static void answers() {
        AnswersFirst x = new AnswersFirst();
        C.due(14, "answer(1000000)", x.answer(1000000), true);
        C.due(14, "about(3)", x.about(3), 1000000);
        C.due(14, "answer(-1000000)", x.answer(-1000000), true);
        C.due(14, "about(3)", x.about(3), -1000000);
        C.due(14, "answer(1000001)", x.answer(1000001), false);
        C.due(14, "answer(-1000001)", x.answer(-1000001), false);
        C.due(14, "about(3)", x.about(3), -1000000);
    }

    private static void lacking() {
        AnswersFirst x = Check.of("ask 5;ask p;ask if (p+9)<2?3:4 end;ask 1*2;");
        x.pupil(5, 32767, 99, 8, 16);
        x.pupil(5, 0, 4, 0, 1);
        x.pupil(5, 64, 9, 8, 1);
        C.due(19, "can(0, 2)", x.can(0, 2), true);
        C.due(20, "lacks(0, 2)", x.lacks(0, 2), 0);
        C.due(19, "can(1, 0)", x.can(1, 0), false);
        C.due(20, "lacks(1, 0)", x.lacks(1, 0), 1 << 15);
        C.due(20, "lacks(1, 1)", x.lacks(1, 1), 1);
        C.due(20, "lacks(1, 2)", x.lacks(1, 2), 1 + 16 + 128 + 16384 + (7 << 15));
        C.due(20, "lacks(2, 3)", x.lacks(2, 3), 1 << 17);
        C.due(20, "lacks(2, 0)", x.lacks(2, 0), 0);
        C.due(19, "can(2, 0)", x.can(2, 0), true);
        for (int[] b : new int[][] {{3, 0}, {-1, 0}, {0, 4}, {0, -1}}) {
            C.due(19, "can(" + b[0] + ", " + b[1] + ")", x.can(b[0], b[1]), false);
            C.due(20, "lacks(" + b[0] + ", " + b[1] + ")", x.lacks(b[0], b[1]), -1);
            C.due(21, "ask(" + b[0] + ", " + b[1] + ")", x.ask(b[0], b[1]), -1);
            C.due(22, "why(" + b[0] + ", " + b[1] + ")", x.why(b[0], b[1]), -1);
        }
    }

    /** Three pupils who know all, one who knows no words. */
    private static AnswersFirst four(String text) {
        AnswersFirst x = Check.of(text);
        x.pupil(7, 32767, 99, 8, 16);
        x.pupil(5, 32767, 99, 8, 16);
        x.pupil(6, 32767, 99, 8, 16);
        x.pupil(5, 0, 99, 8, 16);
        return x;
    }

    private static void asking() {
        AnswersFirst x = four("ask 1+2;ask 2+1;ask 3;ask 4;answer 3;");
        C.due(22, "why(3, 0)", x.why(3, 0), 2);
        C.due(22, "why(3, 3)", x.why(3, 3), 3);
        C.due(22, "why(3, 2)", x.why(3, 2), 0);
        C.due(21, "ask(3, 0)", x.ask(3, 0), -1);
        C.due(21, "ask(3, 2)", x.ask(3, 2), 1);
        C.due(22, "why(3, 0) then", x.why(3, 0), 1);
        C.due(22, "why(0, 2)", x.why(0, 2), 4);
        C.due(21, "ask(0, 2)", x.ask(0, 2), -1);
        C.due(21, "ask(0, 1)", x.ask(0, 1), 2);
        C.due(22, "why(1, 1)", x.why(1, 1), 4);
        C.due(22, "why(1, 0)", x.why(1, 0), 0);
        C.due(27, "asked(NONE, false)", x.asked(-1, false), 2);
        C.due(27, "asked(NONE, true)", x.asked(-1, true), 2);
        C.due(27, "asked(0, false)", x.asked(0, false), 3);
        C.due(27, "asked(0, true)", x.asked(0, true), 2);
        C.due(27, "asked(1, false)", x.asked(1, false), 0);
        C.due(27, "asked(1, true)", x.asked(1, true), 1);
        C.due(27, "asked(2, true)", x.asked(2, true), -1);
        C.due(27, "asked(-2, true)", x.asked(-2, true), -1);
        x.answer(4);
        C.due(22, "another answer", x.why(1, 0), 3);
        C.due(26, "undo()", x.undo(), 1);
        C.due(26, "the answer stays", x.about(3), 4);
        C.due(22, "why(0, 3)", x.why(0, 3), 0);
        C.due(26, "undo()", x.undo(), 0);
        C.due(26, "undo()", x.undo(), -1);
        C.due(26, "about(5)", x.about(5), 0);
    }

    private static void barring() {
        AnswersFirst x = four("ask 2+1;ask 1+2;ask 3;ask 3*1;answer 3;");
        x.ask(0, 1);
        C.due(23, "barred(0)", x.barred(0), -1);
        C.due(23, "barred(1)", x.barred(1), 1);
        x.ask(1, 0);
        C.due(23, "barred(1), asked itself", x.barred(1), 1);
        x.equalities(1);
        C.due(23, "by the lowest", x.barred(1), 0);
        C.due(23, "barred(2)", x.barred(2), -1);
        C.due(22, "why(2, 2)", x.why(2, 2), 0);
        x.equalities(128);
        C.due(23, "barred(2) by 128", x.barred(2), 0);
        C.due(22, "why(2, 2) by 128", x.why(2, 2), 4);
        C.due(21, "ask(2, 3)", x.ask(2, 3), -1);
        x.equalities(1);
        C.due(21, "ask(2, 3) by 1", x.ask(2, 3), 3);
        x.equalities(8);
        C.due(23, "barred(2) by 8", x.barred(2), 3);
        C.due(23, "barred(4)", x.barred(4), -1);
        C.due(23, "barred(-1)", x.barred(-1), -1);
    }

    private static void mornings() {
        // ages 7, 5, 6, 5: by age 1, 3, 2, 0
        AnswersFirst x = four("ask 2+1;ask 3;ask 1+2;ask 3*1;answer 3;");
        C.due(24, "morning(NONE)", x.morning(-1), 4);
        int[] pupil = {1, 3, 2, 0};
        int[] question = {0, 1, 2, 3};
        for (int i = 0; i < 4; i++) {
            C.due(24, "asked(" + i + ", false)", x.asked(i, false), pupil[i]);
            C.due(24, "asked(" + i + ", true)", x.asked(i, true), question[i]);
        }
        C.due(24, "once more", x.morning(-1), 0);
        x.undo();
        x.undo();
        C.due(24, "those who are left", x.morning(-1), 2);
        x.back();
        x = four("ask 3;ask 2+1;answer 3;");
        C.due(24, "morning(NONE), two are passed over", x.morning(-1), 1 + 1);
        C.due(24, "asked(1, false)", x.asked(1, false), 2);
        C.due(24, "3 was passed over", x.asked(1, true), 1);
        C.due(24, "morning(-2)", x.morning(-2), -2);
        C.due(24, "morning(10000)", x.morning(10000), -2);
        C.due(24, "morning without pupils", new AnswersFirst().morning(5), 0);
    }

    /** The order of those who hadn't asked, by a seed, as the document tells it. */
    private static void draws() {
        for (int seed = 0; seed <= 9999; seed += 303) {
            AnswersFirst x = new AnswersFirst();
            Check.play(x, "ask 3;ask 1+2;ask 2+1;ask 3+0;ask 0+3;ask 3*1;ask 1*3;answer 3;");
            java.util.List<Integer> in = new java.util.ArrayList<>();
            for (int p = 0; p < 6; p++) {
                x.pupil(50, 32767, 99, 8, 16);
                in.add(p);
            }
            x.ask(2, 0);
            in.remove(2);
            C.due(24, "morning(" + seed + ")", x.morning(seed), 5);
            int draw = seed * 3 + 7;
            for (int i = 1; i < 6; i++) {
                int want = in.remove(draw % in.size());
                draw = (draw * 131 + 89) % 30011;
                C.due(24, "asked(" + i + ") by " + seed, x.asked(i, false), want);
                C.due(24, "its question by " + seed, x.asked(i, true), i);
            }
        }
    }

    private static void stuck() {
        AnswersFirst x = four("ask 3;ask 2+1;answer 3;");
        C.due(25, "3 can't, behind 1", x.stuck(), 3);
        C.due(25, "nobody has asked", x.about(5), 0);
        x.ask(3, 0);
        C.due(25, "then 2 can't", x.stuck(), 2);
        x.answer(9);
        C.due(25, "then 1 can't", x.stuck(), 1);
        C.due(25, "one has asked", x.about(5), 1);
        x = four("ask 3;ask 2+1;ask 1+2;ask 3*1;answer 3;");
        C.due(25, "3 comes behind 1", x.stuck(), 3);
        x = four("ask 2+1;ask 1+2;ask 3*1;ask 3;answer 3;");
        C.due(25, "none", x.stuck(), -1);
        x.morning(-1);
        C.due(25, "all have asked", x.stuck(), -1);
        C.due(25, "no pupils", new AnswersFirst().stuck(), -1);
    }

    private static void order(AnswersFirst x, int most, int... order) {
        C.due(28, "order(NONE)", x.order(-1), most);
        for (int i = 0; i < order.length; i++) {
            C.due(28, "order(" + i + ")", x.order(i), order[i]);
        }
        C.due(28, "order beyond", x.order(x.about(2)), -2);
        C.due(28, "order(-2)", x.order(-2), -2);
    }

    private static void orders() {
        C.due(29, "shut() at once", four("ask 3;answer 3;").shut(), 7);
        AnswersFirst y = four("ask p;answer 3;");
        C.due(29, "none can", y.shut(), 15);
        y.thing(0, 3);
        C.due(29, "one can now", y.shut(), 1 + 2 + 8);
        y.equalities(1);
        C.due(28, "order(NONE) at once", y.order(-1), 1);
        order(new AnswersFirst(), 0);
        C.due(29, "shut() of none", new AnswersFirst().shut(), 0);
        AnswersFirst x = four("ask 3;ask 2+1;ask 1+2;ask 3*1;answer 3;");
        // 3 can ask but the first one, which whoever is first takes
        order(x, 4, 3, 0, 1, 2);
        C.due(29, "shut()", x.shut(), 0);
        x.equalities(1);
        order(x, 3, -2, -2, -2, -2);
        C.due(29, "one too many: 0 goes", x.shut(), 1);
        x.equalities(255);
        order(x, 1, -2);
        C.due(29, "but one", x.shut(), 7);
        x.answer(9);
        order(x, 0, -2);
        C.due(29, "all", x.shut(), 15);
        x.equalities(0);
        x.answer(3);
        x.ask(0, 0);
        order(x, 4, 3, 0, 1, 2);
        C.due(29, "from nobody having asked", x.shut(), 0);
        C.due(28, "one has asked", x.about(5), 1);
        // 1 can ask only what 0 would take; 2 can ask nothing
        x = Check.of("ask 3;ask 2+1;answer 3;");
        x.pupil(9, 16, 9, 0, 2);
        x.pupil(9, 0, 9, 0, 2);
        order(x, 2, 1, 0);
        x.pupil(9, 0, 2, 0, 2);
        order(x, 2, -2, -2, -2);
        C.due(29, "2 goes", x.shut(), 4);
    }

    private static void game(AnswersFirst x, int begins, int other, int who, int first) {
        C.due(30, "game(" + begins + ", " + other + ", false)", x.game(begins, other, false), who);
        C.due(30, "game(" + begins + ", " + other + ", true)", x.game(begins, other, true), first);
    }

    private static void games() {
        AnswersFirst x = four("ask 2+1;ask 3;ask 1+2;ask 3*1;answer 3;");
        game(x, 0, 1, 1, -1);
        x.equalities(1);
        game(x, 0, 1, 0, 0);
        game(x, 1, 0, 1, 0);
        // 3 knows no words: but for the 3 nothing is that one's
        x.equalities(0);
        game(x, 3, 0, 0, -1);
        game(x, 0, 3, 0, 0);
        x.equalities(9);
        game(x, 0, 3, 0, 1);
        game(x, 3, 0, 0, -1);
        x.equalities(255);
        game(x, 3, 0, 3, 1);
        game(x, 0, 3, 0, 0);
        x.ask(1, 1);
        game(x, 3, 0, 3, 1);
        x.answer(9);
        game(x, 3, 0, 0, -1);
        game(x, 0, 3, 3, -1);
        game(x, 0, 0, -2, -2);
        game(x, 0, 4, -2, -2);
        game(x, -1, 0, -2, -2);
        // one of two is the other's only one: it must be taken first
        x = Check.of("ask 2+1;ask 3;answer 3;");
        x.pupil(9, 16, 9, 0, 2);
        x.pupil(9, 0, 9, 0, 2);
        game(x, 0, 1, 0, 1);
        game(x, 1, 0, 0, -1);
        x = Check.of("ask p+3;ask 3;ask q+3;answer 3;");
        x.pupil(9, 17, 9, 0, 2);
        x.pupil(9, 18, 9, 0, 2);
        game(x, 0, 1, 0, 1);
        game(x, 1, 0, 1, 1);
    }

    private static void leftOver() {
        AnswersFirst x = four("ask 1+1+1;ask 2+1;ask 1+2;ask 3;answer 3;");
        C.due(31, "left(0)", x.left(0), 3);
        x.ask(3, 3);
        C.due(31, "left(0), 3 is asked", x.left(0), 1);
        C.due(31, "left(3) has asked", x.left(3), -1);
        x.ask(1, 1);
        C.due(31, "left(0), 1 is asked", x.left(0), 2);
        x.equalities(1);
        C.due(31, "left(0) by 1", x.left(0), 0);
        x.equalities(255);
        C.due(31, "left(0) by all", x.left(0), -1);
        C.due(31, "left(4)", x.left(4), -1);
        C.due(31, "left(-1)", x.left(-1), -1);
    }
}
