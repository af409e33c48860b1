import java.util.ArrayList;
import java.util.List;

/** Part IV and promises 13, 14, 19 to 31: pupils, asking, mornings, orders, games. */
final class EdgesOfSchool extends Edge {
    static void all() {
        pupils();
        knowing();
        theAnswer();
        asking();
        whyNot();
        barring();
        mornings();
        draws();
        stuck();
        undoing();
        whoAsked();
        orders();
        shut();
        games();
        left();
    }

    private static String pupil(int age, int words, int number, int depth, int leaves) {
        return "pupil " + age + " knows " + words + " to " + number + " deep " + depth + " long " + leaves + ";";
    }

    /** One who knows no words: but for numbers nothing can be asked by that one. */
    private static String plain(int age) {
        return pupil(age, 0, 99, 8, 16);
    }

    private static void pupils() {
        by(0, "==== IV. THE SCHOOL. PUPILS 0 .. 5 (told one by one): AGE, WORDS, the greatest NUMBER, DEPTH, LEAVES they know.");
        AnswersFirst x = new AnswersFirst();
        for (int i = 0; i < 6; i++) {
            due("about(20 + " + i + ") ahead", x.about(20 + i), -2000000);
            due("a pupil", x.pupil(10 + i, 100 + i, 5, 5, 5), i);
            due("about(2)", x.about(2), i + 1);
        }
        for (int i = 0; i < 6; i++) {
            due("about(20 + " + i + ")", x.about(20 + i), 10 + i);
            due("about(40 + " + i + ")", x.about(40 + i), 100 + i);
        }

        by(13, "A PUPIL: the number.");
        x = new AnswersFirst();
        due("the least of all", x.pupil(1, 0, 0, 0, 1), 0);
        due("the greatest of all", x.pupil(99, 32767, 99, 8, 16), 1);
        due("one more than the least", x.pupil(2, 1, 1, 1, 2), 2);
        due("one less than the greatest", x.pupil(98, 32766, 98, 7, 15), 3);
        due("about(21)", x.about(21), 99);
        due("about(41)", x.about(41), 32767);
        due("about(40)", x.about(40), 0);

        by(13, "NONE for others");
        String before = state(x);
        int[] good = {50, 50, 50, 5, 5};
        int[][] bad = {{0, 100, -1}, {-1, 32768, -32768}, {-1, 100, -99}, {-1, 9, -8}, {0, 17, -1}};
        for (int i = 0; i < 5; i++) {
            for (int number : bad[i]) {
                due("number " + number + " at " + i, with(x, good, i, number), -1);
            }
            for (int far : FAR) {
                due("number " + far + " at " + i, with(x, good, i, far), -1);
            }
        }
        same("nothing is done", state(x), before);

        by(13, "or if there are 6.");
        x = Check.of(times(plain(5), 5));
        due("the sixth", x.pupil(6, 0, 0, 0, 1), 5);
        due("a seventh", x.pupil(7, 0, 0, 0, 1), -1);
        due("about(2)", x.about(2), 6);
        due("about(25)", x.about(25), 6);
        due("about(26)", x.about(26), -2000000);
    }

    private static int with(AnswersFirst x, int[] good, int at, int number) {
        int[] a = good.clone();
        a[at] = number;
        return x.pupil(a[0], a[1], a[2], a[3], a[4]);
    }

    private static void knowing() {
        by(0, "One CAN ask a QUESTION, if one knows all WORDS, NUMBERS (none above), DEPTH and LEAVES in it.");
        String sum = "(p+q-5)*age(7)";
        int words = 3 + 16 + 32 + 64 + 128 + 256;
        AnswersFirst x = Check.of("ask " + sum + ";ask p;ask 0;");
        int[][] pupils = {{words, 7, 1, 4}, {words, 8, 2, 5}, {words, 6, 1, 4}, {words, 7, 0, 4}, {words, 7, 1, 3},
            {32767 - words, 99, 8, 16}};
        int[] lacks = {0, 0, 1 << 15, 1 << 16, 1 << 17, words};
        for (int i = 0; i < 6; i++) {
            x.pupil(5, pupils[i][0], pupils[i][1], pupils[i][2], pupils[i][3]);
            due("lacks(" + i + ", 0)", x.lacks(i, 0), lacks[i]);
            due("can(" + i + ", 0)", x.can(i, 0), lacks[i] == 0);
            due("lacks(" + i + ", 1): no number in it", x.lacks(i, 1), i < 5 ? 0 : 1);
            due("can(" + i + ", 2)", x.can(i, 2), true);
        }
        String[] all = {"p", "q", "r", "s", "1+1", "1-1", "1*1", "(1)", "age(1)", "kids(1)", "kin(1,1)", "way(1,1)",
            "more(1,1)", "less(1,1)", "if 1<1?1:1 end"};
        for (int bit = 0; bit < 15; bit++) {
            x = Check.of("ask " + all[bit] + ";" + pupil(5, 32767 - (1 << bit), 1, 1, 4) + pupil(5, 1 << bit, 1, 1, 4)
                    + pupil(5, 0, 1, 1, 4));
            due("all but " + all[bit], x.lacks(0, 0), 1 << bit);
            due("just " + all[bit], x.lacks(1, 0), 0);
            due("can", x.can(1, 0), true);
            due("nothing", x.lacks(2, 0), 1 << bit);
        }

        by(19, "Whether a PUPIL CAN ask a QUESTION.");
        x = Check.of("ask p;ask 5;" + pupil(5, 1, 4, 0, 1) + pupil(5, 0, 5, 0, 1));
        due("can(0, 0)", x.can(0, 0), true);
        due("can(0, 1)", x.can(0, 1), false);
        due("can(1, 0)", x.can(1, 0), false);
        due("can(1, 1)", x.can(1, 1), true);
        by(20, "What of a QUESTION a PUPIL doesn't know: bits 0 .. 14 WORDS, 15 a NUMBER, 16 DEPTH, 17 LEAVES.");
        AnswersFirst y = Check.of("ask (p+q-r*s)*age(kids(kin(1,way(2,more(3,less(4,if 1<2?3:9 end))))));ask 99;ask (0)+0;"
                + pupil(5, 0, 0, 0, 1) + pupil(5, 32767, 8, 7, 12) + pupil(5, 32767, 99, 8, 16));
        due("lacks(0, 0): all", y.lacks(0, 0), (1 << 18) - 1);
        due("lacks(0, 1)", y.lacks(0, 1), 1 << 15);
        due("lacks(0, 2)", y.lacks(0, 2), 16 + 128 + (1 << 16) + (1 << 17));
        due("lacks(1, 0)", y.lacks(1, 0), 1 << 15);
        due("lacks(2, 0)", y.lacks(2, 0), 0);

        AnswersFirst none = new AnswersFirst();
        for (int promise = 19; promise <= 20; promise++) {
            by(promise, promise == 19 ? "False for others." : "NONE for others.");
            int[][] bad = {{-1, 0}, {0, -1}, {2, 0}, {0, 2}, {2, 2}, {-1, -1}};
            for (int[] b : bad) {
                due(b[0] + ", " + b[1], promise == 19 ? x.can(b[0], b[1]) ? 1 : 0 : x.lacks(b[0], b[1]), promise == 19 ? 0 : -1);
            }
            for (int far : FAR) {
                due(far + ", 0", promise == 19 ? x.can(far, 0) ? 1 : 0 : x.lacks(far, 0), promise == 19 ? 0 : -1);
                due("0, " + far, promise == 19 ? x.can(0, far) ? 1 : 0 : x.lacks(0, far), promise == 19 ? 0 : -1);
            }
            due("none is told", promise == 19 ? none.can(0, 0) ? 1 : 0 : none.lacks(0, 0), promise == 19 ? 0 : -1);
        }
    }

    private static void theAnswer() {
        by(0, "THE ANSWER of the day (-1000000 .. 1000000; at first 0).");
        AnswersFirst x = Check.of("ask 0;ask 99*99*99*99;ask 0-99*99*99*99;" + KNOWING);
        due("about(3) at first", x.about(3), 0);
        due("why(0, 0) at first", x.why(0, 0), 0);
        int[] answers = {1000000, -1000000, 999999, -999999};
        int[] why1 = {0, 3, 3, 3};
        int[] why2 = {3, 0, 3, 3};
        for (int i = 0; i < 4; i++) {
            due("answer(" + answers[i] + ")", x.answer(answers[i]), true);
            due("about(3)", x.about(3), answers[i]);
            due("why(0, 1)", x.why(0, 1), why1[i]);
            due("why(0, 2)", x.why(0, 2), why2[i]);
        }
        due("answer(1000001)", x.answer(1000001), false);
        due("answer(-1000001)", x.answer(-1000001), false);
        due("about(3) stays", x.about(3), -999999);

        by(14, "THE ANSWER: true.");
        due("answer(1000000)", x.answer(1000000), true);
        due("answer(0)", x.answer(0), true);
        due("answer(-1000000)", x.answer(-1000000), true);
        due("about(3)", x.about(3), -1000000);

        by(14, "False for others.");
        String before = state(x);
        for (int v : new int[] {1000001, -1000001, 1 << 30, Integer.MIN_VALUE, Integer.MIN_VALUE + 1, Integer.MAX_VALUE}) {
            due("answer(" + v + ")", x.answer(v), false);
        }
        same("nothing is done", state(x), before);
    }

    private static void asking() {
        by(0, "ASKED: a QUESTION by a PUPIL who hasn't asked yet, CAN ask it, and whose ANSWER is THE ANSWER, if none that "
                + "was ASKED is ALIKE to it (or it): else it is BARRED by the lowest of these.");
        String all = "ask 5;ask p+4;ask 4+p;ask 6;ask 4+1;let p be 1;answer 5;" + plain(7) + KNOWING + KNOWING;
        AnswersFirst x = Check.of(all);
        due("one who can't", x.ask(0, 1), -1);
        due("another answer", x.ask(1, 3), -1);
        due("it can be", x.ask(1, 1), 1);
        due("one who has asked", x.ask(1, 2), -1);
        due("it", x.ask(2, 1), -1);
        due("barred(1): by itself", x.barred(1), 1);
        due("barred(2): not alike", x.barred(2), -1);
        x.equalities(1);
        due("barred(2): alike", x.barred(2), 1);
        due("alike to it", x.ask(2, 2), -1);
        x.equalities(0);
        due("not alike any more", x.ask(2, 2), 2);
        x.equalities(1);
        due("barred(1): by the lowest", x.barred(1), 1);
        due("barred(2): by the lowest", x.barred(2), 1);
        due("the one who can't", x.ask(0, 0), 3);
        // the lowest question, not the first one that was asked
        x = Check.of(all);
        x.ask(2, 2);
        x.ask(1, 1);
        x.equalities(1);
        due("barred(2): by the lower one", x.barred(2), 1);
        due("barred(1): by itself, the lower one", x.barred(1), 1);
        // what is asked at another world or answer bars as well
        x = Check.of(all);
        x.ask(1, 0);
        x.answer(6);
        due("another answer: barred(0)", x.barred(0), 0);
        due("another answer: ask(2, 3)", x.ask(2, 3), 2);

        by(0, "Each is a STEP; all can be taken back, the latest first (THE WORLD, THE ANSWER, EQUALITIES stay).");
        x = Check.of(all + "ask 1+4;");
        x.ask(0, 0);
        x.ask(2, 2);
        x.ask(1, 4);
        x.answer(6);
        x.thing(0, 2);
        x.equalities(3);
        x.person(7, -1, -1);
        x.road(0, 1, 2);
        int[] barred = {4, 2, 0};
        for (int i = 2; i >= 0; i--) {
            due("asked(" + i + ", true)", x.asked(i, true), barred[2 - i]);
            due("undo()", x.undo(), i);
            due("asked(" + i + ", true) then", x.asked(i, true), -1);
            due("barred(" + barred[2 - i] + ")", x.barred(barred[2 - i]), -1);
        }
        due("undo() of none", x.undo(), -1);
        due("the answer stays", x.about(3), 6);
        due("p stays", x.about(10), 2);
        due("the equalities stay", x.about(4), 3);
        due("people stay", x.about(1), 1);
        due("roads stay", x.way(0, 1), 2);

        by(21, "ASKED: how many have asked.");
        x = Check.of("ask 0;ask 0+0;ask 0-0;ask 0*0;ask (0);ask 0+0+0;" + times(KNOWING, 6));
        due("the first", x.ask(5, 0), 1);
        due("the second", x.ask(0, 5), 2);
        for (int i = 1; i < 4; i++) {
            due("one more", x.ask(i, i), 2 + i);
        }
        // (0) is said as 0 is
        due("the sixth", x.ask(4, 4), -1);
        due("about(5)", x.about(5), 5);
        Check.play(x, "ask 9-9;");
        due("the sixth", x.ask(4, 6), 6);

        by(21, "NONE, if it can't be, and for others.");
        x = Check.of(all);
        String before = state(x);
        due("can't ask it", x.ask(0, 1), -1);
        due("another answer", x.ask(1, 3), -1);
        int[][] bad = {{-1, 0}, {0, -1}, {3, 0}, {0, 5}, {-1, -1}};
        for (int[] b : bad) {
            due("ask(" + b[0] + ", " + b[1] + ")", x.ask(b[0], b[1]), -1);
        }
        for (int far : FAR) {
            due("ask(" + far + ", 0)", x.ask(far, 0), -1);
            due("ask(0, " + far + ")", x.ask(0, far), -1);
        }
        same("nothing is done", state(x), before);
    }

    private static void whyNot() {
        by(22, "Why it can't be: 0 it can, 1 the PUPIL has asked, 2 CAN'T ask it, 3 its ANSWER is another one, 4 it is "
                + "BARRED; the least.");
        // who has asked, can't, another answer and barred: by its bits from 8 down
        AnswersFirst x = Check.of("ask 5;ask p;ask p+0;ask 5-0;let p be 5;answer 5;say 4;" + KNOWING + plain(5) + KNOWING);
        due("it can", x.why(1, 0), 0);
        due("can't", x.why(1, 1), 2);
        due("ask(0, 1)", x.ask(0, 1), 1);
        due("has asked", x.why(0, 0), 1);
        due("has asked, barred", x.why(0, 2), 1);
        due("barred", x.why(2, 2), 4);
        due("barred by itself", x.why(2, 1), 4);
        due("can't, barred", x.why(1, 2), 2);
        x.thing(0, 6);
        due("another answer, barred", x.why(2, 2), 3);
        due("can't, another answer, barred", x.why(1, 2), 2);
        due("has asked, another answer, barred", x.why(0, 2), 1);
        due("it can, for another answer is another question's", x.why(2, 0), 0);
        x.answer(6);
        due("barred by one that was asked for another answer", x.why(2, 2), 4);
        due("can't, another answer", x.why(1, 3), 2);
        due("another answer", x.why(1, 0), 3);
        due("ask(1, 0)", x.ask(1, 0), -1);
        x.answer(5);
        due("ask(1, 0)", x.ask(1, 0), 2);
        due("has asked, can't", x.why(1, 1), 1);
        x.undo();
        x.undo();
        due("it can again", x.why(0, 0), 0);

        by(22, "NONE for others.");
        int[][] bad = {{-1, 0}, {0, -1}, {3, 0}, {0, 4}, {-1, -1}, {3, 4}};
        for (int[] b : bad) {
            due("why(" + b[0] + ", " + b[1] + ")", x.why(b[0], b[1]), -1);
        }
        for (int far : FAR) {
            due("why(" + far + ", 0)", x.why(far, 0), -1);
            due("why(0, " + far + ")", x.why(0, far), -1);
        }
    }

    private static void barring() {
        by(23, "BARRED by which QUESTION.");
        AnswersFirst x = Check.of("ask p+q;ask q+p;ask p+q+0;ask 0;" + times(KNOWING, 4));
        x.ask(0, 2);
        x.ask(1, 1);
        due("barred(1)", x.barred(1), 1);
        due("barred(2)", x.barred(2), 2);
        x.equalities(1);
        due("barred(0) by 1", x.barred(0), 1);
        due("barred(2) by 1", x.barred(2), 2);
        x.equalities(4);
        due("barred(0) by 4", x.barred(0), 2);
        x.equalities(5);
        due("barred(0) by 5", x.barred(0), 1);
        due("barred(2) by 5", x.barred(2), 1);

        by(23, "NONE: it isn't, and for others.");
        due("barred(3)", x.barred(3), -1);
        x.equalities(0);
        due("barred(0) by 0", x.barred(0), -1);
        due("barred(4)", x.barred(4), -1);
        due("barred(-1)", x.barred(-1), -1);
        for (int far : FAR) {
            due("barred(" + far + ")", x.barred(far), -1);
        }
        x.undo();
        due("barred(1) behind undo()", x.barred(1), -1);
        due("barred(2) behind undo()", x.barred(2), 2);
    }

    private static final String SIX = "ask 0;ask 0+0;ask 0-0;ask 0*0;ask 0+0+0;ask 0*0*0;";

    private static void asked(AnswersFirst x, int... pupilsAndQuestions) {
        due("about(5)", x.about(5), pupilsAndQuestions.length / 2);
        for (int i = 0; i < pupilsAndQuestions.length; i += 2) {
            due("asked(" + i / 2 + ", false)", x.asked(i / 2, false), pupilsAndQuestions[i]);
            due("asked(" + i / 2 + ", true)", x.asked(i / 2, true), pupilsAndQuestions[i + 1]);
        }
    }

    private static String knowing(int age) {
        return pupil(age, 32767, 99, 8, 16);
    }

    private static void mornings() {
        by(0, "A MORNING: in an order each PUPIL who hasn't asked asks the lowest QUESTION that can be; who can't is passed "
                + "over: by AGE, the least first, of like ones the lowest;");
        AnswersFirst x = Check.of(SIX + knowing(9) + knowing(8) + knowing(9) + knowing(99) + knowing(1) + knowing(8));
        due("morning(NONE)", x.morning(-1), 6);
        asked(x, 4, 0, 1, 1, 5, 2, 0, 3, 2, 4, 3, 5);
        x = Check.of(SIX + knowing(5) + plain(6) + knowing(5) + plain(4) + knowing(7));
        due("one is passed over", x.morning(-1), 4);
        asked(x, 3, 0, 0, 1, 2, 2, 4, 3);
        due("and still is", x.morning(-1), 0);
        x = Check.of("ask 1;" + SIX + knowing(5) + knowing(4) + knowing(3));
        x.ask(1, 2);
        due("who has asked isn't in it", x.morning(-1), 2);
        asked(x, 1, 2, 2, 1, 0, 3);

        by(24, "A MORNING (seed NONE: by AGE): how many asked in it.");
        x = Check.of("ask 0;ask p;" + knowing(5) + knowing(4) + knowing(3));
        due("as many as there are questions", x.morning(-1), 2);
        due("none is left", x.morning(-1), 0);
        due("nor by a seed", x.morning(0), 0);
        x.undo();
        due("one again", x.morning(9999), 1);
        asked(x, 2, 0, 0, 1);
        due("without pupils", Check.of("ask 0;").morning(-1), 0);
        due("without questions", Check.of(KNOWING).morning(-1), 0);
        due("without questions, by a seed", Check.of(KNOWING).morning(5), 0);

        by(24, "-2 for others.");
        x = Check.of("ask 0;" + KNOWING);
        due("morning(-2)", x.morning(-2), -2);
        due("morning(10000)", x.morning(10000), -2);
        for (int far : FAR) {
            due("morning(" + far + ")", x.morning(far), -2);
        }
        due("about(5)", x.about(5), 0);
        due("morning(9999)", x.morning(9999), 1);
    }

    private static void draws() {
        by(0, "or by a SEED: X is SEED (0 .. 9999) * 3 + 7: of those who haven't been at it in it and hadn't asked ahead of "
                + "it (by number) the one at X mod how many, X being (X * 131 + 89) mod 30011 then.");
        for (int seed : new int[] {0, 1, 2, 3, 4, 5, 17, 229, 1000, 5000, 9995, 9996, 9997, 9998, 9999}) {
            AnswersFirst x = Check.of(SIX + KNOWING + plain(3) + times(KNOWING, 4));
            boolean ahead = seed % 2 == 0;
            List<Integer> waiting = new ArrayList<>(List.of(0, 1, 2, 3, 4, 5));
            List<Integer> want = new ArrayList<>();
            if (ahead) {
                x.ask(3, 2);
                waiting.remove(3);
                want.addAll(List.of(3, 2));
            }
            int draw = seed * 3 + 7;
            boolean[] gone = {false, false, ahead, false, false, false};
            while (!waiting.isEmpty()) {
                int pupil = waiting.remove(draw % waiting.size());
                draw = (draw * 131 + 89) % 30011;
                for (int q = 0; q < 6; q++) {
                    if (!gone[q] && (pupil != 1 || q == 0)) {
                        gone[q] = true;
                        want.addAll(List.of(pupil, q));
                        break;
                    }
                }
            }
            due("morning(" + seed + ")", x.morning(seed), want.size() / 2 - (ahead ? 1 : 0));
            asked(x, want.stream().mapToInt(i -> i).toArray());
        }
    }

    private static void stuck() {
        by(25, "The first PUPIL by AGE (as in a MORNING) who would be passed over in a MORNING now.");
        AnswersFirst x = Check.of("ask 0;ask p;" + knowing(5) + plain(6) + knowing(5) + plain(6) + plain(7));
        due("two take what there is", x.stuck(), 1);
        due("nothing is done", x.about(5), 0);
        x = Check.of("ask 0;ask p;" + plain(6) + knowing(6) + plain(7) + plain(6));
        due("the lowest of like ones: 0 asks, 1 asks, 3 can't", x.stuck(), 3);
        x.ask(3, 0);
        due("then 0 can't", x.stuck(), 0);
        x.ask(1, 1);
        due("still 0", x.stuck(), 0);
        x = Check.of("ask 1;" + knowing(9) + knowing(8));
        due("nothing comes to the answer", x.stuck(), 1);
        x.answer(1);
        due("one can, then the other can't", x.stuck(), 0);
        x.ask(1, 0);
        due("the other can't", x.stuck(), 0);

        by(25, "NONE: none.");
        x = Check.of("ask 0;ask p;" + plain(5) + knowing(6));
        due("all can", x.stuck(), -1);
        x.morning(-1);
        due("all have asked", x.stuck(), -1);
        due("two have asked", x.about(5), 2);
        x.pupil(99, 0, 0, 0, 1);
        due("one more can't", x.stuck(), 2);
        due("there are no pupils", Check.of("ask 0;").stuck(), -1);
        due("there are no questions", Check.of(KNOWING).stuck(), 0);
    }

    private static void undoing() {
        by(26, "The latest STEP is taken back: how many have asked yet.");
        AnswersFirst x = Check.of(SIX + times(KNOWING, 6));
        due("morning(NONE)", x.morning(-1), 6);
        for (int i = 5; i >= 0; i--) {
            due("undo()", x.undo(), i);
            due("about(5)", x.about(5), i);
            due("the latest is gone", x.asked(i, false), -1);
            due("that one can ask again", x.why(i, i), 0);
        }
        by(26, "NONE: nobody has.");
        due("undo()", x.undo(), -1);
        due("undo() again", x.undo(), -1);
        due("about(5)", x.about(5), 0);
        due("undo() of a new object", new AnswersFirst().undo(), -1);
        due("ask behind it", x.ask(3, 3), 1);
        due("undo()", x.undo(), 0);
    }

    private static void whoAsked() {
        by(27, "Who asked: how many (i NONE); the i-th: the PUPIL (question false), the QUESTION.");
        AnswersFirst x = Check.of(SIX + times(KNOWING, 6));
        int[] pupils = {3, 0, 5, 1, 4, 2};
        for (int i = 0; i < 6; i++) {
            due("asked(NONE, false)", x.asked(-1, false), i);
            due("asked(NONE, true)", x.asked(-1, true), i);
            due("ask", x.ask(pupils[i], 5 - i), i + 1);
        }
        due("asked(NONE, true)", x.asked(-1, true), 6);
        for (int i = 0; i < 6; i++) {
            due("asked(" + i + ", false)", x.asked(i, false), pupils[i]);
            due("asked(" + i + ", true)", x.asked(i, true), 5 - i);
        }
        by(27, "NONE if there is none such.");
        for (int steps = 6; steps >= 0; steps--) {
            due("asked(" + steps + ", false)", x.asked(steps, false), -1);
            due("asked(" + steps + ", true)", x.asked(steps, true), -1);
            due("asked(-2, false)", x.asked(-2, false), -1);
            due("asked(-2, true)", x.asked(-2, true), -1);
            if (steps > 0) {
                due("the last one", x.asked(steps - 1, false), pupils[steps - 1]);
            }
            x.undo();
        }
        for (int far : FAR) {
            due("asked(" + far + ", false)", x.asked(far, false), -1);
            due("asked(" + far + ", true)", x.asked(far, true), -1);
        }
    }

    private static void order(AnswersFirst x, int most, int... order) {
        due("order(NONE)", x.order(-1), most);
        for (int i = 0; i < x.about(2); i++) {
            due("order(" + i + ")", x.order(i), order.length == 0 ? -2 : order[i]);
        }
    }

    private static void orders() {
        by(0, "All that follows goes from nobody having asked.");
        AnswersFirst x = Check.of("ask 0;ask p;" + knowing(5) + knowing(4));
        x.ask(1, 0);
        x.ask(0, 1);
        order(x, 2, 0, 1);
        due("shut()", x.shut(), 0);
        due("game(0, 1, false)", x.game(0, 1, false), 1);
        due("game(0, 1, true)", x.game(0, 1, true), -1);
        due("two have asked", x.about(5), 2);

        by(0, "ORDER: the first order of all PUPILS by which each, asking the lowest QUESTION that can be, can: the lowest "
                + "first one, then second, .. .");
        order(Check.of("ask 0;ask p;ask q;" + times(KNOWING, 3)), 3, 0, 1, 2);
        order(Check.of("ask p;ask q;ask 0;" + KNOWING + plain(5) + KNOWING), 3, 0, 1, 2);
        order(Check.of("ask 0;ask p;ask q;" + KNOWING + plain(5) + KNOWING), 3, 1, 0, 2);
        order(Check.of("ask 0;ask p;ask q;" + KNOWING + KNOWING + plain(5)), 3, 2, 0, 1);
        order(Check.of("ask p;ask 0;ask q;" + KNOWING + KNOWING + plain(5)), 3, 0, 2, 1);
        // two who know but one question each, of four
        order(Check.of("ask 0;ask p;ask q;" + KNOWING + pupil(5, 1, 99, 0, 1) + plain(5)), 3, 2, 1, 0);
        order(Check.of("ask q;ask p;ask 0;" + KNOWING + pupil(5, 1, 99, 0, 1) + plain(5)), 3, 0, 1, 2);
        order(Check.of("ask p;ask q;ask 0;" + KNOWING + pupil(5, 1, 99, 0, 1) + plain(5)), 3, 1, 0, 2);
        order(Check.of(SIX + times(KNOWING, 6)), 6, 0, 1, 2, 3, 4, 5);
        order(Check.of(SIX + times(KNOWING, 5) + plain(5)), 6, 5, 0, 1, 2, 3, 4);
        order(Check.of("ask 0;ask p;" + times(KNOWING, 3)), 2);

        by(0, "MOST: how many can so at most by any order.");
        order(new AnswersFirst(), 0);
        order(Check.of(KNOWING), 0);
        order(Check.of("ask 0;"), 0);
        order(Check.of("ask 0;" + KNOWING), 1, 0);
        order(Check.of("ask 0;ask p;" + KNOWING + plain(5) + plain(4)), 2);
        order(Check.of("ask 0;ask p;say 1;ask p+q;ask q+p;" + times(KNOWING, 4)), 3);
        order(Check.of("answer 9;ask 0;" + KNOWING), 0);
        AnswersFirst less = Check.of(SIX + times(KNOWING, 6));
        due("six", less.order(-1), 6);
        less.equalities(4);
        due("fewer are unlike now: 0 * 0, 0 * 0 * 0 and 0", less.order(-1), 3);
        less.answer(1);
        due("none comes to the answer now", less.order(-1), 0);
        due("all are to be shut", less.shut(), 63);
        less.answer(0);
        due("three again", less.order(-1), 3);
        due("three are to be shut", less.shut(), 7);
        order(Check.of("ask 0;ask p;ask q;ask r;ask s;" + times(KNOWING, 6)), 5);

        by(28, "ORDER: the i-th PUPIL; i NONE: MOST.");
        x = Check.of("ask 0;ask p;" + KNOWING + plain(5));
        due("order(0)", x.order(0), 1);
        due("order(1)", x.order(1), 0);
        due("order(NONE)", x.order(-1), 2);

        by(28, "-2: there is no such order, no such PUPIL, and for others.");
        due("order(2)", x.order(2), -2);
        due("order(-2)", x.order(-2), -2);
        for (int far : FAR) {
            due("order(" + far + ")", x.order(far), -2);
        }
        x.pupil(5, 0, 99, 8, 16);
        for (int i = 0; i < 4; i++) {
            due("order(" + i + ") of three", x.order(i), -2);
        }
        due("order(NONE) of three", x.order(-1), 2);
        due("order(0) of none", new AnswersFirst().order(0), -2);
        AnswersFirst y = Check.of(SIX + times(KNOWING, 6));
        due("order(5)", y.order(5), 5);
        due("order(6)", y.order(6), -2);
    }

    private static void shut() {
        by(0, "SHUT: the fewest PUPILS (bits) without whom all others have an ORDER; of like ones the lowest set.");
        String two = "ask 0;ask p;";
        due("none is too many", Check.of(two + KNOWING + plain(5)).shut(), 0);
        due("one of three: the lowest set", Check.of(two + times(KNOWING, 3)).shut(), 1);
        due("one of those who know but one", Check.of(two + KNOWING + plain(5) + plain(5)).shut(), 2);
        due("not who is the lowest but who is in the way", Check.of("ask p;ask 0;" + KNOWING + plain(5) + plain(4)).shut(), 2);
        due("one who can nothing", Check.of("ask p;ask q;" + KNOWING + KNOWING + plain(5)).shut(), 4);
        due("two of four", Check.of(two + times(KNOWING, 4)).shut(), 3);
        due("but one of six", Check.of("ask 0;" + times(KNOWING, 6)).shut(), 31);
        due("none of six", Check.of(SIX + times(KNOWING, 6)).shut(), 0);
        due("one of six", Check.of("ask 0;ask p;ask q;ask r;ask s;" + times(KNOWING, 6)).shut(), 1);

        by(29, "SHUT (bits).");
        due("of no pupils", new AnswersFirst().shut(), 0);
        due("nothing can be asked", Check.of(times(KNOWING, 6)).shut(), 63);
        due("the highest one alone", Check.of("ask p;" + KNOWING + pupil(5, 2, 99, 0, 1)).shut(), 2);
        due("one is told", Check.of(KNOWING).shut(), 1);
        due("one can", Check.of("ask 0;" + KNOWING).shut(), 0);
    }

    private static void game(AnswersFirst x, int begins, int other, int who, int first) {
        due("game(" + begins + ", " + other + ", false)", x.game(begins, other, false), who);
        due("game(" + begins + ", " + other + ", true)", x.game(begins, other, true), first);
    }

    /** By the words p and q each has some questions that the other one can't ask. */
    private static void alone(int ones, int others, int both) {
        StringBuilder text = new StringBuilder();
        for (int i = 0; i < 3; i++) {
            text.append(i < ones ? "ask p" + times("+p", i) + ";" : "");
            text.append(i < others ? "ask q" + times("+q", i) + ";" : "");
            text.append(i < both ? "ask 0" + times("+0", i) + ";" : "");
        }
        AnswersFirst x = Check.of(text + pupil(5, 1 + 16, 0, 0, 16) + pupil(5, 2 + 16, 0, 0, 16));
        for (int begins = 0; begins < 2; begins++) {
            int mine = begins == 0 ? ones : others;
            int yours = begins == 0 ? others : ones;
            int first = -1;
            for (int q = x.about(0) - 1; q >= 0; q--) {
                boolean his = x.can(begins, q);
                boolean shared = his && x.can(1 - begins, q);
                if (his && !wins(yours, mine - (shared ? 0 : 1), both - (shared ? 1 : 0))) {
                    first = q;
                }
            }
            game(x, begins, 1 - begins, first < 0 ? 1 - begins : begins, first);
            due("who begins with " + mine + ", " + yours + ", " + both, first >= 0, wins(mine, yours, both));
        }
    }

    private static boolean wins(int mine, int yours, int both) {
        return mine > 0 && !wins(yours, mine - 1, both) || both > 0 && !wins(yours, mine, both - 1);
    }

    private static void games() {
        by(0, "A GAME of two unlike PUPILS: by turns each asks any QUESTION that one CAN ask, that comes to THE ANSWER and "
                + "isn't ALIKE to one that was ASKED in it (or it); who can't loses: who wins, if a told one begins;");
        for (int questions = 0; questions <= 12; questions++) {
            StringBuilder text = new StringBuilder("ask 1;");
            String[] zeros = {"0", "p", "q", "r", "s", "p+q", "p*q", "p-q", "q+r", "q*r", "q-r"};
            for (int i = 0; i + 1 < questions; i++) {
                text.append("ask ").append(zeros[i]).append(';');
            }
            AnswersFirst x = Check.of(text + KNOWING + KNOWING);
            int count = Math.max(0, questions - 1);
            game(x, 0, 1, count % 2 == 1 ? 0 : 1, count % 2 == 1 ? 1 : -1);
            game(x, 1, 0, count % 2 == 1 ? 1 : 0, count % 2 == 1 ? 1 : -1);
        }
        // so many are the one's alone, the other's alone, both's
        for (int i = 0; i < 36; i++) {
            alone(i % 3, i / 3 % 3, i / 9);
        }
        AnswersFirst x = Check.of("ask p+q;ask q+p;" + KNOWING + KNOWING);
        game(x, 0, 1, 1, -1);
        x.equalities(1);
        game(x, 0, 1, 0, 0);
        x.ask(0, 0);
        game(x, 0, 1, 0, 0);
        x.answer(1);
        game(x, 0, 1, 1, -1);
        game(x, 1, 0, 0, -1);

        by(0, "and the lowest QUESTION to begin with, by which that one wins.");
        // one of two is all that the other one has
        x = Check.of("ask p;ask 0;" + KNOWING + plain(5));
        game(x, 0, 1, 0, 1);
        game(x, 1, 0, 0, -1);
        x = Check.of("ask 0;ask p;" + KNOWING + plain(5));
        game(x, 0, 1, 0, 0);
        game(x, 1, 0, 0, -1);
        x = Check.of("ask 1;ask q;ask p;ask 0;" + KNOWING + pupil(5, 1, 99, 0, 1));
        game(x, 0, 1, 0, 1);
        game(x, 1, 0, 0, -1);

        by(30, "THE GAME: who wins, if one begins (first false); the QUESTION to begin with (NONE: none wins).");
        x = Check.of("ask 0;" + KNOWING + plain(5) + pupil(5, 1, 0, 0, 1));
        game(x, 0, 1, 0, 0);
        game(x, 1, 0, 1, 0);
        game(x, 0, 2, 0, 0);
        x.answer(1);
        game(x, 0, 1, 1, -1);
        game(x, 1, 0, 0, -1);

        by(30, "-2 for others.");
        game(x, 0, 0, -2, -2);
        game(x, 2, 2, -2, -2);
        game(x, 0, 3, -2, -2);
        game(x, 3, 0, -2, -2);
        game(x, -1, 0, -2, -2);
        game(x, 0, -1, -2, -2);
        game(x, 3, 3, -2, -2);
        game(x, -1, -1, -2, -2);
        for (int far : FAR) {
            game(x, far, 0, -2, -2);
            game(x, 0, far, -2, -2);
        }
        game(new AnswersFirst(), 0, 1, -2, -2);
    }

    private static void left() {
        by(0, "LEFT for a PUPIL: the QUESTION with the fewest LEAVES that one could ask now; of like ones the lowest.");
        AnswersFirst x = Check.of("ask 0+0+0;ask 0+0;ask 0-0;ask 0;ask 1;" + times(KNOWING, 5));
        int[] lefts = {3, 1, 2, 0, -1};
        for (int i = 0; i < 5; i++) {
            due("left(4), " + i + " have asked", x.left(4), lefts[i]);
            if (i < 4) {
                x.ask(i, lefts[i]);
                due("left(" + i + ") has asked", x.left(i), -1);
            }
        }
        x.undo();
        due("left(4) behind undo()", x.left(4), 0);
        x.answer(1);
        due("left(4) for another answer", x.left(4), 4);

        by(31, "LEFT.");
        x = Check.of("ask p;ask 0;ask p+0;" + plain(5) + pupil(5, 1, 0, 0, 1) + KNOWING);
        due("left(0)", x.left(0), 1);
        due("left(1)", x.left(1), 0);
        due("left(2)", x.left(2), 0);
        x.ask(1, 0);
        due("left(2) then", x.left(2), 1);
        x.ask(0, 1);
        due("left(2) then", x.left(2), 2);
        x.equalities(4);
        due("left(2): alike", x.left(2), -1);

        by(31, "NONE: none, and for others.");
        due("left(0): has asked", x.left(0), -1);
        due("left(3)", x.left(3), -1);
        due("left(-1)", x.left(-1), -1);
        for (int far : FAR) {
            due("left(" + far + ")", x.left(far), -1);
        }
        due("no questions", Check.of(KNOWING).left(0), -1);
        due("no pupils", Check.of("ask 0;").left(0), -1);
    }
}
