/** What was heard and told, the image and about: part V and promises 38 to 46. */
final class EdgesOfHearsay extends Edge {
    static void all() {
        hear();
        worlds();
        knew();
        tell();
        lies();
        clash();
        image();
        back();
        about();
    }

    private static void hear() {
        by(0, "HEARD (8 at most; told): a PUPIL and a QUESTION: that all these have one and the same ANSWER, not told which.");
        AnswersFirst x = Check.of("ask p;ask q;ask 5;" + KNOWING);
        x.hear(0, 0);
        x.hear(0, 1);
        due("p is q", x.worlds(-1), 10);
        due("the last one", x.worlds(9), 9900);
        x.hear(0, 2);
        due("all are 5", x.worlds(-1), 1);
        due("that one", x.worlds(0), 5500);
        for (int i = 4; i <= 8; i++) {
            due("hear", x.hear(0, 2), i);
        }
        due("a ninth", x.hear(0, 2), -2);

        by(38, "HEARD: how many there are (pupil NONE: none any more).");
        x = Check.of("ask p;ask q;" + KNOWING + KNOWING);
        due("hear(1, 1)", x.hear(1, 1), 1);
        due("hear(0, 0)", x.hear(0, 0), 2);
        due("the same again", x.hear(0, 0), 3);
        due("about(7)", x.about(7), 3);
        due("hear(NONE, 0)", x.hear(-1, 0), 0);
        due("about(7)", x.about(7), 0);
        due("worlds(NONE)", x.worlds(-1), 1);
        due("hear(NONE, 0) of none", x.hear(-1, 0), 0);
        due("hear(NONE, NONE)", x.hear(-1, -1), 0);
        due("anew", x.hear(0, 1), 1);

        by(38, "-2 for others, or if there are 8.");
        int[][] bad = {{2, 0}, {0, 2}, {-2, 0}, {0, -1}, {2, 2}, {-2, -1}};
        for (int[] b : bad) {
            due("hear(" + b[0] + ", " + b[1] + ")", x.hear(b[0], b[1]), -2);
        }
        for (int far : FAR) {
            due("hear(" + far + ", 0)", x.hear(far, 0), -2);
            due("hear(0, " + far + ")", x.hear(0, far), -2);
        }
        due("about(7)", x.about(7), 1);
        for (int i = 2; i <= 7; i++) {
            x.hear(0, 0);
        }
        due("the eighth", x.hear(1, 0), 8);
        due("a ninth", x.hear(1, 1), -2);
        due("about(7)", x.about(7), 8);
        due("knew(1): not the ninth", x.knew(1), 1);
        due("hear(NONE, 0) of eight", x.hear(-1, 0), 0);
        due("anew", x.hear(1, 1), 1);
    }

    private static void worlds() {
        by(0, "WORLDS (p, q, r, s from 0 to 9 each; THINGS that are in none of HEARD: 0; PEOPLE and ROADS as they are) in "
                + "which that is so: how many, the i-th (p * 1000 + q * 100 + r * 10 + s; from the least on).");
        String[] things = {"p", "q", "r", "s"};
        int step = 1000;
        for (int t = 0; t < 4; t++) {
            AnswersFirst x = Check.of("let p be 50;let q be 50;let r be 50;let s be 50;ask " + things[t] + ";" + KNOWING);
            due("of nothing heard", x.worlds(-1), 1);
            due("of nothing heard, the first", x.worlds(0), 0);
            x.hear(0, 0);
            due("of " + things[t], x.worlds(-1), 10);
            for (int i = 0; i < 10; i++) {
                due("of " + things[t] + ", " + i, x.worlds(i), i * step);
            }
            due("the thing stays", x.about(10 + t), 50);
            step /= 10;
        }
        AnswersFirst x = Check.of("ask p+q+r+s;ask 36;ask 35;ask 37;ask 0;ask p-q;ask age(p);ask way(p,q);ask 3;" + KNOWING);
        x.hear(0, 0);
        due("of all", x.worlds(-1), 10000);
        due("the last of all", x.worlds(9999), 9999);
        due("beyond", x.worlds(10000), -1);
        due("one in the midst", x.worlds(1234), 1234);
        int[] counts = {1, 4, 0, 1};
        int[] firsts = {9999, 8999, -1, 0};
        for (int i = 0; i < 4; i++) {
            x.hear(-1, 0);
            x.hear(0, 0);
            x.hear(0, i + 1);
            due("worlds(NONE)", x.worlds(-1), counts[i]);
            due("worlds(0)", x.worlds(0), firsts[i]);
            due("the last", x.worlds(counts[i] - 1), counts[i] == 1 ? firsts[i] : counts[i] == 4 ? 9998 : counts[i]);
        }
        x.hear(-1, 0);
        x.hear(0, 5);
        x.hear(0, 4);
        due("p is q", x.worlds(-1), 10);
        due("r and s are 0", x.worlds(3), 3300);
        x.hear(0, 6);
        due("nobody is told", x.worlds(-1), 0);
        x.person(1, -1, -1);
        x.person(0, -1, -1);
        due("one is 0", x.worlds(-1), 1);
        due("that one", x.worlds(0), 1100);
        x.hear(-1, 0);
        x.hear(0, 7);
        x.hear(0, 8);
        due("no way is 3", x.worlds(-1), 0);
        x.road(5, 0, 3);
        due("two are", x.worlds(-1), 2);
        due("one of them", x.worlds(0), 500);
        due("the other", x.worlds(1), 5000);
        x.road(5, 0, 4);
        due("none now", x.worlds(-1), 0);

        by(39, "WORLDS: how many (i NONE); the i-th.");
        x = Check.of("ask q;ask s*2;" + KNOWING);
        due("worlds(NONE)", x.worlds(-1), 1);
        x.hear(0, 0);
        x.hear(0, 1);
        due("worlds(NONE)", x.worlds(-1), 5);
        for (int i = 0; i < 5; i++) {
            due("worlds(" + i + ")", x.worlds(i), i * 201);
        }

        by(39, "NONE if there is none such, and for others.");
        due("worlds(5)", x.worlds(5), -1);
        due("worlds(-2)", x.worlds(-2), -1);
        for (int far : FAR) {
            due("worlds(" + far + ")", x.worlds(far), -1);
        }
        x.hear(-1, 0);
        due("worlds(1) of nothing", x.worlds(1), -1);
        due("a new object", new AnswersFirst().worlds(0), 0);
        due("a new object", new AnswersFirst().worlds(1), -1);
        AnswersFirst y = Check.of("ask p;ask 10;" + KNOWING);
        y.hear(0, 0);
        y.hear(0, 1);
        due("p is no 10", y.worlds(-1), 0);
        due("worlds(0) of none", y.worlds(0), -1);
    }

    private static void knew() {
        by(0, "KNEW: WORDS (bits) of all that a PUPIL was HEARD to ask.");
        AnswersFirst x = Check.of("ask p;ask q*r;ask 5;ask if s<1?(2):age(3) end;" + KNOWING + KNOWING + KNOWING);
        x.hear(0, 0);
        due("knew(0)", x.knew(0), 1);
        x.hear(0, 1);
        due("knew(0)", x.knew(0), 1 + 2 + 4 + 64);
        x.hear(0, 1);
        due("knew(0): the same again", x.knew(0), 71);
        x.hear(1, 2);
        due("knew(1)", x.knew(1), 0);
        x.hear(1, 3);
        due("knew(1)", x.knew(1), 8 + 128 + 256 + (1 << 14));
        due("knew(0)", x.knew(0), 71);
        x.ask(2, 0);
        due("knew(2): not what one asked", x.knew(2), 0);

        by(40, "KNEW (bits).");
        AnswersFirst y = Check.of("ask (p+q-r*s)*age(kids(kin(1,way(2,more(3,less(4,if 1<2?3:4 end))))));" + KNOWING);
        due("knew(0) of none", y.knew(0), 0);
        y.hear(0, 0);
        due("knew(0) of all", y.knew(0), 32767);
        y.hear(-1, 0);
        due("knew(0) of none any more", y.knew(0), 0);

        by(40, "NONE for others.");
        due("knew(2)", x.knew(2), 0);
        due("knew(3)", x.knew(3), -1);
        due("knew(-1)", x.knew(-1), -1);
        for (int far : FAR) {
            due("knew(" + far + ")", x.knew(far), -1);
        }
        due("knew(0) of a new object", new AnswersFirst().knew(0), -1);
    }

    private static void tell() {
        by(0, "TOLD (12 at most): a QUESTION and what was said to be its ANSWER.");
        AnswersFirst x = Check.of("ask p;ask 5;");
        for (int i = 1; i <= 12; i++) {
            due("tell", x.tell(i % 2, i), i);
        }
        due("a thirteenth", x.tell(0, 0), -2);
        due("all but one are lies: 5 is 5", x.lies(), (1 << 12) - 1 - 16);

        by(41, "TOLD (answer -1000000 .. 1000000): how many there are (question NONE: none any more).");
        x = Check.of("ask p;ask 5;");
        due("tell(0, 1000000)", x.tell(0, 1000000), 1);
        due("tell(1, -1000000)", x.tell(1, -1000000), 2);
        due("tell(1, 999999)", x.tell(1, 999999), 3);
        due("the same again", x.tell(1, 999999), 4);
        due("about(8)", x.about(8), 4);
        due("tell(NONE, 0)", x.tell(-1, 0), 0);
        due("about(8)", x.about(8), 0);
        due("lies()", x.lies(), 0);
        due("clash()", x.clash(), -1);
        due("tell(NONE, 5000000)", x.tell(-1, 5000000), 0);
        due("anew", x.tell(1, 5), 1);

        by(41, "-2 for others, or if there are 12.");
        due("tell(2, 0)", x.tell(2, 0), -2);
        due("tell(-2, 0)", x.tell(-2, 0), -2);
        due("tell(0, 1000001)", x.tell(0, 1000001), -2);
        due("tell(0, -1000001)", x.tell(0, -1000001), -2);
        for (int far : FAR) {
            due("tell(" + far + ", 0)", x.tell(far, 0), -2);
            if (far > 1000000 || far < -1000000) {
                due("tell(0, " + far + ")", x.tell(0, far), -2);
            }
        }
        due("about(8)", x.about(8), 1);
        for (int i = 2; i <= 11; i++) {
            x.tell(1, 5);
        }
        due("the twelfth", x.tell(1, 6), 12);
        due("a thirteenth", x.tell(1, 7), -2);
        due("about(8)", x.about(8), 12);
        due("lies()", x.lies(), 1 << 11);
        due("clash()", x.clash(), 11);
        due("tell(NONE, 0) of twelve", x.tell(-1, 0), 0);
        due("anew", x.tell(0, 0), 1);
    }

    private static void lies() {
        by(0, "LIES (bits): of TOLD by number those whose QUESTION has another ANSWER now.");
        AnswersFirst x = Check.of("ask p;ask 99*99*99*99;");
        x.tell(0, 0);
        x.tell(0, 1);
        x.tell(1, 1000000);
        x.tell(1, 999999);
        x.tell(0, 0);
        due("p is 0", x.lies(), 2 + 8);
        x.thing(0, 1);
        due("p is 1", x.lies(), 1 + 8 + 16);
        x.thing(0, 2);
        due("p is 2", x.lies(), 1 + 2 + 8 + 16);

        by(42, "LIES (bits).");
        x = Check.of("ask age(0);");
        due("none is told", x.lies(), 0);
        x.tell(0, -1);
        for (int i = 1; i < 12; i++) {
            x.tell(0, i);
        }
        due("nobody is told: eleven lies", x.lies(), 4095 - 1);
        x.person(11, -1, -1);
        due("one is 11", x.lies(), 4095 - (1 << 11));
    }

    private static void clash() {
        by(0, "CLASH: the first of TOLD that doesn't go with an earlier one: ALIKE QUESTIONS (or one) and unlike ANSWERS: 12 "
                + "times the first such earlier one, and it.");
        AnswersFirst x = Check.of("ask p;ask p+q;ask q+p;ask p;");
        x.tell(0, 1);
        due("just one", x.clash(), -1);
        x.tell(0, 1);
        due("like answers", x.clash(), -1);
        x.tell(1, 2);
        due("another question", x.clash(), -1);
        x.tell(2, 3);
        due("not alike", x.clash(), -1);
        x.equalities(1);
        due("alike now", x.clash(), 12 * 2 + 3);
        x.equalities(0);
        x.tell(3, 2);
        due("a question that is said alike", x.clash(), 4);
        x.equalities(1);
        due("the first one that doesn't go", x.clash(), 12 * 2 + 3);
        x.tell(-1, 0);
        x.tell(0, 1);
        x.tell(1, 5);
        x.tell(1, 6);
        x.tell(0, 2);
        due("not the first that is gone against", x.clash(), 12 + 2);
        x.tell(-1, 0);
        x.tell(1, 5);
        x.tell(0, 1);
        x.tell(0, 1);
        x.tell(0, 2);
        due("the first earlier one of two", x.clash(), 12 + 3);

        by(43, "CLASH.");
        x = Check.of("ask p;ask q;");
        x.tell(0, 0);
        x.tell(0, 1);
        due("0 and 1", x.clash(), 1);
        x.tell(-1, 0);
        for (int i = 0; i < 10; i++) {
            x.tell(1, 7);
        }
        x.tell(0, 7);
        x.tell(0, -7);
        due("10 and 11", x.clash(), 12 * 10 + 11);

        by(43, "NONE: none.");
        x.tell(-1, 0);
        due("none is told", x.clash(), -1);
        for (int i = 0; i < 12; i++) {
            x.tell(i % 2, i % 2);
        }
        due("twelve that go together", x.clash(), -1);
        due("a new object", new AnswersFirst().clash(), -1);
    }

    /** All kinds of things are told, and one has asked. */
    private static AnswersFirst much() {
        AnswersFirst x = Check.of("ask p;ask p+0;ask q;let p be 4;let s be 99;born 30;born 20;path 0 to 1 long 5;"
                + "path 1 to 5 long 6;say 4;answer 4;" + KNOWING + KNOWING + "asks 0 0;");
        x.person(1, 0, 1);
        x.hear(0, 0);
        x.hear(1, 2);
        x.tell(0, 4);
        x.tell(1, 5);
        return x;
    }

    private static void image() {
        by(0, "AN IMAGE: all as it is, but the tape and the latest FAULT.");
        AnswersFirst x = much();
        String before = state(x);
        int parted = x.parted(0, 2, 1);
        x.image();
        // all of it is changed
        Check.play(x, "ask s;let p be 5;let q be 6;let r be 7;let s be 8;born 9;path 0 to 1 long 1;path 2 to 3 long 1;"
                + "say 0;answer 6;" + KNOWING + "asks 1 2;");
        x.hear(-1, 0);
        x.hear(1, 1);
        x.tell(-1, 0);
        x.tell(2, 9);
        Check.type(x, "say 256");
        x.text();
        due("a fault", x.fault(1), 4);
        Check.type(x, "say 77;");
        due("back()", x.back(), 1);
        due("the tape stays", x.about(9), 7);
        due("the fault stays", x.fault(0), 2);
        due("its place stays", x.fault(1), 4);
        due("the tape's bytes stay", x.text(), 1);
        x.back();
        same("all else is so again", state(x), before);
        due("of(1, 3) is so again", x.of(1, 3), 17);
        due("of(3, 0): no such question", x.of(3, 0), -2000000);
        due("played(1): no such text", x.played(1), -2);
        due("parted is so again", x.parted(0, 2, 1), parted);

        by(44, "THE IMAGE is as all is now: how many have asked.");
        x = new AnswersFirst();
        due("image() of a new object", x.image(), 0);
        x = much();
        due("image()", x.image(), 1);
        x.undo();
        due("image() anew", x.image(), 0);
        x.thing(0, 77);
        x.image();
        x.thing(0, 78);
        x.back();
        due("the latest image counts", x.about(10), 77);
        Check.play(x, "ask 77;ask q+77;ask 77+q;ask 7*11;ask 77*1;ask 78-1;answer 77;" + times(KNOWING, 4));
        due("six ask", x.morning(-1), 6);
        due("image()", x.image(), 6);
        x.undo();
        due("back()", x.back(), 6);
    }

    private static void back() {
        by(0, "BACK: all is so again.");
        AnswersFirst x = much();
        x.image();
        String before = state(x);
        // another text, question, person, pupil, step, and what was heard, where others are gone
        for (int round = 0; round < 2; round++) {
            Check.play(x, "ask " + (4 + round) + ";ask 4;born " + (40 + round) + " of 2 and 0;pupil " + (3 + round)
                    + " knows 0 to 99 deep 0 long 1;");
            due("of(3, 0)", x.of(3, 0), 4 + round);
            due("about(33)", x.about(33), 40 + round);
            due("kin(3, 1)", x.kin(3, 1), 2);
            due("about(22)", x.about(22), 3 + round);
            due("ask(2, 4)", x.ask(2, 4), 2);
            due("back()", x.back(), 1);
            due("of(3, 0)", x.of(3, 0), -2000000);
            due("about(33)", x.about(33), -2000000);
            due("kin(3, 1)", x.kin(3, 1), -2);
            due("about(22)", x.about(22), -2000000);
            due("about(42)", x.about(42), -2000000);
            due("about(6)", x.about(6), 1);
        }
        x.end(0);
        same("all is so again", state(x), before);

        // what rests on people and roads that are gone
        x = Check.of("ask kids(0);ask kin(0,1);ask way(0,2);ask p;born 1;born 2;path 0 to 1 long 5;" + KNOWING);
        x.image();
        x.person(1, 0, 1);
        x.road(1, 2, 5);
        x.road(0, 1, 1);
        x.hear(0, 3);
        x.hear(0, 1);
        due("kids(0), kin(0, 1), way(0, 2)", x.of(0, 0) * 100 + x.of(1, 0) * 10 + x.of(2, 0), 126);
        due("p is 2", x.worlds(0), 2000);
        x.back();
        due("kids(0)", x.of(0, 0), 0);
        due("kin(0, 1)", x.kin(0, 1), -1);
        due("way(0, 2)", x.way(0, 2), -1);
        due("way(0, 1)", x.way(0, 1), 5);
        due("worlds(0)", x.worlds(0), 0);
        x.hear(0, 3);
        x.hear(0, 1);
        due("p is -1", x.worlds(-1), 0);

        by(45, "BACK to THE IMAGE (it stays): how many have asked.");
        x = much();
        due("back() to the new object", x.back(), 0);
        due("about(0)", x.about(0), 0);
        due("about(6)", x.about(6), 0);
        due("about(7)", x.about(7), 0);
        due("about(8)", x.about(8), 0);
        due("about(4)", x.about(4), 0);
        due("way(0, 1)", x.way(0, 1), -1);
        x = much();
        x.image();
        for (int i = 0; i < 3; i++) {
            due("undo()", x.undo(), 0);
            x.thing(0, i);
            due("back()", x.back(), 1);
            due("it stays", x.about(10), 4);
        }
        due("back() at once again", x.back(), 1);
    }

    private static void about() {
        by(46, "0 QUESTIONS, 1 PEOPLE, 2 PUPILS, 3 THE ANSWER, 4 EQUALITIES, 5 how many have asked, 6 TEXTS, 7 HEARD, 8 TOLD, "
                + "9 bytes of the tape, 10 + thing: its number, 20 + pupil: AGE, 30 + person: AGE, 40 + pupil: WORDS.");
        AnswersFirst x = new AnswersFirst();
        due("no text", x.about(6), 0);
        Check.play(x, times("ask 0;ask p;", 6) + "say 255;say 254;say 3;");
        due("12 questions", x.about(0), 12);
        for (int i = 0; i < 8; i++) {
            x.person(90 + i, -1, -1);
            due("about(1)", x.about(1), i + 1);
        }
        for (int i = 0; i < 6; i++) {
            x.pupil(70 + i, 32767 - i, 99, 8, 16);
            due("about(2)", x.about(2), i + 1);
            x.hear(i, 0);
            x.tell(i, 0);
        }
        due("about(3)", x.about(3), 0);
        due("about(4)", x.about(4), 3);
        x.ask(0, 0);
        due("about(5)", x.about(5), 1);
        x.answer(-1000000);
        due("about(3)", x.about(3), -1000000);
        due("about(6)", x.about(6), 1);
        due("about(7)", x.about(7), 6);
        x.tell(0, 0);
        due("about(8)", x.about(8), 7);
        x.feed(0, 0, 0, 0, 0);
        x.end(19);
        due("about(9)", x.about(9), 19);
        for (int t = 0; t < 4; t++) {
            x.thing(t, 50 + t);
        }
        for (int t = 0; t < 4; t++) {
            due("about(10 + " + t + ")", x.about(10 + t), 50 + t);
        }
        for (int i = 0; i < 6; i++) {
            due("about(20 + " + i + ")", x.about(20 + i), 70 + i);
            due("about(40 + " + i + ")", x.about(40 + i), 32767 - i);
        }
        for (int i = 0; i < 8; i++) {
            due("about(30 + " + i + ")", x.about(30 + i), 90 + i);
        }

        by(46, "-2000000 for others.");
        for (int what : new int[] {-2, -1, 14, 15, 18, 19, 26, 27, 29, 38, 39, 46, 47, 50, 60, 100, -20}) {
            due("about(" + what + ")", x.about(what), -2000000);
        }
        for (int far : FAR) {
            due("about(" + far + ")", x.about(far), -2000000);
        }
        AnswersFirst y = new AnswersFirst();
        for (int count = 0; count < 6; count++) {
            due("about(20 + " + count + ") of " + count, y.about(20 + count), -2000000);
            due("about(30 + " + count + ") of " + count, y.about(30 + count), -2000000);
            due("about(40 + " + count + ") of " + count, y.about(40 + count), -2000000);
            y.pupil(5, 6, 0, 0, 1);
            y.person(7, -1, -1);
            due("about(20 + " + count + ")", y.about(20 + count), 5);
            due("about(30 + " + count + ")", y.about(30 + count), 7);
            due("about(40 + " + count + ")", y.about(40 + count), 6);
        }
    }
}
