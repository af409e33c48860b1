/** Promises 7 to 11: the tape, texts, faults, and what is played. */
public final class TextTest {
    private static final Check C = new Check();

    public static void main(String[] args) {
        tape();
        texts();
        tokens();
        faultsOfClauses();
        faultsOfSums();
        leastFault();
        played();
        C.finish();
    }

    private static void fault(String text, int number, int place) {
        C.due(10, "[" + text + "]", Check.faultOf(text), number * 1000 + place);
    }

    private static void good(String text) {
        fault(text, 0, -1);
    }

    private static void tape() {
        AnswersFirst x = new AnswersFirst();
        C.due(8, "end(0)", x.end(0), 0);
        C.due(8, "end(1)", x.end(1), -1);
        for (int i = 1; i <= 15; i++) {
            C.due(7, "feed " + i, x.feed(0, 0, 0, 0, 0), 20 * i);
        }
        C.due(7, "feed beyond 300", x.feed(1, 1, 1, 1, 1), -1);
        C.due(7, "about(9)", x.about(9), 300);
        C.due(8, "end(301)", x.end(301), -1);
        C.due(8, "end(-1)", x.end(-1), -1);
        C.due(8, "end(281)", x.end(281), 281);
        C.due(7, "feed to 301", x.feed(1, 1, 1, 1, 1), -1);
        C.due(8, "end(280)", x.end(280), 280);
        C.due(7, "feed to 300", x.feed(1, 1, 1, 1, 1), 300);
        x.end(0);
        // "say 129;" with the highest byte first, the last bytes blank
        C.due(7, "feed", x.feed(0x73617920, 0x3132393b, 0x20202020, 0x20202020, 0x2020200a), 20);
        C.due(9, "text()", x.text(), 0);
        C.due(11, "played(0)", x.played(0), -1);
        C.due(7, "about(4)", x.about(4), 129);
    }

    private static void texts() {
        AnswersFirst x = new AnswersFirst();
        C.due(10, "fault(0) ahead of any", x.fault(0), -1);
        C.due(10, "fault(1) ahead of any", x.fault(1), -1);
        C.due(9, "an empty text", x.text(), 0);
        C.due(10, "fault(0)", x.fault(0), 0);
        C.due(10, "fault(1)", x.fault(1), -1);
        C.due(10, "fault(2)", x.fault(2), -1);
        C.due(10, "fault(-1)", x.fault(-1), -1);
        C.due(11, "played(0)", x.played(0), -1);
        Check.type(x, "ask 1");
        C.due(9, "a text with a fault", x.text(), -1);
        C.due(9, "the tape is empty then", x.about(9), 0);
        C.due(9, "about(6)", x.about(6), 1);
        C.due(10, "fault(0)", x.fault(0), 1);
        C.due(10, "fault(1)", x.fault(1), 5);
        C.due(10, "fault(2)", x.fault(2), -1);
        for (int i = 1; i < 4; i++) {
            Check.type(x, "answer " + i + ";");
            C.due(9, "text " + i, x.text(), i);
            C.due(9, "the tape then", x.about(9), 0);
        }
        Check.type(x, "sing");
        C.due(9, "a fifth", x.text(), -1);
        C.due(9, "the tape stays", x.about(9), 4);
        C.due(10, "it wasn't read", x.fault(0), 0);
        C.due(11, "played(2)", x.played(2), -1);
        C.due(11, "about(3)", x.about(3), 2);
        C.due(11, "played(4)", x.played(4), -2);
        C.due(11, "played(-1)", x.played(-1), -2);
        x.back();
        C.due(9, "the tape after back()", x.about(9), 4);
        C.due(9, "with room again", x.text(), -1);
        C.due(10, "it was read", x.fault(0), 1);
    }

    private static void tokens() {
        good("ask p;");
        good(" \n ask\np ; \n");
        good("ask1+2;let p be 0007;answer 9999;");
        good("ask if p<=q?1:2end;ask if p>=q?1:2end;ask if p#q?1:2end;ask if p = q?1:2end;");
        fault("ask if p< =q?1:2end;", 1, 10);
        fault("ask if p=<q?1:2end;", 1, 9);
        fault("ask pq;", 1, 4);
        fault("ask pa;", 1, 4);
        fault("ask pz;", 1, 4);
        fault("ask pA;", 1, 4);
        fault("ask pZ;", 1, 4);
        fault("ask p0;", 1, 5);
        fault("ask 9p;", 1, 5);
        fault("ask +1;", 1, 4);
        fault(";", 1, 0);
        fault("ask P;", 1, 4);
        fault("Ask p;", 1, 0);
        fault("askp;", 1, 0);
        fault("ask p;\t", 1, 6);
        fault("ask p\r;", 1, 5);
        fault("ask " + (char) 233 + ";", 1, 4);
        fault("ask " + (char) 0 + ";", 1, 4);
        fault("ask 1;;", 1, 6);
        fault("ask 99999999999999999999999999;", 2, 4);
        fault("ask 4294967297;", 2, 4);
        fault("pupil 5 knows 32768 to 9 deep 1 long 1;", 2, 14);
        fault("1", 1, 0);
        fault("p", 1, 0);
        fault("end", 1, 0);
    }

    private static void faultsOfClauses() {
        good("let s be 99;born 99;born 0 of 7 and 7;path 5 to 5 long 99;say 255;answer 0;asks 5 11;morning;");
        good("pupil 99 knows 32767 to 99 deep 8 long 16;pupil 1 knows 0 to 0 deep 0 long 1;");
        fault("let s be 100;", 2, 9);
        fault("let s 1;", 1, 6);
        fault("let 1 be 1;", 1, 4);
        fault("let p be p;", 1, 9);
        fault("born;", 1, 4);
        fault("born 100;", 2, 5);
        fault("born 1 of 8 and 0;", 2, 10);
        fault("born 1 of 0 and 8;", 2, 16);
        fault("born 1 of 0;", 1, 11);
        fault("born 1 and 0;", 1, 7);
        fault("path 6 to 0 long 1;", 2, 5);
        fault("path 0 to 6 long 1;", 2, 10);
        fault("path 0 to 1 long 0;", 2, 17);
        fault("path 0 to 1 long 100;", 2, 17);
        fault("path 0 to 1 deep 1;", 1, 12);
        fault("say 256;", 2, 4);
        fault("say;", 1, 3);
        fault("pupil 0 knows 0 to 0 deep 0 long 1;", 2, 6);
        fault("pupil 100 knows 0 to 0 deep 0 long 1;", 2, 6);
        fault("pupil 1 knows 0 to 100 deep 0 long 1;", 2, 19);
        fault("pupil 1 knows 0 to 0 deep 9 long 1;", 2, 26);
        fault("pupil 1 knows 0 to 0 deep 0 long 0;", 2, 33);
        fault("pupil 1 knows 0 to 0 deep 0 long 17;", 2, 33);
        fault("pupil 1 knows 0 to 0 long 0 deep 1;", 1, 21);
        fault("answer 10000;", 2, 7);
        fault("answer -1;", 1, 7);
        fault("asks 6 0;", 2, 5);
        fault("asks 0 12;", 2, 7);
        fault("asks 0;", 1, 6);
        fault("asks 0 , 1;", 1, 7);
        fault("morning", 1, 7);
        fault("morning ", 1, 8);
        fault("morning morning;", 1, 8);
    }

    private static void faultsOfSums() {
        good("ask 99;ask age(kids(kin(1,way(2,more(3,less(4,5))))));");
        fault("ask ;", 1, 4);
        fault("ask -1;", 1, 4);
        fault("ask 1 2;", 1, 6);
        fault("ask 1+*2;", 1, 6);
        fault("ask ();", 1, 5);
        fault("ask (1;", 1, 6);
        fault("ask 1);", 1, 5);
        fault("ask age 1;", 1, 8);
        fault("ask age(1,2);", 1, 9);
        fault("ask kin(1);", 1, 9);
        fault("ask kin(1,2,3);", 1, 11);
        fault("ask more();", 1, 9);
        fault("ask if 1<2<3?1:2 end;", 1, 10);
        fault("ask if 1<2?1 end;", 1, 13);
        fault("ask if 1<2?1:2;", 1, 14);
        fault("ask if 1<2:1?2 end;", 1, 10);
        fault("ask let;", 1, 4);
        // eight around one another are fine, at any word; the ninth is at its own token
        good("ask ((((((((1))))))));");
        fault("ask (((((((((1)))))))));", 3, 12);
        good("ask ((((((((1))))))))+((((((((1))))))));");
        fault("ask ((((((((age(1)))))))));", 3, 15);
        fault("ask ((((((((if 1<2?1:2 end))))))));", 3, 12);
        fault("ask if ((((((((1))))))))<2?1:2 end;", 3, 14);
        good("ask if (((((((1)))))))<2?(((((((1))))))):2 end+((((((((1))))))));");
        good("ask age(age(age(age(age(age(age(age(1))))))));");
        fault("ask age(age(age(age(age(age(age(age(age(1)))))))));", 3, 39);
        good("ask kin(1,kin(1,kin(1,kin(1,kin(1,kin(1,kin(1,kin(1,1))))))));");
        fault("ask kin(1,kin(1,kin(1,kin(1,kin(1,kin(1,kin(1,kin(1,kin(1,1)))))))));", 3, 55);
        for (int part = 0; part < 4; part++) {
            String[] in = {"1", "1", "1", "1"};
            in[part] = "(((((((1)))))))";
            good("ask if " + in[0] + "<" + in[1] + "?" + in[2] + ":" + in[3] + " end;");
            in[part] = "((((((((1))))))))";
            fault("ask if " + in[0] + "<" + in[1] + "?" + in[2] + ":" + in[3] + " end;", 3, 14 + 2 * part);
        }
        // sixteen leaves are fine, in each question of its own
        String sixteen = "1+p+1+p+1+p+1+p+1+p+1+p+1+p+1+p";
        good("ask " + sixteen + ";ask " + sixteen + ";");
        fault("ask " + sixteen + "+1;", 4, 36);
        fault("ask " + sixteen + "+q;", 4, 36);
        fault("ask (" + sixteen + ")*1;", 4, 38);
        good("ask if 1<2?1+2+3+4+5+6+7:kin(1+2+3,4+5+6)+8 end;");
        fault("ask if 1<2?1+2+3+4+5+6+7:kin(1+2+3,4+5+6)+8 end+9;", 4, 48);
    }

    private static void leastFault() {
        String sixteen = "1+1+1+1+1+1+1+1+1+1+1+1+1+1+1+1";
        fault("ask " + sixteen + "+100;", 2, 36);
        fault("ask " + sixteen + "+(1);", 4, 37);
        fault("ask " + sixteen + "+;", 1, 36);
        fault("ask 1((((((((((;", 1, 5);
        StringBuilder many = new StringBuilder();
        for (int i = 0; i < 24; i++) {
            many.append("morning;");
        }
        good(many.toString());
        good(many + "  \n");
        fault(many + " say 256;", 5, 193);
        fault(many + "sing;", 1, 192);
        fault(many + ";", 1, 192);
        fault(many + "!", 1, 192);
        fault(many + "ask", 5, 192);
        fault("ask 100;!", 2, 4);
        fault("!ask 100;", 1, 0);
    }

    private static void played() {
        AnswersFirst x = new AnswersFirst();
        C.due(11, "all is done", Check.play(x, "let q be 4;born 9;born 3 of 0 and 1;answer 3;"), 2);
        C.due(11, "what was done stays", x.about(11), 4);
        C.due(11, "one of people", x.about(1), 1);
        C.due(11, "no further", x.about(3), 0);
        C.due(11, "parents that are one", Check.play(x, "born 1;born 3 of 1 and 1;"), 1);
        C.due(11, "towns that are one", Check.play(x, "say 7;path 2 to 2 long 3;"), 1);
        C.due(11, "about(4)", x.about(4), 7);
        x = new AnswersFirst();
        C.due(11, "8 people", Check.play(x, "born 1;born 1;born 1;born 1;born 1;born 1;born 1;born 1;born 1;"), 8);
        C.due(11, "played again", x.played(0), 0);
        C.due(11, "12 questions", Check.play(x, "ask 1;ask 2;ask 3;ask 4;ask 5;ask 6;ask 7;ask 8;ask 9;"), -1);
        C.due(11, "played again", x.played(1), 3);
        C.due(11, "about(0)", x.about(0), 12);
        C.due(11, "of(11, 0)", x.of(11, 0), 3);
        x = new AnswersFirst();
        String pupil = "pupil 5 knows 1 to 9 deep 0 long 9;";
        C.due(11, "3 pupils", Check.play(x, pupil + pupil + pupil), -1);
        C.due(11, "6 pupils", x.played(0), -1);
        C.due(11, "7 pupils", x.played(0), 0);
        C.due(11, "about(2)", x.about(2), 6);
        C.due(11, "asks", Check.play(x, "ask p;ask p+p;answer 0;asks 1 0;asks 2 1;asks 2 0;"), 4);
        C.due(11, "asked(NONE)", x.asked(-1, true), 1);
        C.due(11, "asked(0)", x.asked(0, false), 1);
        C.due(11, "a question that isn't told", Check.play(x, "asks 2 7;"), 0);
        x = new AnswersFirst();
        String lesson = "ask 0;ask 0+0;pupil 9 knows 16 to 0 deep 0 long 2;pupil 8 knows 16 to 0 deep 0 long 2;morning;";
        C.due(11, "morning", Check.play(x, lesson), -1);
        C.due(11, "by age", x.asked(0, false), 1);
        C.due(11, "the other", x.asked(1, true), 1);
        x = Check.of("ask p;ask q;answer 7;pupil 9 knows 3 to 0 deep 0 long 1;pupil 8 knows 3 to 0 deep 0 long 1;");
        C.due(11, "nothing is 7", Check.play(x, "asks 0 0;"), 0);
        x.thing(0, 7);
        C.due(11, "p is 7 by hand", x.played(1), -1);
        C.due(11, "nothing else is", Check.play(x, "morning;"), -1);
        C.due(11, "one has asked", x.about(5), 1);
        x.thing(1, 7);
        C.due(11, "q is 7 by hand", x.played(2), -1);
        C.due(11, "two have asked", x.about(5), 2);
        C.due(11, "a pupil who isn't told", Check.play(x, "asks 5 0;"), 0);
        x = new AnswersFirst();
        C.due(11, "path and let", Check.play(x, "path 0 to 5 long 9;path 5 to 0 long 8;let p be 1;let p be 2;"), -1);
        C.due(11, "way(0, 5)", x.way(0, 5), 8);
        C.due(11, "about(10)", x.about(10), 2);
    }
}
