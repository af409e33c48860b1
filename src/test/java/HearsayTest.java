/** Promises 38 to 46: heard, told, the image, about. */
public final class HearsayTest {
    private static final Check C = new Check();

    public static void main(String[] args) {
        heard();
        worlds();
        told();
        images();
        about();
        C.finish();
    }

    private static AnswersFirst school(String questions) {
        AnswersFirst x = Check.of(questions);
        x.pupil(9, 0, 0, 0, 1);
        x.pupil(9, 0, 0, 0, 1);
        return x;
    }

    private static void heard() {
        AnswersFirst x = school("ask p+1;ask age(2);ask q*r;");
        C.due(38, "hear(2, 0)", x.hear(2, 0), -2);
        C.due(38, "hear(-2, 0)", x.hear(-2, 0), -2);
        C.due(38, "hear(0, 3)", x.hear(0, 3), -2);
        C.due(38, "hear(0, -1)", x.hear(0, -1), -2);
        C.due(40, "knew(0)", x.knew(0), 0);
        C.due(38, "hear(0, 0)", x.hear(0, 0), 1);
        C.due(38, "hear(0, 2)", x.hear(0, 2), 2);
        C.due(38, "hear(1, 1)", x.hear(1, 1), 3);
        C.due(40, "knew(0)", x.knew(0), 1 + 16 + 2 + 4 + 64);
        C.due(40, "knew(1)", x.knew(1), 256);
        C.due(40, "knew(2)", x.knew(2), -1);
        C.due(40, "knew(-1)", x.knew(-1), -1);
        for (int i = 4; i <= 8; i++) {
            C.due(38, "hear " + i, x.hear(1, 1), i);
        }
        C.due(38, "a ninth", x.hear(1, 1), -2);
        C.due(38, "about(7)", x.about(7), 8);
        C.due(38, "hear(NONE)", x.hear(-1, 99), 0);
        C.due(38, "about(7)", x.about(7), 0);
        C.due(40, "knew(0) then", x.knew(0), 0);
    }

    private static void worlds() {
        AnswersFirst x = school("ask p;ask q+7;ask s*s;ask age(r);ask 5;ask way(p,s);");
        C.due(39, "worlds(NONE) of nothing", x.worlds(-1), 1);
        C.due(39, "worlds(0) of nothing", x.worlds(0), 0);
        C.due(39, "worlds(1) of nothing", x.worlds(1), -1);
        x.hear(0, 0);
        C.due(39, "all of p", x.worlds(-1), 10);
        C.due(39, "worlds(9)", x.worlds(9), 9000);
        x.hear(1, 1);
        // p is q + 7
        C.due(39, "worlds(NONE)", x.worlds(-1), 3);
        C.due(39, "worlds(0)", x.worlds(0), 7000);
        C.due(39, "worlds(2)", x.worlds(2), 9200);
        C.due(39, "worlds(3)", x.worlds(3), -1);
        C.due(39, "worlds(-2)", x.worlds(-2), -1);
        x.hear(1, 2);
        // a square of 7 to 9 is 9
        C.due(39, "worlds(NONE) by s", x.worlds(-1), 1);
        C.due(39, "worlds(0) by s", x.worlds(0), 9203);
        x.hear(-1, 0);
        x.hear(0, 3);
        x.hear(0, 4);
        C.due(39, "nobody is 5", x.worlds(-1), 0);
        x.person(5, -1, -1);
        x.person(6, -1, -1);
        x.person(5, -1, -1);
        C.due(39, "two are 5", x.worlds(-1), 2);
        C.due(39, "the second is 2", x.worlds(1), 20);
        x.thing(2, 50);
        C.due(39, "whatever r is now", x.worlds(-1), 2);
        x.hear(-1, 0);
        x.hear(0, 5);
        x.hear(0, 4);
        C.due(39, "no road is 5", x.worlds(-1), 0);
        x.road(1, 4, 5);
        C.due(39, "a road is 5", x.worlds(-1), 2);
        C.due(39, "from 1 to 4", x.worlds(0), 1004);
        C.due(39, "from 4 to 1", x.worlds(1), 4001);
        x.back();
        C.due(39, "after back()", x.worlds(-1), 1);
        x = school("ask p+q+r+s;ask p-1;ask 0;");
        x.hear(0, 0);
        C.due(39, "all of four", x.worlds(-1), 10000);
        C.due(39, "worlds(9999)", x.worlds(9999), 9999);
        C.due(39, "worlds(10000)", x.worlds(10000), -1);
        x.hear(0, 2);
        C.due(39, "all are 0", x.worlds(-1), 1);
        x.hear(0, 1);
        C.due(39, "none", x.worlds(-1), 0);
        C.due(39, "worlds(0) of none", x.worlds(0), -1);
    }

    private static void told() {
        AnswersFirst x = Check.of("ask p;ask p+q;ask q+p;ask 3;");
        C.due(42, "lies() of none", x.lies(), 0);
        C.due(43, "clash() of none", x.clash(), -1);
        C.due(41, "tell(4, 0)", x.tell(4, 0), -2);
        C.due(41, "tell(-2, 0)", x.tell(-2, 0), -2);
        C.due(41, "tell(0, 1000001)", x.tell(0, 1000001), -2);
        C.due(41, "tell(0, -1000001)", x.tell(0, -1000001), -2);
        C.due(41, "tell(0, 1000000)", x.tell(0, 1000000), 1);
        C.due(41, "tell(3, 3)", x.tell(3, 3), 2);
        C.due(41, "tell(1, -1000000)", x.tell(1, -1000000), 3);
        C.due(41, "tell(2, 0)", x.tell(2, 0), 4);
        C.due(42, "lies()", x.lies(), 1 + 4);
        x.thing(1, 5);
        C.due(42, "lies() now", x.lies(), 1 + 4 + 8);
        C.due(43, "clash()", x.clash(), -1);
        x.equalities(1);
        C.due(43, "clash() by 1", x.clash(), 12 * 2 + 3);
        C.due(41, "tell(0, 1)", x.tell(0, 1), 5);
        C.due(43, "the first one", x.clash(), 12 * 2 + 3);
        x.equalities(0);
        C.due(43, "of one question", x.clash(), 4);
        for (int i = 6; i <= 12; i++) {
            C.due(41, "tell " + i, x.tell(3, i), i);
        }
        C.due(41, "a thirteenth", x.tell(3, 3), -2);
        C.due(42, "lies() of twelve", x.lies(), 4095 - 2);
        C.due(41, "about(8)", x.about(8), 12);
        C.due(41, "tell(NONE, 0)", x.tell(-1, 0), 0);
        C.due(41, "about(8)", x.about(8), 0);
        C.due(42, "lies() then", x.lies(), 0);
        C.due(41, "tell(3, 3)", x.tell(3, 3), 1);
        x.tell(3, 3);
        C.due(43, "like answers", x.clash(), -1);
        x.tell(3, 4);
        C.due(43, "the first earlier one", x.clash(), 2);
    }

    private static void images() {
        AnswersFirst x = Check.of("ask p;ask p+0;let p be 4;born 30;path 0 to 1 long 5;say 4;answer 4;"
                + "pupil 9 knows 1 to 9 deep 0 long 1;pupil 8 knows 17 to 9 deep 0 long 2;asks 0 0;");
        x.hear(0, 0);
        x.tell(1, 9);
        x.tell(0, 4);
        x.tell(1, 8);
        C.due(44, "image()", x.image(), 1);
        x.undo();
        Check.play(x, "ask q;let p be 5;let q be 6;born 31;path 0 to 1 long 6;path 2 to 3 long 6;say 0;answer 6;"
                + "pupil 7 knows 2 to 9 deep 0 long 1;asks 2 2;");
        x.hear(-1, 0);
        x.hear(2, 2);
        x.hear(2, 1);
        x.tell(-1, 0);
        x.tell(2, 6);
        x.tell(2, 7);
        Check.type(x, "ask");
        x.text();
        Check.type(x, "ask 12");
        C.due(45, "back()", x.back(), 1);
        int[] want = {2, 1, 2, 4, 4, 1, 1, 1, 3, 6, 4, 0, 0, 0};
        for (int what = 0; what < 14; what++) {
            C.due(45, "about(" + what + ") after back()", x.about(what), want[what]);
        }
        C.due(45, "the latest fault stays", x.fault(1), 3);
        C.due(45, "way(0, 1)", x.way(0, 1), 5);
        C.due(45, "way(2, 3)", x.way(2, 3), -1);
        C.due(45, "asked(0, false)", x.asked(0, false), 0);
        C.due(45, "asked(0, true)", x.asked(0, true), 0);
        C.due(45, "why(1, 1)", x.why(1, 1), 4);
        C.due(45, "knew(0)", x.knew(0), 1);
        C.due(45, "worlds(NONE)", x.worlds(-1), 10);
        C.due(45, "lies()", x.lies(), 1 + 4);
        C.due(45, "clash(): p and p+0 are alike", x.clash(), 1);
        x.equalities(0);
        C.due(45, "clash() by nothing", x.clash(), 2);
        x.back();
        C.due(45, "played(1)", x.played(1), -2);
        C.due(45, "about(30)", x.about(30), 30);
        // other texts, questions, people and pupils where those were that are gone
        C.due(45, "another text", Check.play(x, "ask 9-p;born 32;pupil 3 knows 5 to 9 deep 0 long 1;"), -1);
        C.due(45, "of(2, 0)", x.of(2, 0), 5);
        C.due(45, "of(1, 0)", x.of(1, 0), 4);
        C.due(45, "about(31)", x.about(31), 32);
        C.due(45, "about(22)", x.about(22), 3);
        C.due(45, "it stays", x.back(), 1);
        C.due(45, "about(0)", x.about(0), 2);
        x.undo();
        C.due(44, "image() anew", x.image(), 0);
        x.ask(1, 1);
        C.due(45, "back() to it", x.back(), 0);
        x = Check.of("ask kids(0);born 9;born 8;");
        x.image();
        x.person(1, 0, 1);
        C.due(45, "kin(0, 1) by a child", x.kin(0, 1), 2);
        C.due(45, "of(0, 0) with a child", x.of(0, 0), 1);
        x.back();
        C.due(45, "kin(0, 1) after back()", x.kin(0, 1), -1);
        C.due(45, "of(0, 0) after back()", x.of(0, 0), 0);
    }

    private static void about() {
        AnswersFirst x = Check.of("ask 1;born 7;born 8;let s be 9;say 3;answer 2;pupil 5 knows 77 to 1 deep 1 long 1;");
        x.feed(0, 0, 0, 0, 0);
        x.tell(0, 0);
        x.tell(0, 0);
        x.tell(0, 0);
        x.hear(0, 0);
        int[] want = {1, 2, 1, 2, 3, 0, 1, 1, 3, 20, 0, 0, 0, 9};
        int none = -2000000;
        for (int what = -3; what < 60; what++) {
            int due = what >= 0 && what < 14 ? want[what] : what == 20 ? 5 : what == 30 ? 7 : what == 31 ? 8
                    : what == 40 ? 77 : none;
            C.due(46, "about(" + what + ")", x.about(what), due);
        }
        C.due(46, "about(least)", x.about(Integer.MIN_VALUE), none);
        C.due(46, "about(greatest)", x.about(Integer.MAX_VALUE), none);
    }
}
