/** Part I and promises 1 to 6: a new object, things, people, roads. */
final class EdgesOfWorld extends Edge {
    static void all() {
        theLastCalls();
        newObject();
        things();
        people();
        parents();
        roads();
        kin();
        ways();
    }

    /** "An object is used for at most 512 calls": the 512th is answered like the first. */
    private static void theLastCalls() {
        by(0, "The constants: `NONE = -1`: None.");
        due("NONE", AnswersFirst.NONE, -1);
        AnswersFirst x = new AnswersFirst();
        for (int i = 0; i < 102; i++) {
            due("thing", x.thing(i % 4, i % 100), true);
            due("feed", x.feed(i, i, i, i, i), 20);
            due("end", x.end(0), 0);
            due("road", x.road(i % 6, (i + 1) % 6, 1 + i % 99), true);
            due("equalities", x.equalities(i), true);
        }
        due("call 511", x.about(10 + 101 % 4), 1);
        due("call 512", x.about(4), 101);
    }

    private static void newObject() {
        by(1, "An empty WORLD");
        AnswersFirst x = new AnswersFirst();
        for (int t = 0; t < 4; t++) {
            due("about(10 + " + t + ")", x.about(10 + t), 0);
        }
        due("about(1)", x.about(1), 0);
        due("about(30)", x.about(30), -2000000);
        due("kin(0, 0)", x.kin(0, 0), -2);
        for (int i = 0; i < 36; i++) {
            due("way(" + i / 6 + ", " + i % 6 + ")", x.way(i / 6, i % 6), i / 6 == i % 6 ? 0 : -1);
        }

        by(1, "no QUESTIONS");
        due("about(0)", x.about(0), 0);
        due("of(0, 0)", x.of(0, 0), -2000000);
        due("alike(0, 0)", x.alike(0, 0), -1);
        due("barred(0)", x.barred(0), -1);

        by(1, "no PUPILS");
        due("about(2)", x.about(2), 0);
        due("about(20)", x.about(20), -2000000);
        due("about(40)", x.about(40), -2000000);
        due("knew(0)", x.knew(0), -1);
        due("morning(NONE)", x.morning(-1), 0);
        due("stuck()", x.stuck(), -1);
        due("order(NONE)", x.order(-1), 0);
        due("order(0)", x.order(0), -2);
        due("shut()", x.shut(), 0);
        due("left(0)", x.left(0), -1);

        by(1, "THE IMAGE is this.");
        String before = state(x);
        same("back() of a new object", x.back() + before, 0 + state(x));
        Check.play(x, "ask p;let p be 9;let s be 8;born 7;path 0 to 1 long 5;say 9;answer 9;" + KNOWING + "asks 0 0;");
        x.hear(0, 0);
        x.tell(0, 8);
        due("about(5)", x.about(5), 1);
        due("back()", x.back(), 0);
        x.end(0);
        // a text was read since, which back() doesn't undo
        same("all but the fault", state(x), before.replace(" -1 -1 1 0 -1", " 0 -1 1 0 -1"));
    }

    private static void things() {
        by(0, "THE WORLD. THINGS p, q, r, s (0 .. 3): each has a number (0 .. 99; at first 0).");
        AnswersFirst x = Check.of("ask p;ask q;ask r;ask s;");
        for (int t = 0; t < 4; t++) {
            due("about(10 + " + t + ") at first", x.about(10 + t), 0);
            due("of(" + t + ", 0) at first", x.of(t, 0), 0);
            due("thing(" + t + ", " + (90 + t) + ")", x.thing(t, 90 + t), true);
        }
        for (int t = 0; t < 4; t++) {
            due("of(" + t + ", 0)", x.of(t, 0), 90 + t);
            for (int number : new int[] {0, 1, 98, 99}) {
                due("thing(" + t + ", " + number + ")", x.thing(t, number), true);
                due("about(10 + " + t + ")", x.about(10 + t), number);
            }
            due("thing(" + t + ", 100)", x.thing(t, 100), false);
            due("thing(" + t + ", -1)", x.thing(t, -1), false);
            due("about(10 + " + t + ") stays", x.about(10 + t), 99);
        }

        by(2, "The number of a THING: true.");
        x = new AnswersFirst();
        due("thing(0, 0)", x.thing(0, 0), true);
        due("thing(3, 99)", x.thing(3, 99), true);
        due("thing(3, 98)", x.thing(3, 98), true);
        due("about(13)", x.about(13), 98);
        due("the others stay", x.about(10) + x.about(11) + x.about(12), 0);

        by(2, "False for others.");
        String before = state(x);
        due("thing(-1, 5)", x.thing(-1, 5), false);
        due("thing(4, 5)", x.thing(4, 5), false);
        due("thing(0, -1)", x.thing(0, -1), false);
        due("thing(3, 100)", x.thing(3, 100), false);
        for (int far : FAR) {
            due("thing(" + far + ", 5)", x.thing(far, 5), false);
            due("thing(1, " + far + ")", x.thing(1, far), false);
        }
        same("nothing is done", state(x), before);
    }

    private static void people() {
        by(0, "PEOPLE 0 .. 7 (told one by one): AGE (0 .. 99)");
        AnswersFirst x = new AnswersFirst();
        int[] ages = {0, 1, 98, 99, 0, 99, 50, 7};
        for (int i = 0; i < 8; i++) {
            due("age -1", x.person(-1, -1, -1), -1);
            due("age 100", x.person(100, -1, -1), -1);
            due("kin(" + i + ", " + i + ") ahead", x.kin(i, i), -2);
            due("person " + i, x.person(ages[i], -1, -1), i);
            due("kin(" + i + ", " + i + ")", x.kin(i, i), 0);
            due("about(1)", x.about(1), i + 1);
        }
        for (int i = 0; i < 8; i++) {
            due("about(30 + " + i + ")", x.about(30 + i), ages[i]);
        }

        by(3, "One of PEOPLE (PARENTS: NONE or told ones): the number.");
        x = new AnswersFirst();
        due("NONE, NONE", x.person(5, -1, -1), 0);
        due("0, NONE", x.person(6, 0, -1), 1);
        due("NONE, 1", x.person(7, -1, 1), 2);
        due("0, 2", x.person(8, 0, 2), 3);
        due("3, 0", x.person(9, 3, 0), 4);
        due("about(34)", x.about(34), 9);

        by(3, "NONE for others");
        String before = state(x);
        due("an age of -1", x.person(-1, 0, 1), -1);
        due("an age of 100", x.person(100, 0, 1), -1);
        due("a parent -2", x.person(5, -2, 0), -1);
        due("another one -2", x.person(5, 0, -2), -1);
        due("a parent who is the next one", x.person(5, 5, -1), -1);
        due("another one", x.person(5, -1, 5), -1);
        due("parents that are one", x.person(5, 4, 4), -1);
        for (int far : FAR) {
            due("age " + far, x.person(far, -1, -1), -1);
            due("one " + far, x.person(5, far, -1), -1);
            due("other " + far, x.person(5, -1, far), -1);
        }
        same("nothing is done", state(x), before);

        by(3, "or if there are 8.");
        x.person(1, -1, -1);
        due("the seventh", x.person(1, -1, -1), 6);
        due("the eighth", x.person(2, 6, 5), 7);
        before = state(x);
        due("a ninth", x.person(3, -1, -1), -1);
        due("a ninth with parents", x.person(3, 0, 7), -1);
        same("nothing is done", state(x), before);
        x.back();
        due("none of them any more", x.person(3, -1, -1), 0);
    }

    private static void parents() {
        by(0, "two PARENTS (PEOPLE told ahead, or NONE; unlike, if both are).");
        AnswersFirst x = new AnswersFirst();
        due("nobody is told", x.person(5, 0, -1), -1);
        due("neither", x.person(5, -1, -1), 0);
        for (int i = 1; i < 8; i++) {
            due("oneself", x.person(5, i, -1), -1);
            due("oneself as the other", x.person(5, i - 1, i), -1);
            due("one twice", x.person(5, i - 1, i - 1), -1);
            due("the last and the first", i == 1 ? x.person(5, 0, -1) : x.person(5, i - 1, 0), i);
            due("a step", x.kin(i, 0), 1);
            due("another step", x.kin(i - 1, i), 1);
        }
    }

    private static void roads() {
        by(0, "TOWNS 0 .. 5; ROADS between two unlike ones, LONG 1 .. 99 (told; the latest of the same two counts; "
                + "at first none).");
        AnswersFirst x = new AnswersFirst();
        for (int i = -1; i <= 6; i++) {
            for (int j = -1; j <= 6; j++) {
                boolean towns = i >= 0 && i <= 5 && j >= 0 && j <= 5;
                due("way(" + i + ", " + j + ") at first", x.way(i, j), !towns ? -2 : i == j ? 0 : -1);
            }
        }
        for (int i = -1; i <= 6; i++) {
            for (int j = -1; j <= 6; j++) {
                road(i, j);
            }
        }

        by(4, "A ROAD: true.");
        x = new AnswersFirst();
        due("road(0, 5, 1)", x.road(0, 5, 1), true);
        due("road(5, 4, 99)", x.road(5, 4, 99), true);
        due("way(0, 4)", x.way(0, 4), 100);

        by(4, "False for others.");
        String before = state(x);
        int[][] bad = {{-1, 0, 5}, {0, -1, 5}, {6, 0, 5}, {0, 6, 5}, {0, 0, 5}, {5, 5, 5}, {0, 5, 0}, {0, 5, 100}, {0, 5, -5}};
        for (int[] b : bad) {
            due("road(" + b[0] + ", " + b[1] + ", " + b[2] + ")", x.road(b[0], b[1], b[2]), false);
        }
        for (int far : FAR) {
            due("road(" + far + ", 0, 5)", x.road(far, 0, 5), false);
            due("road(0, " + far + ", 5)", x.road(0, far, 5), false);
            due("road(0, 5, " + far + ")", x.road(0, 5, far), false);
        }
        same("nothing is done", state(x), before);
    }

    private static void road(int i, int j) {
        boolean towns = i >= 0 && i <= 5 && j >= 0 && j <= 5;
        AnswersFirst x = new AnswersFirst();
        String at = "road(" + i + ", " + j + ", ";
        due(at + "0)", x.road(i, j, 0), false);
        due(at + "100)", x.road(i, j, 100), false);
        for (int length : new int[] {1, 99, 2, 98}) {
            due(at + length + ")", x.road(i, j, length), towns && i != j);
            due("the latest counts", x.way(i, j), !towns ? -2 : i == j ? 0 : length);
            due("and back", x.way(j, i), !towns ? -2 : i == j ? 0 : length);
            due("told the other way about", x.road(j, i, 100 - length), towns && i != j);
            due("that counts", x.way(i, j), !towns ? -2 : i == j ? 0 : 100 - length);
        }
    }

    private static void kin() {
        by(0, "KIN of two PEOPLE: the fewest steps from child to PARENT or back that lead from one to the other");
        AnswersFirst x = new AnswersFirst();
        x.person(5, -1, -1);
        x.person(5, -1, -1);
        x.person(5, 0, 1);
        due("two parents by their child", x.kin(0, 1), 2);
        x.person(5, 0, -1);
        due("two children of one", x.kin(2, 3), 2);
        x.person(5, 3, 2);
        due("a child's child", x.kin(4, 0), 2);
        due("back", x.kin(0, 4), 2);
        due("down and up", x.kin(1, 4), 2);
        due("up and down and down", x.kin(1, 3), 3);
        x.person(5, 4, 1);
        due("fewer steps now", x.kin(5, 0), 3);
        due("1 and 4", x.kin(1, 4), 2);
        due("1 and 5", x.kin(1, 5), 1);
        x.person(5, 5, 0);
        due("5 and 0 by 6", x.kin(5, 0), 2);

        by(0, "(0: oneself; -1 without any). WAY");
        x = new AnswersFirst();
        x.person(5, -1, -1);
        for (int i = 1; i < 7; i++) {
            x.person(5, i - 1, -1);
        }
        x.person(5, -1, -1);
        for (int i = 0; i < 8; i++) {
            for (int j = 0; j < 8; j++) {
                int want = i == j ? 0 : i == 7 || j == 7 ? -1 : Math.abs(i - j);
                due("kin(" + i + ", " + j + ")", x.kin(i, j), want);
            }
        }

        by(5, "KIN of two PEOPLE (-1: none).");
        due("kin(0, 6): the most steps but one", x.kin(0, 6), 6);
        due("kin(7, 0)", x.kin(7, 0), -1);
        x = new AnswersFirst();
        x.person(5, -1, -1);
        for (int i = 1; i < 8; i++) {
            x.person(5, -1, i - 1);
        }
        due("kin(7, 0): the most steps", x.kin(7, 0), 7);
        due("kin(0, 7)", x.kin(0, 7), 7);

        by(5, "-2 for others.");
        x = new AnswersFirst();
        for (int people = 0; people < 9; people++) {
            due("kin(0, " + people + ") of " + people, x.kin(0, people), -2);
            due("kin(" + people + ", 0) of " + people, x.kin(people, 0), -2);
            due("kin(" + people + ", the same) of " + people, x.kin(people, people), -2);
            due("kin(-1, -1) of " + people, x.kin(-1, -1), -2);
            due("kin(0, -1) of " + people, x.kin(0, -1), -2);
            due("kin(-1, 0) of " + people, x.kin(-1, 0), -2);
            due("one more", x.person(5, -1, -1), people < 8 ? people : -1);
            due("kin of the last", x.kin(people, people), people < 8 ? 0 : -2);
        }
        for (int far : FAR) {
            due("kin(" + far + ", 0)", x.kin(far, 0), -2);
            due("kin(0, " + far + ")", x.kin(0, far), -2);
        }
    }

    private static void ways() {
        by(0, "of two TOWNS: the least length together of ROADS that lead from one to the other (0: the same one; "
                + "-1 without any).");
        AnswersFirst x = new AnswersFirst();
        x.road(0, 1, 51);
        due("by the only road", x.way(0, 1), 51);
        x.road(1, 2, 25);
        x.road(2, 0, 26);
        due("round and straight are one as long", x.way(0, 1), 51);
        x.road(2, 0, 25);
        due("round is less", x.way(0, 1), 50);
        x.road(2, 0, 27);
        due("straight is less", x.way(1, 0), 51);
        due("one's own", x.way(0, 0), 0);
        due("without any", x.way(0, 3), -1);
        due("of two without any", x.way(5, 4), -1);

        by(6, "WAY of two TOWNS (-1: none).");
        x = new AnswersFirst();
        for (int i = 0; i < 5; i++) {
            due("way(0, 5) with " + i + " roads", x.way(0, 5), -1);
            x.road(i, i + 1, 99);
        }
        due("the longest", x.way(0, 5), 495);
        due("the longest back", x.way(5, 0), 495);
        x.road(5, 1, 1);
        due("by another road", x.way(0, 5), 100);
        due("by that", x.way(4, 0), 199);

        by(6, "-2 for others.");
        due("way(6, 0)", x.way(6, 0), -2);
        due("way(0, 6)", x.way(0, 6), -2);
        due("way(6, 6)", x.way(6, 6), -2);
        due("way(-1, 0)", x.way(-1, 0), -2);
        due("way(0, -1)", x.way(0, -1), -2);
        due("way(-1, -1)", x.way(-1, -1), -2);
        for (int far : FAR) {
            due("way(" + far + ", 0)", x.way(far, 0), -2);
            due("way(0, " + far + ")", x.way(0, far), -2);
        }
    }
}
