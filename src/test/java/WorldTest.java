/** Promises 1 to 6: a new object, things, people, roads. */
public final class WorldTest {
    private static final Check C = new Check();

    public static void main(String[] args) {
        newObject();
        things();
        people();
        roads();
        C.finish();
    }

    private static void newObject() {
        AnswersFirst x = new AnswersFirst();
        for (int what = 0; what < 14; what++) {
            C.due(1, "about(" + what + ")", x.about(what), 0);
        }
        C.due(1, "NONE", AnswersFirst.NONE, -1);
        C.due(1, "fault(0)", x.fault(0), -1);
        C.due(1, "played(0)", x.played(0), -2);
        C.due(1, "about(20)", x.about(20), -2000000);
        C.due(1, "about(30)", x.about(30), -2000000);
        x.thing(0, 7);
        x.person(3, -1, -1);
        x.road(0, 1, 5);
        C.due(1, "back() to the new object", x.back(), 0);
        C.due(1, "about(10)", x.about(10), 0);
        C.due(1, "about(1)", x.about(1), 0);
        C.due(1, "way(0, 1)", x.way(0, 1), -1);
    }

    private static void things() {
        AnswersFirst x = new AnswersFirst();
        C.due(2, "thing(0, 99)", x.thing(0, 99), true);
        C.due(2, "thing(3, 1)", x.thing(3, 1), true);
        C.due(2, "about(10)", x.about(10), 99);
        C.due(2, "about(13)", x.about(13), 1);
        C.due(2, "thing(0, 0)", x.thing(0, 0), true);
        C.due(2, "about(10) then", x.about(10), 0);
        C.due(2, "thing(4, 1)", x.thing(4, 1), false);
        C.due(2, "thing(-1, 1)", x.thing(-1, 1), false);
        C.due(2, "thing(3, 100)", x.thing(3, 100), false);
        C.due(2, "thing(3, -1)", x.thing(3, -1), false);
        C.due(2, "thing(least, greatest)", x.thing(Integer.MIN_VALUE, Integer.MAX_VALUE), false);
        C.due(2, "about(13) then", x.about(13), 1);
    }

    private static void people() {
        AnswersFirst x = new AnswersFirst();
        C.due(3, "a parent who isn't told", x.person(5, 0, -1), -1);
        C.due(3, "person(99, NONE, NONE)", x.person(99, -1, -1), 0);
        C.due(3, "oneself as a parent", x.person(5, 1, -1), -1);
        C.due(3, "person(0, NONE, 0)", x.person(0, -1, 0), 1);
        C.due(3, "parents that are one", x.person(5, 1, 1), -1);
        C.due(3, "age 100", x.person(100, -1, -1), -1);
        C.due(3, "age -1", x.person(-1, -1, -1), -1);
        C.due(3, "parent -2", x.person(5, -2, -1), -1);
        C.due(3, "person(4, 0, 1)", x.person(4, 0, 1), 2);
        C.due(3, "person(4, NONE, NONE)", x.person(4, -1, -1), 3);
        C.due(3, "about(32)", x.about(32), 4);
        // 0 - 1 - 2 - 0 in a ring, 3 alone
        C.due(5, "kin(0, 1)", x.kin(0, 1), 1);
        C.due(5, "kin(1, 0)", x.kin(1, 0), 1);
        C.due(5, "kin(0, 2)", x.kin(0, 2), 1);
        C.due(5, "kin(3, 3)", x.kin(3, 3), 0);
        C.due(5, "kin(3, 0)", x.kin(3, 0), -1);
        C.due(5, "kin(4, 0)", x.kin(4, 0), -2);
        C.due(5, "kin(0, -1)", x.kin(0, -1), -2);
        x.person(1, 2, 3);
        C.due(5, "kin(3, 0) by a child", x.kin(3, 0), 3);
        x.person(1, -1, -1);
        x.person(1, -1, -1);
        C.due(3, "the eighth", x.person(1, 4, -1), 7);
        C.due(5, "kin(0, 7)", x.kin(0, 7), 3);
        C.due(3, "the ninth", x.person(1, -1, -1), -1);
        C.due(3, "about(1)", x.about(1), 8);
    }

    private static void roads() {
        AnswersFirst x = new AnswersFirst();
        C.due(6, "way(5, 5)", x.way(5, 5), 0);
        C.due(6, "way(0, 5)", x.way(0, 5), -1);
        C.due(4, "road(0, 5, 99)", x.road(0, 5, 99), true);
        C.due(6, "way(5, 0)", x.way(5, 0), 99);
        C.due(4, "road(5, 0, 1)", x.road(5, 0, 1), true);
        C.due(6, "the latest counts", x.way(0, 5), 1);
        C.due(4, "road(0, 5, 50)", x.road(0, 5, 50), true);
        C.due(6, "a longer latest counts", x.way(0, 5), 50);
        C.due(4, "road(0, 0, 1)", x.road(0, 0, 1), false);
        C.due(4, "road(0, 6, 1)", x.road(0, 6, 1), false);
        C.due(4, "road(-1, 0, 1)", x.road(-1, 0, 1), false);
        C.due(4, "road(0, 1, 0)", x.road(0, 1, 0), false);
        C.due(4, "road(0, 1, 100)", x.road(0, 1, 100), false);
        C.due(6, "way(0, 1)", x.way(0, 1), -1);
        for (int i = 0; i < 5; i++) {
            x.road(i, i + 1, 9);
        }
        C.due(6, "over all towns", x.way(0, 5), 45);
        C.due(6, "way(5, 0)", x.way(5, 0), 45);
        C.due(6, "way(6, 0)", x.way(6, 0), -2);
        C.due(6, "way(0, -1)", x.way(0, -1), -2);
    }
}
