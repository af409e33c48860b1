import java.util.ArrayList;
import java.util.List;
import java.util.Random;

/** Runs of drawn calls: the class and the model must answer alike. Arguments: how many runs, the first seed. */
public final class ModelTest {
    private static final Check CHECK = new Check();
    private final Random random;
    private final AnswersFirst x = new AnswersFirst();
    private final Model y = new Model();
    private final List<String> log = new ArrayList<>();
    private final List<Tree> trees = new ArrayList<>();

    private ModelTest(long seed) {
        // neighbouring seeds would draw much alike at first
        random = new Random(seed * 0x9E3779B97F4A7C15L);
    }

    public static void main(String[] args) {
        int runs = args.length > 0 ? Integer.parseInt(args[0]) : 120;
        long first = args.length > 1 ? Long.parseLong(args[1]) : 1;
        for (long seed = first; seed < first + runs && CHECK.wrong() == 0; seed++) {
            ModelTest run = new ModelTest(seed);
            run.run();
            if (CHECK.wrong() != 0) {
                System.out.println("seed " + seed);
                run.log.forEach(System.out::println);
            }
        }
        CHECK.finish();
    }

    // ---- drawn questions

    private static final class Tree {
        final int kind;
        final int value;
        final Tree[] parts;

        Tree(int kind, int value, Tree... parts) {
            this.kind = kind;
            this.value = value;
            this.parts = parts;
        }
    }

    private Tree draw(int depth) {
        int kind = depth <= 0 ? random.nextInt(2) : random.nextInt(13);
        switch (kind) {
            case 0:
                return new Tree(0, random.nextInt(5) == 0 ? random.nextInt(101) : random.nextInt(8));
            case 1:
                return new Tree(1, random.nextInt(random.nextInt(4) + 1));
            case 2:
            case 11:
                return new Tree(2, 0, draw(depth - 1), draw(depth - 1));
            case 3:
            case 12:
                return new Tree(3, 0, draw(depth - 1), draw(depth - 1));
            case 4:
            case 5:
                return new Tree(random.nextInt(3) == 0 ? kind : 11, 0, draw(depth - 1), draw(depth - 1));
            case 10:
                return new Tree(10, random.nextInt(6), draw(depth - 1), draw(depth - 1), draw(depth - 1),
                        random.nextInt(2) == 0 ? draw(depth - 1) : draw(0));
            default:
                return new Tree(kind, 0, draw(depth - 1), draw(depth - 1));
        }
    }

    private boolean chance(int in) {
        return random.nextInt(in) == 0;
    }

    private static final String[] CMP = {"<", "<=", ">", ">=", "=", "#"};
    private static final int[] TURNED = {2, 3, 0, 1, 4, 5};
    private static final String[] NAMES = {"age", "kids", "kin", "way", "more", "less"};

    /** Writes a tree, now and then in other words. */
    private String write(Tree t, int vary) {
        String text = writePlain(t, vary);
        if (vary > 0 && chance(9)) {
            text = "(" + text + "+0)";
        } else if (vary > 0 && chance(9)) {
            text = "(0+" + text + ")";
        } else if (vary > 0 && chance(9)) {
            text = "(" + text + ")*1";
        } else if (vary > 0 && chance(12)) {
            text = "more(" + text + "," + text + ")";
        } else if (vary > 0 && chance(12)) {
            text = "if p<1?" + text + ":" + text + " end";
        } else if (chance(6)) {
            text = "(" + text + ")";
        }
        return text;
    }

    private String brackets(Tree t, int vary, int loosest) {
        String text = write(t, vary);
        boolean sum = text.indexOf('+') >= 0 || text.indexOf('-') >= 0 || text.indexOf('*') >= 0;
        return sum && (loosest == 0 || chance(2)) ? "(" + text + ")" : text;
    }

    private String writePlain(Tree t, int vary) {
        boolean turn = vary > 0 && chance(2);
        Tree[] p = t.parts;
        switch (t.kind) {
            case 0:
                return vary > 0 && t.value > 1 && t.value < 99 && chance(6)
                        ? "(" + (t.value - 1) + "+1)" : "" + t.value;
            case 1:
                return "" + "pqrs".charAt(t.value);
            case 2:
            case 3: {
                String a = brackets(p[turn ? 1 : 0], vary, t.kind == 2 ? random.nextInt(2) : 0);
                String b = brackets(p[turn ? 0 : 1], vary, t.kind == 2 ? random.nextInt(2) : 0);
                return a + (t.kind == 2 ? "+" : "*") + b;
            }
            case 11:
                return brackets(p[0], vary, 1) + "-" + brackets(p[1], vary, 0);
            case 4:
            case 5:
                return NAMES[t.kind - 4] + "(" + write(p[0], vary) + ")";
            case 10: {
                int cmp = turn ? TURNED[t.value] : t.value;
                return "if " + write(p[turn ? 1 : 0], vary) + CMP[cmp] + write(p[turn ? 0 : 1], vary)
                        + "?" + write(p[2], vary) + ":" + write(p[3], vary) + (chance(2) ? " end" : "\nend");
            }
            default:
                return NAMES[t.kind - 4] + "(" + write(p[turn ? 1 : 0], vary) + ","
                        + write(p[turn ? 0 : 1], vary) + ")";
        }
    }

    private String question() {
        if (!trees.isEmpty() && !chance(3)) {
            return write(trees.get(random.nextInt(trees.size())), random.nextInt(3));
        }
        Tree t = draw(random.nextInt(4));
        trees.add(t);
        return write(t, 0);
    }

    private String clause() {
        switch (random.nextInt(14)) {
            case 0:
                return "let " + "pqrs".charAt(random.nextInt(4)) + " be " + number(0, 10, 99) + ";";
            case 1:
                return "born " + number(0, 50, 99) + ";";
            case 2:
                return "born " + number(0, 9, 99) + " of " + number(0, 3, 7) + " and " + number(0, 4, 7) + ";";
            case 3:
                return "path " + number(0, 5, 5) + " to " + number(0, 5, 5) + " long " + number(1, 9, 99) + ";";
            case 4:
                return "say " + number(0, 255, 255) + ";";
            case 5:
                return "pupil " + number(1, 9, 99) + " knows " + words() + " to " + number(0, 99, 99)
                        + " deep " + number(0, 8, 8) + " long " + number(1, 16, 16) + ";";
            case 6:
                return "answer " + number(0, 9, 9999) + ";";
            case 7:
                return "asks " + number(0, 5, 5) + " " + number(0, 11, 11) + ";";
            case 8:
                return "morning;";
            default:
                return "ask " + question() + ";";
        }
    }

    private int number(int low, int likely, int high) {
        if (chance(40)) {
            return low - 1 < 0 ? high + 1 : low - 1;
        }
        return chance(6) ? low + random.nextInt(high - low + 1) : low + random.nextInt(likely - low + 1);
    }

    private String words() {
        return "" + (chance(2) ? 32767 : chance(30) ? 32768 : random.nextInt(32768) | random.nextInt(32768));
    }

    private String drawnText() {
        StringBuilder text = new StringBuilder();
        int clauses = chance(12) ? 26 : random.nextInt(9);
        for (int i = 0; i < clauses; i++) {
            String next = chance(6) ? " " + clause().replace(" ", "  ") : clause();
            if (text.length() + next.length() <= 300) {
                text.append(next);
            }
        }
        if (chance(3) && text.length() > 0) {
            spoil(text);
        }
        return text.toString();
    }

    private void spoil(StringBuilder text) {
        int at = random.nextInt(text.length());
        String bytes = "()+-*<>=#,;?: \n0189pqrsaefikn/!\t\u00e9\0";
        switch (random.nextInt(4)) {
            case 0:
                text.setCharAt(at, bytes.charAt(random.nextInt(bytes.length())));
                break;
            case 1:
                text.deleteCharAt(at);
                break;
            case 2:
                text.setLength(at);
                break;
            default:
                String more = chance(2) ? "((((" : chance(2) ? "1+2+3+" : "" + bytes.charAt(random.nextInt(bytes.length()));
                if (text.length() + more.length() <= 300) {
                    text.insert(at, more);
                }
        }
    }

    // ---- drawn calls

    private void due(int promise, String call, long got, long want) {
        log.add(call + " -> " + got);
        CHECK.due(promise, call, got, want);
    }

    private void due(int promise, String call, boolean got, boolean want) {
        due(promise, call, got ? 1L : 0L, want ? 1L : 0L);
    }

    private int in(int low, int high) {
        if (chance(25)) {
            int[] odd = {low - 1, high + 1, Integer.MIN_VALUE, Integer.MAX_VALUE, -2, 1000};
            return odd[random.nextInt(odd.length)];
        }
        return low + random.nextInt(Math.max(1, high - low + 1));
    }

    private int question(boolean any) {
        return any ? in(0, 11) : in(0, Math.max(0, y.s.questions.size() - 1));
    }

    private int pupil() {
        return in(0, Math.max(0, y.s.pupils.size() - 1));
    }

    /** Questions that all come to 5 where p is 2 and q is 3, many of them the same in other words. */
    private static final String[] FIVES = {"p+q", "q+p", "5", "2+3", "3+2", "(p+q)*1", "5*1", "5+0", "0+5",
        "more(5,p)", "more(p,5)", "more(5,5)", "less(9,5)", "less(5,9)", "if p<q?5:5end", "if q>p?5:0end",
        "if p<q?5:0end", "p*q-1", "q*p-1", "10-5", "p+p+1", "1+p+p", "1+(p+p)", "p-(0-q)", "8-q", "q+2", "2+q"};

    private void openSchool() {
        read("let p be 2;let q be 3;answer 5;say " + number(0, 255, 255) + ";");
        for (int i = 0; i < 2; i++) {
            StringBuilder text = new StringBuilder();
            for (int k = random.nextInt(4) + 3; k > 0; k--) {
                text.append("ask ").append(FIVES[random.nextInt(FIVES.length)]).append(";");
            }
            read(text.toString());
        }
        for (int i = random.nextInt(6); i >= 0; i--) {
            int w = chance(2) ? 32767 : random.nextInt(32768) | random.nextInt(32768) | 16;
            int n = random.nextInt(12);
            int d = random.nextInt(3);
            int l = 1 + random.nextInt(4);
            due(13, "pupil", x.pupil(i + 1, w, n, d, l), y.pupil(i + 1, w, n, d, l));
        }
        due(44, "image()", x.image(), y.image());
    }

    private void runSchool() {
        openSchool();
        for (int call = 0; call < 300 && CHECK.wrong() == 0; call++) {
            switch (random.nextInt(9)) {
                case 0:
                case 1:
                case 2:
                    asking();
                    break;
                case 3:
                    planning();
                    due(14, "answer(5)", x.answer(5), y.answer(5));
                    break;
                case 4:
                case 5:
                    planning();
                    break;
                case 6:
                    hearing();
                    break;
                case 7:
                    due(26, "undo()", x.undo(), y.undo());
                    break;
                default:
                    if (chance(3)) {
                        due(44, "image()", x.image(), y.image());
                    } else {
                        due(45, "back()", x.back(), y.back());
                    }
            }
        }
    }

    private void run() {
        if (chance(2)) {
            runSchool();
            return;
        }
        for (int i = 0; i < 5 && random.nextInt(8) != 0; i++) {
            readText();
        }
        for (int call = 0; call < 330 && CHECK.wrong() == 0; call++) {
            switch (random.nextInt(5)) {
                case 0:
                    world();
                    break;
                case 1:
                    asking();
                    break;
                case 2:
                    looking();
                    break;
                case 3:
                    planning();
                    break;
                default:
                    hearing();
            }
        }
        for (int what = -1; what < 50; what++) {
            due(46, "about(" + what + ")", x.about(what), y.about(what));
        }
    }

    private void readText() {
        read(drawnText());
    }

    private void read(String text) {
        log.add("[" + text + "]");
        Check.type(x, text);
        y.tape.setLength(0);
        y.tape.append(text);
        due(46, "about(9)", x.about(9), y.about(9));
        int got = x.text();
        due(9, "text()", got, y.text());
        due(10, "fault(0)", x.fault(0), y.fault(0));
        due(10, "fault(1)", x.fault(1), y.fault(1));
        due(46, "about(9)", x.about(9), y.about(9));
        if (got >= 0) {
            due(11, "played(" + got + ")", x.played(got), y.played(got));
        }
    }

    private void world() {
        int a = in(0, 5);
        int b = in(0, 5);
        switch (random.nextInt(11)) {
            case 0:
                if (chance(3)) {
                    int n = in(0, chance(4) ? 99 : 9);
                    due(2, "thing(" + a + "," + n + ")", x.thing(a, n), y.thing(a, n));
                }
                break;
            case 1: {
                int age = in(0, 99);
                int one = in(-1, y.s.people.size() - 1);
                int other = in(-1, y.s.people.size() - 1);
                due(3, "person(" + age + "," + one + "," + other + ")", x.person(age, one, other),
                        y.person(age, one, other));
                break;
            }
            case 2: {
                int l = in(1, 99);
                due(4, "road(" + a + "," + b + "," + l + ")", x.road(a, b, l), y.road(a, b, l));
                break;
            }
            case 3:
                a = in(0, y.s.people.size() - 1);
                b = in(0, y.s.people.size() - 1);
                due(5, "kin(" + a + "," + b + ")", x.kin(a, b), y.kin(a, b));
                break;
            case 4:
                due(6, "way(" + a + "," + b + ")", x.way(a, b), y.way(a, b));
                break;
            case 5:
            case 6:
                readText();
                break;
            case 7: {
                int t = in(0, 3);
                due(11, "played(" + t + ")", x.played(t), y.played(t));
                break;
            }
            case 8:
                if (chance(2)) {
                    due(44, "image()", x.image(), y.image());
                }
                break;
            case 9:
                due(45, "back()", x.back(), y.back());
                break;
            default: {
                int n = in(0, 300);
                due(7, "feed", x.feed(n, -n, a, b, 7), y.feed(n, -n, a, b, 7));
                due(8, "end(" + n + ")", x.end(n), y.end(n));
                due(10, "fault(" + a + ")", x.fault(a), y.fault(a));
            }
        }
    }

    private void asking() {
        int p = pupil();
        int q = question(false);
        String pq = "(" + p + "," + q + ")";
        switch (random.nextInt(10)) {
            case 0: {
                int bits = chance(3) ? 1 << random.nextInt(8) : in(0, 255);
                due(12, "equalities(" + bits + ")", x.equalities(bits), y.equalities(bits));
                break;
            }
            case 1: {
                int age = in(1, 9);
                int w = chance(2) ? 32767 : in(0, 32767);
                int n = in(0, 99);
                int d = in(0, 8);
                int l = in(1, 16);
                due(13, "pupil(" + age + "," + w + "," + n + "," + d + "," + l + ")", x.pupil(age, w, n, d, l),
                        y.pupil(age, w, n, d, l));
                break;
            }
            case 2: {
                int v = chance(2) || y.s.questions.isEmpty() ? in(-5, 9) : y.of(random.nextInt(y.s.questions.size()), 0);
                v = chance(12) ? in(-1000000, 1000000) : v;
                due(14, "answer(" + v + ")", x.answer(v), y.answer(v));
                break;
            }
            case 3:
            case 4:
                due(21, "ask" + pq, x.ask(p, q), y.ask(p, q));
                break;
            case 5: {
                int seed = chance(2) ? -1 : in(0, 9999);
                due(24, "morning(" + seed + ")", x.morning(seed), y.morning(seed));
                for (int i = -1; i < 7; i++) {
                    due(27, "asked(" + i + ", false)", x.asked(i, false), y.asked(i, false));
                    due(27, "asked(" + i + ", true)", x.asked(i, true), y.asked(i, true));
                }
                break;
            }
            case 6:
                due(26, "undo()", x.undo(), y.undo());
                break;
            default:
                due(22, "why" + pq, x.why(p, q), y.why(p, q));
                due(23, "barred(" + q + ")", x.barred(q), y.barred(q));
                due(25, "stuck()", x.stuck(), y.stuck());
                due(31, "left(" + p + ")", x.left(p), y.left(p));
        }
    }

    private void looking() {
        int a = question(false);
        int b = question(chance(9));
        String ab = "(" + a + "," + b + ")";
        int what = in(0, 4);
        int p = pupil();
        due(15, "of(" + a + "," + what + ")", x.of(a, what), y.of(a, what));
        due(16, "alike" + ab, x.alike(a, b), y.alike(a, b));
        due(17, "nearly" + ab, x.nearly(a, b), y.nearly(a, b));
        due(19, "can", x.can(p, a), y.can(p, a));
        due(20, "lacks(" + p + "," + a + ")", x.lacks(p, a), y.lacks(p, a));
        if (chance(3)) {
            int t = in(0, 3);
            due(18, "parted(" + a + "," + b + "," + t + ")", x.parted(a, b, t), y.parted(a, b, t));
        }
        what = in(0, 47);
        due(46, "about(" + what + ")", x.about(what), y.about(what));
    }

    private void planning() {
        int i = in(-1, 5);
        int p = pupil();
        int o = pupil();
        switch (random.nextInt(10)) {
            case 0:
            case 1:
                due(28, "order(" + i + ")", x.order(i), y.order(i));
                break;
            case 2:
                due(29, "shut()", x.shut(), y.shut());
                break;
            case 3:
            case 4:
            case 5: {
                boolean first = chance(2);
                due(30, "game(" + p + "," + o + "," + first + ")", x.game(p, o, first), y.game(p, o, first));
                break;
            }
            default:
                if (chance(3)) {
                    counting(p);
                }
        }
    }

    private void counting(int p) {
        int n = in(1, 4 + random.nextInt(2));
        int m = in(0, chance(3) ? 9 : 3);
        int v = in(-500, 500);
        v = chance(2) ? v / 20 : chance(6) ? (chance(2) ? 500 : -500) : v;
        int w = in(-500, 500);
        switch (random.nextInt(6)) {
            case 0:
                due(32, "kinds(" + n + "," + m + "," + v + ")", x.kinds(n, m, v), y.kinds(n, m, v));
                break;
            case 1:
                due(33, "fewest(" + m + "," + v + ")", x.fewest(m, v), y.fewest(m, v));
                break;
            case 2:
                for (int i = -2; i < 10; i++) {
                    due(34, "shortest(" + m + "," + v + "," + i + ")", x.shortest(m, v, i), y.shortest(m, v, i));
                }
                break;
            case 3:
                due(35, "rarest(" + n + "," + m + "," + v + "," + w + ")", x.rarest(n, m, v, w), y.rarest(n, m, v, w));
                break;
            case 4:
                due(36, "fair(" + p + "," + v + "," + w + ")", x.fair(p, v, w), y.fair(p, v, w));
                break;
            default:
                due(37, "unasked(" + n + "," + m + ")", x.unasked(n, m), y.unasked(n, m));
        }
    }

    private void hearing() {
        int p = pupil();
        int q = question(false);
        switch (random.nextInt(9)) {
            case 0:
            case 1:
                due(38, "hear(" + p + "," + q + ")", x.hear(p, q), y.hear(p, q));
                break;
            case 2: {
                int i = chance(2) ? -1 : in(-1, chance(2) ? 10000 : 30);
                due(39, "worlds(" + i + ")", x.worlds(i), y.worlds(i));
                break;
            }
            case 3:
                due(40, "knew(" + p + ")", x.knew(p), y.knew(p));
                break;
            case 4:
            case 5: {
                int v = chance(2) || y.s.questions.isEmpty() ? in(-1, 4) : y.of(random.nextInt(y.s.questions.size()), 0);
                due(41, "tell(" + q + "," + v + ")", x.tell(q, v), y.tell(q, v));
                break;
            }
            case 6:
                due(42, "lies()", x.lies(), y.lies());
                break;
            case 7:
                due(43, "clash()", x.clash(), y.clash());
                break;
            default:
                if (chance(5)) {
                    due(38, "hear(-1)", x.hear(-1, q), y.hear(-1, q));
                    due(41, "tell(-1)", x.tell(-1, p), y.tell(-1, p));
                }
        }
    }
}
