/** Trees of part V and promises 32 to 37. */
final class EdgesOfTrees extends Edge {
    static void all() {
        trees();
        kinds();
        fewest();
        shortest();
        shortestWritten();
        rarest();
        fair();
        unasked();
    }

    private static AnswersFirst things(int p, int q, int r, int s) {
        AnswersFirst x = new AnswersFirst();
        x.thing(0, p);
        x.thing(1, q);
        x.thing(2, r);
        x.thing(3, s);
        return x;
    }

    /** By leaves and value + 500: how many trees, joined one split after the other. */
    private static long[][] counted(int m, int... things) {
        long[][] counts = new long[6][1001];
        for (int number = 1; number <= m; number++) {
            counts[1][500 + number]++;
        }
        for (int thing : things) {
            counts[1][500 + thing]++;
        }
        for (int n = 2; n <= 5; n++) {
            for (int left = 1; left < n; left++) {
                for (int i = 0; i < 1001 * 1001; i++) {
                    int x = i / 1001 - 500;
                    int y = i % 1001 - 500;
                    long pairs = counts[left][x + 500] * counts[n - left][y + 500];
                    if (pairs != 0) {
                        add(counts[n], x + y, pairs);
                        add(counts[n], x - y, pairs);
                        add(counts[n], x * y, pairs);
                    }
                }
            }
        }
        return counts;
    }

    private static void add(long[] counts, int value, long pairs) {
        if (value >= -500 && value <= 500) {
            counts[value + 500] += pairs;
        }
    }

    private static void trees() {
        by(0, "==== V. TREES: of n LEAVES (1 to 5), each of the four THINGS (with its number) or a NUMBER 1 .. m (m 0 .. 9), joined "
                + "two and two by +, - or *;");
        AnswersFirst x = things(0, 5, 5, 99);
        int[] values = {-1, 0, 1, 5, 9, 10, 98, 99, 100};
        long[][] want = {{0, 1, 0, 2, 0, 0, 0, 1, 0}, {0, 1, 1, 2, 0, 0, 0, 1, 0}, {0, 1, 1, 3, 0, 0, 0, 1, 0},
            {0, 1, 1, 3, 1, 0, 0, 1, 0}};
        int[] greatest = {0, 1, 8, 9};
        for (int i = 0; i < 4; i++) {
            for (int j = 0; j < values.length; j++) {
                due("kinds(1, " + greatest[i] + ", " + values[j] + ")", x.kinds(1, greatest[i], values[j]), want[i][j]);
            }
        }
        x = things(0, 0, 0, 0);
        long[] shapes = {1, 1, 2, 5, 14};
        for (int n = 1; n <= 5; n++) {
            long all = shapes[n - 1] * Math.round(Math.pow(3, n - 1)) * Math.round(Math.pow(4, n));
            due("all trees of " + n, x.kinds(n, 0, 0), all);
        }
        x = things(7, 50, 90, 90);
        due("7 + 50, 50 + 7", x.kinds(2, 0, 57), 2);
        due("50 - 7", x.kinds(2, 0, 43), 1);
        due("7 - 50", x.kinds(2, 0, -43), 1);
        due("7 * 50, 50 * 7", x.kinds(2, 0, 350), 2);
        x.thing(0, 8);
        due("7 is gone", x.kinds(2, 0, 57), 0);
        due("8 * 50, 50 * 8", x.kinds(2, 0, 400), 2);

        x = things(0, 50, 10, 99);
        due("500", x.kinds(2, 0, 500), 2);
        due("-500", x.kinds(3, 0, -500), 6);
        x.thing(1, 51);
        due("500 is gone", x.kinds(2, 0, 500), 0);
        due("-500 is gone", x.kinds(3, 0, -500), 0);
        due("510 isn't there", x.kinds(2, 0, 499) + x.kinds(2, 0, 500), 0);

        by(0, "no part's value is above 500 or below -500;");
        x = things(50, 10, 0, 1);
        due("500", x.kinds(2, 0, 500), 2);
        due("-500: 0 - 500 in two ways, 0 - 50 or 0 - 10 times the other in four", x.kinds(3, 0, -500), 6);
        x = things(97, 6, 97, 97);
        due("582 - 97", x.kinds(3, 0, 485), 0);
        x = things(99, 5, 5, 5);
        due("495 - 5", x.kinds(3, 0, 490), 18);
        x = things(50, 10, 1, 1);
        due("501 - 2", x.kinds(5, 0, 499), counted(0, 50, 10, 1, 1)[5][999]);
        int[][] worlds = {{50, 10, 1, 1}, {99, 5, 1, 6}, {0, 25, 20, 2}, {21, 23, 22, 99}};
        for (int[] w : worlds) {
            long[][] counts = counted(1, w);
            x = things(w[0], w[1], w[2], w[3]);
            for (int n = 3; n <= 5; n++) {
                for (int v : new int[] {-500, -499, -498, 0, 1, 497, 498, 499, 500}) {
                    due("kinds(" + n + ", 1, " + v + ")", x.kinds(n, 1, v), counts[n][v + 500]);
                }
            }
        }

        by(0, "(x + y) + z is another one than x + (y + z), x + y than y + x.");
        x = things(7, 31, 59, 0);
        due("7 + 31", x.kinds(2, 0, 38), 2);
        due("7 + 31 + 59 in two shapes and six orders", x.kinds(3, 0, 97), 12);
        due("7 + 7 + 7", things(7, 90, 90, 90).kinds(3, 0, 21), 2);
    }

    private static void kinds() {
        by(0, "KINDS of a value v: how many of n LEAVES have it.");
        int[][] worlds = {{0, 1, 2, 3}, {9, 9, 8, 7}, {99, 98, 1, 0}};
        for (int i = 0; i < 3; i++) {
            int m = i * 4;
            long[][] counts = counted(m, worlds[i]);
            AnswersFirst x = things(worlds[i][0], worlds[i][1], worlds[i][2], worlds[i][3]);
            for (int n = 5; n >= 1; n--) {
                for (int v = -500; v <= 500; v += v == -499 || v == 498 ? 1 : 11 + n) {
                    due("kinds(" + n + ", " + m + ", " + v + ")", x.kinds(n, m, v), counts[n][v + 500]);
                }
                due("kinds(" + n + ", " + m + ", 500)", x.kinds(n, m, 500), counts[n][1000]);
            }
        }

        by(32, "KINDS.");
        AnswersFirst x = things(1, 1, 1, 1);
        due("kinds(1, 0, 1)", x.kinds(1, 0, 1), 4);
        due("kinds(5, 9, 0): the most", x.kinds(5, 9, 0), counted(9, 1, 1, 1, 1)[5][500]);
        due("kinds(5, 0, 500)", x.kinds(5, 0, 500), 0);
        due("kinds(5, 0, -500)", x.kinds(5, 0, -500), 0);

        by(32, "NONE for others (v -500 .. 500).");
        int[][] bad = {{0, 0, 0}, {6, 0, 0}, {-1, 0, 0}, {1, -1, 0}, {1, 10, 0}, {1, 0, 501}, {1, 0, -501}, {0, 10, 501}};
        for (int[] b : bad) {
            due("kinds(" + b[0] + ", " + b[1] + ", " + b[2] + ")", x.kinds(b[0], b[1], b[2]), -1);
        }
        for (int far : FAR) {
            due("kinds(" + far + ", 0, 0)", x.kinds(far, 0, 0), -1);
            due("kinds(1, " + far + ", 0)", x.kinds(1, far, 0), -1);
            due("kinds(1, 0, " + far + ")", x.kinds(1, 0, far), -1);
        }
        due("kinds(1, 9, 500)", x.kinds(1, 9, 500), 0);
        due("kinds(1, 9, -500)", x.kinds(1, 9, -500), 0);
    }

    private static void fewest() {
        by(0, "FEWEST LEAVES (1 to 5) for v; none.");
        AnswersFirst x = things(1, 1, 1, 1);
        int[] want = {-1, -1, 5, 4, 3, 2, 1, 2, 3, 4, 5, 5, -1, -1};
        for (int i = 0; i < want.length; i++) {
            due("fewest(0, " + (i - 5) + ")", x.fewest(0, i - 5), want[i]);
        }
        x = things(50, 10, 0, 7);
        due("500 by two", x.fewest(0, 500), 2);
        due("-500 by three", x.fewest(0, -500), 3);

        by(33, "FEWEST LEAVES.");
        x = things(99, 98, 97, 96);
        due("fewest(9, 9)", x.fewest(9, 9), 1);
        due("fewest(8, 9)", x.fewest(8, 9), 2);
        due("fewest(9, 10)", x.fewest(9, 10), 2);
        due("fewest(1, 5): 99 - 96 + 1 + 1", x.fewest(1, 5), 4);
        due("fewest(0, 0)", x.fewest(0, 0), 2);
        due("fewest(0, 99)", x.fewest(0, 99), 1);
        due("fewest(0, 95)", x.fewest(0, 95), 3);
        x.thing(3, 95);
        due("fewest(0, 95) then", x.fewest(0, 95), 1);

        by(33, "NONE: none, and for others.");
        x = things(1, 1, 1, 1);
        due("none: 7", x.fewest(0, 7), -1);
        due("none: -4", x.fewest(0, -4), -1);
        due("none: 500", x.fewest(0, 500), -1);
        due("none: -500", x.fewest(0, -500), -1);
        due("fewest(-1, 1)", x.fewest(-1, 1), -1);
        due("fewest(10, 1)", x.fewest(10, 1), -1);
        due("fewest(9, 501)", x.fewest(9, 501), -1);
        due("fewest(9, -501)", x.fewest(9, -501), -1);
        for (int far : FAR) {
            due("fewest(" + far + ", 1)", x.fewest(far, 1), -1);
            due("fewest(9, " + far + ")", x.fewest(9, far), -1);
        }
    }

    private static final int PLUS = 1000;
    private static final int MINUS = 1001;
    private static final int TIMES = 1002;
    private static final int P = 2000;
    private static final int Q = 2001;
    private static final int R = 2002;
    private static final int S = 2003;

    private static void written(AnswersFirst x, int m, int v, int... signs) {
        due("shortest(" + m + ", " + v + ", NONE)", x.shortest(m, v, -1), signs.length);
        for (int i = 0; i < signs.length; i++) {
            due("shortest(" + m + ", " + v + ", " + i + ")", x.shortest(m, v, i), signs[i]);
        }
        due("shortest(" + m + ", " + v + ", " + signs.length + ")", x.shortest(m, v, signs.length), -1);
    }

    private static void shortest() {
        by(0, "SHORTEST for v: of those of fewest LEAVES the one whose left part has fewest LEAVES");
        AnswersFirst x = things(1, 1, 1, 1);
        written(x, 0, 1, P);
        written(x, 0, 2, PLUS, P, P);
        written(x, 0, 4, PLUS, P, PLUS, P, PLUS, P, P);
        written(x, 0, 6, TIMES, PLUS, P, P, PLUS, P, PLUS, P, P);
        written(x, 0, -3, MINUS, P, PLUS, P, PLUS, P, PLUS, P, P);
        // 10 * (21 + 21), 21 * 21 - 21; then but 21 * 21 - 10
        written(things(21, 10, 25, 13), 0, 420, TIMES, Q, PLUS, P, P);
        written(things(21, 10, 25, 13), 0, 431, MINUS, TIMES, P, P, Q);
        written(things(50, 10, 1, 1), 0, 499, MINUS, TIMES, Q, P, R);
        // 7 + (7 - 6), 50 - 7 * 6, 7 + 7 - 6
        written(things(7, 6, 50, 40), 0, 8, PLUS, P, MINUS, P, Q);

        by(0, "then + ahead of - ahead of *");
        written(things(2, 3, 0, 0), 0, 6, PLUS, Q, Q);
        written(things(7, 3, 24, 90), 0, 21, MINUS, R, Q);
        written(things(7, 3, 25, 90), 0, 21, TIMES, Q, P);
        written(things(14, 7, 28, 2), 0, 21, PLUS, Q, P);

        by(0, "then whose left part's value is least, then whose right part's is");
        written(things(7, 3, 4, 6), 0, 10, PLUS, Q, P);
        written(things(20, 14, 10, 4), 0, 16, MINUS, P, S);
        written(things(20, 14, 11, 5), 0, 6, MINUS, R, S);
        written(things(50, 60, 30, 40), 0, -10, MINUS, R, S);
        written(things(8, 16, 7, 3), 0, 56, TIMES, R, P);
        written(things(5, 6, 7, 8), 0, 0, MINUS, P, P);
        written(things(5, 6, 7, 8), 1, 0, MINUS, 1, 1);

        by(0, "then whose left part comes first by these, then whose right part does;");
        // 97 * 2 * 2 for 388: 2 times what 194 is, by + ahead of *
        written(things(97, 2, 2, 97), 0, 388, TIMES, Q, PLUS, P, P);
        // 22 is 10 + 12 and 11 + 11 and 12 + 10, on either side
        written(things(11, 12, 10, 11), 0, 484, TIMES, PLUS, R, Q, PLUS, R, Q);
        written(things(7, 7, 7, 7), 0, 35, MINUS, TIMES, P, P, PLUS, P, P);
        written(things(21, 10, 25, 13), 0, -21, MINUS, Q, PLUS, Q, P);

        by(0, "of one LEAF: NUMBERS ahead of THINGS, the lowest: written out sign ahead of its two parts.");
        x = things(5, 5, 3, 3);
        written(x, 2, 3, R);
        written(x, 3, 3, 3);
        written(x, 4, 5, P);
        written(x, 5, 5, 5);
        written(x, 0, 8, PLUS, R, P);
        written(x, 3, 8, PLUS, 3, P);
        written(x, 9, 8, 8);
        written(x, 9, 9, 9);
        written(x, 8, 9, PLUS, 1, 8);
        written(things(0, 0, 0, 0), 9, 0, P);
        written(things(99, 0, 9, 9), 9, 0, Q);
        written(things(99, 0, 9, 10), 9, 10, S);
    }

    private static void shortestWritten() {
        by(34, "SHORTEST: how many signs and LEAVES (i NONE); the i-th: 1000 +, 1001 -, 1002 *, 2000 + a THING, or a NUMBER.");
        AnswersFirst x = things(1, 1, 1, 1);
        int[] values = {1, 2, 3, 4, 6};
        int[] lengths = {1, 3, 5, 7, 9};
        for (int i = 0; i < 5; i++) {
            due("shortest(0, " + values[i] + ", NONE)", x.shortest(0, values[i], -1), lengths[i]);
        }
        written(things(40, 50, 60, 70), 9, 45, PLUS, 5, P);
        written(things(40, 50, 60, 70), 4, 36, MINUS, P, 4);
        written(things(40, 50, 60, 70), 9, 450, TIMES, 9, Q);
        written(things(40, 50, 60, 70), 0, 70, S);
        written(things(40, 50, 60, 70), 1, 1, 1);

        by(34, "NONE: none, there is none such, and for others.");
        due("none: 7", x.shortest(0, 7, -1), -1);
        due("none: 7, the first", x.shortest(0, 7, 0), -1);
        due("the third of three", x.shortest(0, 2, 2), P);
        due("the fourth of three", x.shortest(0, 2, 3), -1);
        due("the ninth of nine", x.shortest(0, 6, 8), P);
        due("the tenth of nine", x.shortest(0, 6, 9), -1);
        due("i is -2", x.shortest(0, 2, -2), -1);
        due("m is -1", x.shortest(-1, 2, -1), -1);
        due("m is 10", x.shortest(10, 2, -1), -1);
        due("v is 501", x.shortest(9, 501, -1), -1);
        due("v is -501", x.shortest(9, -501, -1), -1);
        for (int far : FAR) {
            due("shortest(" + far + ", 2, 0)", x.shortest(far, 2, 0), -1);
            due("shortest(0, " + far + ", 0)", x.shortest(0, far, 0), -1);
            due("shortest(0, 2, " + far + ")", x.shortest(0, 2, far), -1);
        }
        x = things(50, 10, 0, 7);
        written(x, 0, 500, TIMES, Q, P);
        written(x, 0, -500, MINUS, R, TIMES, Q, P);
    }

    private static void rarest() {
        by(0, "RAREST: of values low .. high (-500 .. 500) that trees of n LEAVES have the one with fewest KINDS; of like ones "
                + "the least; none.");
        AnswersFirst x = things(3, 3, 5, 8);
        due("5 and 8 once, 3 twice", x.rarest(1, 0, -500, 500), 5);
        due("from 6 on", x.rarest(1, 0, 6, 500), 8);
        due("up to 4", x.rarest(1, 0, -500, 4), 3);
        due("just 8", x.rarest(1, 0, 8, 8), 8);
        due("up to 8", x.rarest(1, 0, 6, 8), 8);
        due("from 8 on", x.rarest(1, 0, 8, 9), 8);
        due("up to 7", x.rarest(1, 0, 6, 7), -1000);
        due("from 9 on", x.rarest(1, 0, 9, 500), -1000);
        due("with the number 5", x.rarest(1, 5, -500, 500), 1);
        due("with the number 5, from 3 on", x.rarest(1, 5, 3, 500), 4);
        long[][] counts = counted(2, 50, 10, 0, 3);
        x = things(50, 10, 0, 3);
        int[][] ranges = {{-500, 500}, {-500, -500}, {500, 500}, {-500, -499}, {499, 500}, {0, 0}, {1, 499}, {-499, -1}};
        for (int n = 1; n <= 5; n++) {
            for (int[] r : ranges) {
                int best = -1000;
                for (int v = r[0]; v <= r[1]; v++) {
                    long c = counts[n][v + 500];
                    best = c != 0 && (best == -1000 || c < counts[n][best + 500]) ? v : best;
                }
                due("rarest(" + n + ", 2, " + r[0] + ", " + r[1] + ")", x.rarest(n, 2, r[0], r[1]), best);
            }
        }

        by(35, "RAREST.");
        due("rarest(1, 0, 0, 50)", x.rarest(1, 0, 0, 50), 0);
        due("rarest(2, 0, 500, 500)", x.rarest(2, 0, 500, 500), 500);
        due("rarest(3, 0, -500, -500)", x.rarest(3, 0, -500, -500), -500);

        by(35, "-1000: none, and for others.");
        due("none", x.rarest(1, 0, 51, 500), -1000);
        due("low above high", x.rarest(1, 0, 1, 0), -1000);
        due("low above high by far", x.rarest(1, 0, 500, -500), -1000);
        due("n is 0", x.rarest(0, 0, 0, 50), -1000);
        due("n is 6", x.rarest(6, 0, 0, 50), -1000);
        due("m is -1", x.rarest(1, -1, 0, 50), -1000);
        due("m is 10", x.rarest(1, 10, 0, 50), -1000);
        due("low is -501", x.rarest(1, 0, -501, 50), -1000);
        due("high is 501", x.rarest(1, 0, 0, 501), -1000);
        for (int far : FAR) {
            due("rarest(" + far + ", 0, 0, 50)", x.rarest(far, 0, 0, 50), -1000);
            due("rarest(1, " + far + ", 0, 50)", x.rarest(1, far, 0, 50), -1000);
            due("rarest(1, 0, " + far + ", 50)", x.rarest(1, 0, far, 50), -1000);
            due("rarest(1, 0, 0, " + far + ")", x.rarest(1, 0, 0, far), -1000);
        }
    }

    private static void fair() {
        by(0, "FAIR for a PUPIL: of values low .. high the one whose FEWEST LEAVES (by m as their greatest NUMBER, 9 at most) "
                + "are most, but no more than that one's LEAVES; of like ones the least; none.");
        AnswersFirst x = things(1, 1, 1, 1);
        for (int leaves = 1; leaves <= 6; leaves++) {
            due("a pupil", x.pupil(5, 0, 0, 0, leaves == 6 ? 16 : leaves), leaves - 1);
        }
        int[] all = {1, 0, -1, -2, -3, -3};
        int[] above = {1, 2, 3, 4, 5, 5};
        int[] six = {-1000, -1000, -1000, -1000, 6, 6};
        for (int i = 0; i < 6; i++) {
            due("fair(" + i + ", -500, 500)", x.fair(i, -500, 500), all[i]);
            due("fair(" + i + ", 1, 500)", x.fair(i, 1, 500), above[i]);
            due("fair(" + i + ", 6, 6)", x.fair(i, 6, 6), six[i]);
            due("fair(" + i + ", 7, 500)", x.fair(i, 7, 500), -1000);
            due("fair(" + i + ", 0, 1)", x.fair(i, 0, 1), i == 0 ? 1 : 0);
        }
        // the numbers that one knows: none, 8, 9, and no more than 9 of 10 and 99
        int[] numbers = {0, 8, 9, 10, 99};
        int[] eight = {-1000, 8, 8, 8, 8};
        int[] nine = {-1000, -1000, 9, 9, 9};
        x = things(50, 50, 50, 50);
        for (int i = 0; i < 5; i++) {
            due("a pupil", x.pupil(5, 0, numbers[i], 0, 1), i);
            due("fair(" + i + ", 8, 8)", x.fair(i, 8, 8), eight[i]);
            due("fair(" + i + ", 9, 9)", x.fair(i, 9, 9), nine[i]);
            due("fair(" + i + ", 10, 49)", x.fair(i, 10, 49), -1000);
            due("fair(" + i + ", 50, 50)", x.fair(i, 50, 50), 50);
        }

        by(36, "FAIR.");
        x = things(50, 10, 0, 0);
        x.pupil(5, 0, 0, 0, 2);
        x.pupil(5, 0, 0, 0, 3);
        due("fair(0, 500, 500)", x.fair(0, 500, 500), 500);
        due("fair(0, -500, -500)", x.fair(0, -500, -500), -1000);
        due("fair(1, -500, -500)", x.fair(1, -500, -500), -500);
        due("fair(0, 499, 500)", x.fair(0, 499, 500), 500);
        due("fair(0, 50, 51)", x.fair(0, 50, 51), 50);

        by(36, "-1000: none, and for others.");
        due("none", x.fair(0, 1, 9), -1000);
        due("low above high", x.fair(0, 51, 50), -1000);
        due("fair(2, 0, 50)", x.fair(2, 0, 50), -1000);
        due("fair(-1, 0, 50)", x.fair(-1, 0, 50), -1000);
        due("low is -501", x.fair(0, -501, 50), -1000);
        due("high is 501", x.fair(0, 0, 501), -1000);
        for (int far : FAR) {
            due("fair(" + far + ", 0, 50)", x.fair(far, 0, 50), -1000);
            due("fair(0, " + far + ", 50)", x.fair(0, far, 50), -1000);
            due("fair(0, 0, " + far + ")", x.fair(0, 0, far), -1000);
        }
    }

    private static void unasked() {
        by(0, "UNASKED: the least value from 0 to 500 that no tree of up to n LEAVES has; none.");
        AnswersFirst x = things(1, 1, 1, 1);
        int[] want = {0, 3, 4, 5, 7};
        for (int n = 1; n <= 5; n++) {
            due("unasked(" + n + ", 0)", x.unasked(n, 0), want[n - 1]);
        }
        x = things(0, 1, 2, 3);
        due("unasked(1, 0)", x.unasked(1, 0), 4);
        due("unasked(1, 4)", x.unasked(1, 4), 5);
        due("unasked(1, 9)", x.unasked(1, 9), 10);
        x.thing(1, 10);
        due("unasked(1, 9) with 10", x.unasked(1, 9), 11);
        x.thing(0, 1);
        due("unasked(1, 9) without 0", x.unasked(1, 9), 0);
        due("unasked(2, 9) without 0", x.unasked(2, 9), 22);

        by(37, "UNASKED.");
        x = things(5, 5, 5, 5);
        due("unasked(1, 0)", x.unasked(1, 0), 0);
        due("unasked(2, 0)", x.unasked(2, 0), 1);

        by(37, "NONE: none, and for others.");
        AnswersFirst y = things(97, 61, 40, 23);
        due("none of four leaves", y.unasked(4, 9), -1);
        due("one of three", y.unasked(3, 9), 173);
        due("the greatest of all", things(15, 41, 1, 7).unasked(5, 2), 500);
        due("as it is counted", missing(5, counted(2, 15, 41, 1, 7)), 500);
        due("one below it", things(24, 14, 39, 21).unasked(4, 6), 499);
        due("as it is counted", missing(4, counted(6, 24, 14, 39, 21)), 499);
        due("n is 0", x.unasked(0, 0), -1);
        due("n is 6", x.unasked(6, 0), -1);
        due("m is -1", x.unasked(1, -1), -1);
        due("m is 10", x.unasked(1, 10), -1);
        for (int far : FAR) {
            due("unasked(" + far + ", 0)", x.unasked(far, 0), -1);
            due("unasked(1, " + far + ")", x.unasked(1, far), -1);
        }
    }

    private static int missing(int most, long[][] counts) {
        for (int v = 0; v <= 500; v++) {
            boolean there = false;
            for (int n = 1; n <= most; n++) {
                there = there || counts[n][v + 500] != 0;
            }
            if (!there) {
                return v;
            }
        }
        return -1;
    }
}
