import java.util.ArrayList;
import java.util.Arrays;
import java.util.List;

/** Promises 32 to 37: trees, tried one by one. */
public final class TreesTest {
    private static final Check C = new Check();

    /** A tree as it is written out, with its value. */
    private static final class Tree {
        final int leaves;
        final int leftLeaves;
        final int sign;
        final int value;
        final Tree left;
        final Tree right;

        Tree(int leaf, int value) {
            this.leaves = 1;
            this.leftLeaves = 0;
            this.sign = leaf;
            this.value = value;
            this.left = null;
            this.right = null;
        }

        Tree(int sign, Tree left, Tree right) {
            this.leaves = left.leaves + right.leaves;
            this.leftLeaves = left.leaves;
            this.sign = sign;
            this.value = sign == 0 ? left.value + right.value : sign == 1 ? left.value - right.value : left.value * right.value;
            this.left = left;
            this.right = right;
        }

        static int compare(Tree a, Tree b) {
            if (a.left == null || b.left == null) {
                return Integer.compare(a.sign, b.sign);
            }
            int[] x = {a.leftLeaves, a.sign, a.left.value, a.right.value};
            int[] y = {b.leftLeaves, b.sign, b.left.value, b.right.value};
            int c = Arrays.compare(x, y);
            c = c != 0 ? c : compare(a.left, b.left);
            return c != 0 ? c : compare(a.right, b.right);
        }

        void write(List<Integer> out) {
            out.add(left == null ? sign : 1000 + sign);
            if (left != null) {
                left.write(out);
                right.write(out);
            }
        }
    }

    public static void main(String[] args) {
        allTrees(new int[] {2, 3, 0, 0}, 0, 4);
        allTrees(new int[] {2, 3, 0, 0}, 2, 3);
        allTrees(new int[] {7, 7, 7, 7}, 1, 3);
        allTrees(new int[] {99, 50, 1, 13}, 9, 3);
        allTrees(new int[] {99, 98, 97, 96}, 0, 4);
        allTrees(new int[] {0, 0, 0, 0}, 0, 4);
        allTrees(new int[] {25, 20, 4, 1}, 1, 4);
        edges();
        atOnce();
        fives();
        whole();
        C.finish();
    }

    private static List<List<Tree>> trees(int[] things, int m, int most) {
        List<List<Tree>> all = new ArrayList<>();
        List<Tree> ones = new ArrayList<>();
        for (int i = 1; i <= m; i++) {
            ones.add(new Tree(i, i));
        }
        for (int t = 0; t < 4; t++) {
            ones.add(new Tree(2000 + t, things[t]));
        }
        all.add(List.of());
        all.add(ones);
        for (int n = 2; n <= most; n++) {
            List<Tree> some = new ArrayList<>();
            for (int l = 1; l < n; l++) {
                for (Tree a : all.get(l)) {
                    for (Tree b : all.get(n - l)) {
                        for (int sign = 0; sign < 3; sign++) {
                            Tree t = new Tree(sign, a, b);
                            if (Math.abs(t.value) <= 500) {
                                some.add(t);
                            }
                        }
                    }
                }
            }
            all.add(some);
        }
        return all;
    }

    private static void allTrees(int[] things, int m, int most) {
        AnswersFirst x = new AnswersFirst();
        for (int t = 0; t < 4; t++) {
            x.thing(t, things[t]);
        }
        List<List<Tree>> all = trees(things, m, most);
        long[][] counts = new long[most + 1][1001];
        Tree[] first = new Tree[1001];
        for (int n = 1; n <= most; n++) {
            for (Tree t : all.get(n)) {
                int v = t.value + 500;
                counts[n][v]++;
                if (first[v] == null || first[v].leaves == n && Tree.compare(t, first[v]) < 0) {
                    first[v] = t;
                }
            }
        }
        String of = " of " + Arrays.toString(things) + " and " + m;
        for (int v = -500; v <= 500; v++) {
            for (int n = 1; n <= most; n++) {
                C.due(32, "kinds(" + n + ", " + v + ")" + of, x.kinds(n, m, v), counts[n][v + 500]);
            }
            if (first[v + 500] != null) {
                written(x, m, v, first[v + 500], of);
            } else {
                int fewest = x.fewest(m, v);
                C.due(33, "fewest(" + v + ")" + of, fewest == -1 || fewest > most, true);
            }
        }
        ranges(x, m, most, counts, first, of);
    }

    private static void written(AnswersFirst x, int m, int v, Tree want, String of) {
        C.due(33, "fewest(" + v + ")" + of, x.fewest(m, v), want.leaves);
        List<Integer> out = new ArrayList<>();
        want.write(out);
        C.due(34, "shortest(" + v + ", NONE)" + of, x.shortest(m, v, -1), out.size());
        for (int i = 0; i < out.size(); i++) {
            C.due(34, "shortest(" + v + ", " + i + ")" + of, x.shortest(m, v, i), out.get(i));
        }
        C.due(34, "shortest(" + v + ") beyond" + of, x.shortest(m, v, out.size()), -1);
        C.due(34, "shortest(" + v + ", -2)" + of, x.shortest(m, v, -2), -1);
    }

    private static void ranges(AnswersFirst x, int m, int most, long[][] counts, Tree[] first, String of) {
        int[][] ranges = {{-500, 500}, {0, 500}, {-500, -1}, {3, 3}, {10, 60}, {5, 4}};
        for (int leaves = 1; leaves <= most; leaves++) {
            int pupil = x.pupil(9, 0, m == 9 ? 99 : m, 0, leaves);
            for (int[] r : ranges) {
                int rarest = -1000;
                int fair = -1000;
                int longest = 0;
                for (int v = r[0]; v <= r[1]; v++) {
                    long c = counts[leaves][v + 500];
                    rarest = c > 0 && (rarest == -1000 || c < counts[leaves][rarest + 500]) ? v : rarest;
                    int n = first[v + 500] == null ? 99 : first[v + 500].leaves;
                    fair = n <= leaves && n > longest ? v : fair;
                    longest = n <= leaves ? Math.max(n, longest) : longest;
                }
                String range = "(" + leaves + ", " + r[0] + ", " + r[1] + ")" + of;
                C.due(35, "rarest" + range, x.rarest(leaves, m, r[0], r[1]), rarest);
                C.due(36, "fair" + range, x.fair(pupil, r[0], r[1]), fair);
            }
            int unasked = -1;
            for (int v = 500; v >= 0; v--) {
                unasked = first[v + 500] == null || first[v + 500].leaves > leaves ? v : unasked;
            }
            C.due(37, "unasked(" + leaves + ")" + of, x.unasked(leaves, m), unasked);
        }
    }

    private static void edges() {
        AnswersFirst x = new AnswersFirst();
        x.pupil(9, 0, 9, 0, 9);
        int[][] bad = {{0, 0, 0}, {6, 0, 0}, {1, -1, 0}, {1, 10, 0}, {1, 0, 501}, {1, 0, -501}};
        for (int[] b : bad) {
            C.due(32, "kinds " + Arrays.toString(b), x.kinds(b[0], b[1], b[2]), -1);
        }
        C.due(33, "fewest(10, 0)", x.fewest(10, 0), -1);
        C.due(33, "fewest(-1, 0)", x.fewest(-1, 0), -1);
        C.due(33, "fewest(0, 501)", x.fewest(0, 501), -1);
        C.due(33, "fewest(0, 1)", x.fewest(0, 1), -1);
        C.due(34, "shortest(0, 1, NONE)", x.shortest(0, 1, -1), -1);
        C.due(34, "shortest(10, 0, 0)", x.shortest(10, 0, 0), -1);
        C.due(34, "shortest(0, -501, 0)", x.shortest(0, -501, 0), -1);
        int[][] ranges = {{0, 0, 0, 9}, {6, 0, 0, 9}, {1, -1, 0, 9}, {1, 10, 0, 9}, {1, 0, -501, 9}, {1, 0, 0, 501}};
        for (int[] r : ranges) {
            C.due(35, "rarest " + Arrays.toString(r), x.rarest(r[0], r[1], r[2], r[3]), -1000);
        }
        C.due(36, "fair(1, 0, 9)", x.fair(1, 0, 9), -1000);
        C.due(36, "fair(-1, 0, 9)", x.fair(-1, 0, 9), -1000);
        C.due(36, "fair(0, -501, 9)", x.fair(0, -501, 9), -1000);
        C.due(36, "fair(0, 0, 501)", x.fair(0, 0, 501), -1000);
        C.due(36, "fair(0, 0, 0)", x.fair(0, 0, 0), 0);
        C.due(37, "unasked(0, 0)", x.unasked(0, 0), -1);
        C.due(37, "unasked(6, 0)", x.unasked(6, 0), -1);
        C.due(37, "unasked(1, 10)", x.unasked(1, 10), -1);
        C.due(37, "unasked(1, -1)", x.unasked(1, -1), -1);
        C.due(37, "unasked(1, 9)", x.unasked(1, 9), 10);
        // the number of a thing is the one it has now
        x.thing(2, 10);
        C.due(37, "unasked(1, 9), r is 10", x.unasked(1, 9), 11);
        C.due(34, "shortest(9, 10, 0)", x.shortest(9, 10, 0), 2002);
        x.back();
        C.due(34, "shortest(9, 10, NONE)", x.shortest(9, 10, -1), 3);
    }

    /** Each of them on a new object, so that none rests on what another one counted. */
    private static void atOnce() {
        AnswersFirst x = new AnswersFirst();
        x.thing(0, 5);
        C.due(35, "rarest(2, 1, 1, 99)", x.rarest(2, 1, 1, 99), 2);
        x.thing(0, 9);
        C.due(35, "rarest(1, 1, 2, 99)", x.rarest(1, 1, 2, 99), 9);
        x = new AnswersFirst();
        x.thing(0, 50);
        x.thing(1, 10);
        C.due(32, "kinds(2, 0, 500)", x.kinds(2, 0, 500), 2);
        // 0 - 50 * 10 in 4 ways, the 0 - within in 8; for 500 the 0 behind, ahead, within: 8, 4, 24
        C.due(32, "kinds(3, 0, -500)", x.kinds(3, 0, -500), 12);
        C.due(32, "kinds(3, 0, 500)", x.kinds(3, 0, 500), 36);
        x.thing(0, 51);
        C.due(32, "kinds(2, 0, 500) then", x.kinds(2, 0, 500), 0);
        C.due(32, "kinds(3, 0, -500) then", x.kinds(3, 0, -500), 0);
        C.due(33, "fewest(0, 500) then", x.fewest(0, 500), 3 + 2);
        x.pupil(5, 0, 0, 0, 1);
        C.due(36, "fair(0, 0, 500)", x.fair(0, 0, 500), 0);
        C.due(36, "fair(0, 1, 500)", x.fair(0, 1, 500), 10);
    }

    /** With these all values up to 500 are there by five leaves; with fewer leaves some aren't. */
    private static void whole() {
        AnswersFirst x = new AnswersFirst();
        int[] things = {97, 61, 40, 23};
        for (int t = 0; t < 4; t++) {
            x.thing(t, things[t]);
        }
        for (int n = 1; n <= 5; n++) {
            int least = -1;
            for (int v = 500; v >= 0; v--) {
                long kinds = 0;
                for (int k = 1; k <= n; k++) {
                    kinds += x.kinds(k, 9, v);
                }
                least = kinds == 0 ? v : least;
            }
            C.due(37, "unasked(" + n + ", 9)", x.unasked(n, 9), least);
        }
        C.due(37, "unasked(5, 9), none", x.unasked(5, 9), -1);
    }

    private static void fives() {
        AnswersFirst x = new AnswersFirst();
        // all things 0, no numbers: every tree is 0
        C.due(32, "kinds(5, 0, 0)", x.kinds(5, 0, 0), 14L * 81 * 1024);
        x.thing(0, 1);
        x.thing(1, 1);
        x.thing(2, 1);
        x.thing(3, 1);
        long sum = 0;
        for (int v = -500; v <= 500; v++) {
            sum += x.kinds(5, 0, v);
        }
        C.due(32, "all kinds of 5 leaves", sum, 14L * 81 * 1024);
        // two by three in either order, the three in two shapes
        C.due(32, "kinds(5, 0, 6)", x.kinds(5, 0, 6), 4 * 1024);
        C.due(33, "fewest(0, 6)", x.fewest(0, 6), 5);
        int[] want = {1002, 1000, 2000, 2000, 1000, 2000, 1000, 2000, 2000};
        for (int i = 0; i < 9; i++) {
            C.due(34, "shortest(0, 6, " + i + ")", x.shortest(0, 6, i), want[i]);
        }
        C.due(35, "rarest(5, 0, -500, 500)", x.rarest(5, 0, -500, 500), 6);
        C.due(37, "unasked(5, 0)", x.unasked(5, 0), 7);
    }
}
