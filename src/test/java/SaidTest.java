/** Promises 12, 15 to 18: what a question comes to, what is in it, and how it is said. */
public final class SaidTest {
    private static final Check C = new Check();

    public static void main(String[] args) {
        worth();
        parts();
        equalities();
        eachEquality();
        together();
        parted();
        C.finish();
    }

    private static void comes(String sum, int want) {
        String world = "let p be 2;let q be 3;born 60;born 50;born 9 of 0 and 1;path 0 to 1 long 7;path 1 to 2 long 8;";
        AnswersFirst x = Check.of(world + "ask " + sum + ";");
        C.due(15, "of " + sum, x.of(0, 0), want);
    }

    private static void worth() {
        comes("7-2-3", 2);
        comes("7-(2-3)", 8);
        comes("2+3*4", 14);
        comes("(2+3)*4", 20);
        comes("p-q*q", -7);
        comes("99*99*99*99", 1000000);
        comes("99*99*99*99-1", 999999);
        comes("99*99*99*99*(0-1)", -1000000);
        comes("(0-99)*99*99*99", -1000000);
        comes("99*99*99*99*0", 0);
        comes("99*99*99+99*99*99-99*99*99", 29701);
        comes("99*99*99+(99*99*99-99*99*99)", 970299);
        comes("(99*99*99*99)*(99*99*99*99)", 1000000);
        comes("0-99*99*99*99-1", -1000000);
        comes("age(0)", 60);
        comes("age(2)", 9);
        comes("age(3)", -1);
        comes("age(0-1)", -1);
        comes("kids(0)+kids(1)*10+kids(2)*99", 11);
        comes("kids(3)", -1);
        comes("kin(0,1)", 2);
        comes("kin(0,0)", 0);
        comes("kin(0,3)", -1);
        comes("kin(0-1,0)", -1);
        comes("way(0,2)", 15);
        comes("way(5,5)", 0);
        comes("way(0,5)", -1);
        comes("way(6,6)", -1);
        comes("more(p,q)*10+less(p,q)", 32);
        comes("more(0-1,0-2)", -1);
        comes("if p<q?1:0 end", 1);
        comes("if q<p?1:0 end", 0);
        comes("if p<p?1:0 end", 0);
        comes("if p<=p?1:0 end", 1);
        comes("if p>p?1:0 end", 0);
        comes("if p>=p?1:0 end", 1);
        comes("if p<=q?1:0 end", 1);
        comes("if q<=p?1:0 end", 0);
        comes("if p>=q?1:0 end", 0);
        comes("if q>=p?1:0 end", 1);
        comes("if p>q?1:0 end", 0);
        comes("if q>p?1:0 end", 1);
        comes("if p=2?1:0 end", 1);
        comes("if p=q?1:0 end", 0);
        comes("if p#q?1:0 end", 1);
        comes("if p#2?1:0 end", 0);
        comes("2*if p<q?3:4 end+1", 7);
        comes("kin(if p<q?0:9 end,age(9)+2)", 2);
    }

    private static void parts() {
        AnswersFirst x = Check.of("ask p*p-q;ask (5);ask ((r))+s;ask kin(1,way(7,p))*99;ask if 1<2?3:(4)end;ask more(p,less(1,q));");
        int[][] want = {{3, 0, 1 + 2 + 32 + 64, -1}, {1, 1, 128, 5}, {2, 2, 4 + 8 + 16 + 128, -1},
            {4, 2, 1 + 64 + 1024 + 2048, 99}, {4, 2, 16384 + 128, 4}, {3, 2, 3 + 4096 + 8192, 1}};
        for (int q = 0; q < 6; q++) {
            for (int what = 1; what < 5; what++) {
                C.due(15, "of(" + q + ", " + what + ")", x.of(q, what), want[q][what - 1]);
            }
        }
        C.due(15, "of(6, 0)", x.of(6, 0), -2000000);
        C.due(15, "of(-1, 0)", x.of(-1, 0), -2000000);
        C.due(15, "of(0, 5)", x.of(0, 5), -2000000);
        C.due(15, "of(0, -1)", x.of(0, -1), -2000000);
        x = Check.of("ask age(kids(1));");
        C.due(15, "words of age, kids", x.of(0, 3), 256 + 512);
        C.due(15, "depth of age, kids", x.of(0, 2), 2);
        x = Check.of("ask p+if (1)<2?3:4 end;ask if 1<(2)?3:4 end;ask if 1<2?(3):4 end;ask if 1<2?3:((4))end;ask more(1,(2));");
        C.due(15, "words ahead of an if", x.of(0, 3), 1 + 16 + 128 + 16384);
        for (int q = 0; q < 5; q++) {
            C.due(15, "depth in part " + q, x.of(q, 2), q == 3 ? 3 : 2);
        }
    }

    private static void equalities() {
        AnswersFirst x = Check.of("ask p+q;ask q+p;ask p;");
        C.due(12, "equalities(255)", x.equalities(255), true);
        C.due(12, "about(4)", x.about(4), 255);
        C.due(12, "equalities(256)", x.equalities(256), false);
        C.due(12, "equalities(-1)", x.equalities(-1), false);
        C.due(12, "about(4)", x.about(4), 255);
        C.due(16, "alike(0, 1)", x.alike(0, 1), 1);
        C.due(17, "nearly(0, 1)", x.nearly(0, 1), 0);
        C.due(12, "equalities(0)", x.equalities(0), true);
        C.due(16, "alike(0, 1)", x.alike(0, 1), 0);
        C.due(17, "nearly(0, 1)", x.nearly(0, 1), 1);
        x.equalities(1);
        C.due(17, "nearly(0, 1) at once", x.nearly(0, 1), 0);
        x.equalities(2);
        C.due(17, "nearly(0, 1) at once", x.nearly(0, 1), 1);
        C.due(17, "nearly(0, 0)", x.nearly(0, 0), 0);
        C.due(17, "nearly(0, 2)", x.nearly(0, 2), 0);
        C.due(16, "alike(2, 2)", x.alike(2, 2), 1);
        C.due(16, "alike(3, 0)", x.alike(3, 0), -1);
        C.due(16, "alike(0, -1)", x.alike(0, -1), -1);
        C.due(17, "nearly(0, 3)", x.nearly(0, 3), -1);
        C.due(17, "nearly(-1, 0)", x.nearly(-1, 0), -1);
    }

    /** Alike by these bits alone, and by all, but not by any set without them. */
    private static void by(int bits, String one, String other) {
        AnswersFirst x = Check.of("ask " + one + ";ask " + other + ";");
        for (int b = 0; b < 256; b++) {
            x.equalities(b);
            boolean want = (b & bits) == bits;
            C.due(16, "alike " + one + " and " + other + " by " + b, x.alike(0, 1), want ? 1 : 0);
            C.due(17, "nearly " + one + " and " + other + " by " + b, x.nearly(0, 1), want ? 0 : 1);
        }
    }

    private static void alike(int bits, String one, String other, boolean want) {
        AnswersFirst x = Check.of("ask " + one + ";ask " + other + ";say " + bits + ";");
        C.due(16, "alike " + one + " and " + other + " by " + bits, x.alike(0, 1), want ? 1 : 0);
    }

    private static void eachEquality() {
        by(0, "p", "((p))");
        by(0, "p+(q*r)", "p+q*r");
        by(0, "age((1))", "age(1)");
        by(1, "p+q", "q+p");
        by(1, "p-(q-r)", "p-q+r");
        by(1, "p-(q+r)", "p-q-r");
        by(1, "p-q-r", "p-r-q");
        by(1, "age(p+q)*r", "age(q+p)*r");
        by(2, "p*q", "q*p");
        by(2, "p*(q*r)", "p*q*r");
        by(4, "p+0", "p");
        by(4, "p-0+q", "p+q");
        by(4, "0-p-0", "0-p");
        by(8, "p*1", "p");
        by(8, "1*p*1*q", "p*q");
        by(16, "kin(p,q)", "kin(q,p)");
        by(16, "way(7,p)", "way(p,7)");
        by(32, "more(p,q)", "more(q,p)");
        by(32, "less(p,q)", "less(q,p)");
        by(32, "more(p,p)", "p");
        by(32, "less(p*q,p*q)", "p*q");
        by(64, "if p>q?1:2 end", "if q<p?1:2 end");
        by(64, "if p>=q?1:2 end", "if q<=p?1:2 end");
        by(64, "if p=q?r:r end", "r");
        by(64, "if p<q?r:r end", "if p#q?r:r end");
        by(128, "2+3", "5");
        by(128, "2*3", "6");
        by(128, "2-5", "3-6");
        by(128, "more(2,3)", "3");
        by(128, "less(2,3)", "2");
        by(128, "99*99*99*99*99", "99*99*99*99*98");
        // as deep as sixteen leaves go: what differs is at the bottom
        String one = "p+q";
        String other = "q+p";
        for (int i = 0; i < 7; i++) {
            one = "2+3*age(" + one + ")";
            other = "2+3*age(" + other + ")";
        }
        by(1, one, other);
    }

    private static void together() {
        by(5, "p-(0-q)", "p+q");
        by(132, "p+(2-2)", "p");
        by(65, "if r=1?p+q:q+p end", "p+q");
        // what is said stays apart
        alike(255, "p-q", "q-p", false);
        alike(255, "p-p", "0", false);
        alike(255, "p*0", "0", false);
        alike(255, "p+p", "2*p", false);
        alike(255, "p+2+3", "p+5", false);
        alike(255, "more(p,more(q,r))", "more(more(p,q),r)", false);
        alike(255, "if p=q?1:2 end", "if q=p?1:2 end", false);
        alike(255, "if p#q?1:2 end", "if q#p?1:2 end", false);
        alike(255, "if p<q?1:2 end", "if p<=q?1:2 end", false);
        alike(255, "kin(p,q)", "way(p,q)", false);
        alike(255, "more(p,q)", "less(p,q)", false);
        alike(255, "age(p)", "kids(p)", false);
        alike(255, "0-p", "p", false);
        alike(4, "0+0", "0", true);
        alike(4, "0-0", "0", true);
        alike(8, "1*1*1", "1", true);
        alike(4, "0-3", "3", false);
        alike(132, "0-3", "2-5", true);
        alike(0, "(p+q)+r", "p+q+r", false);
        alike(0, "(p*q)*r", "p*q*r", false);
        // a sum within falls apart behind what it stood in was left out
        alike(9, "r+(p+q)*1", "r+p+q", true);
        alike(8, "r+(p+q)*1", "r+p+q", false);
        // worked out from the left, the innermost first, ahead of its falling apart
        alike(128, "99*99*99+(99*99*99-99*99*99)", "99*99*99", true);
        alike(129, "99*99*99+(99*99*99-99*99*99)", "99*99*99", true);
        alike(129, "99*99*99+(99*99*99-99*99*99)", "99*99*99+99*99*99-99*99*99", false);
        alike(128, "99*99*99+99*99*99-99*99*99", "99*99*3+99*3+1", true);
        alike(131, "50*(2*1)", "99+1", true);
        // numbers, things, plus, times, words, if: whatever stood first
        String[] all = {"1", "2", "p", "s", "p-q", "p*q", "p*q*r", "age(1)", "kids(1)", "kin(1,2)", "kin(2,1)",
            "way(1,2)", "more(1,p)", "less(1,p)", "if p<q?1:2 end", "if p#q?1:2 end"};
        for (String one : all) {
            for (String other : all) {
                alike(32, "more(" + one + "," + other + ")", "more(" + other + "," + one + ")", true);
                alike(1, one + "+(" + other + ")", other + "+(" + one + ")", true);
                alike(16, "kin(" + one + "," + other + ")", "kin(" + other + "," + one + ")", true);
            }
        }
        alike(48, "more(p,kin(q,1))", "more(kin(1,q),p)", true);
    }

    private static void parted() {
        AnswersFirst x = Check.of("ask p+q;ask q+p;ask p*q;ask if r=3?s:0 end;ask 0;ask if s=9?p+8:8 end;ask 8;");
        int[][] want = {{0, 1, -1, -1, -1, -1}, {0, 2, 0, 1, 0, 0}, {3, 4, 0, 0, 3, 1}, {4, 3, 0, 0, 3, 1},
            {5, 6, 1, 0, 0, 9}, {0, 0, -1, -1, -1, -1}, {4, 6, 0, 0, 0, 0}};
        for (int[] w : want) {
            for (int t = 0; t < 4; t++) {
                C.due(18, "parted(" + w[0] + ", " + w[1] + ", " + t + ")", x.parted(w[0], w[1], t), w[2 + t]);
            }
        }
        C.due(18, "parted(0, 2, 4)", x.parted(0, 2, 4), -1);
        C.due(18, "parted(0, 2, -1)", x.parted(0, 2, -1), -1);
        C.due(18, "parted(7, 2, 0)", x.parted(7, 2, 0), -1);
        C.due(18, "parted(0, -1, 0)", x.parted(0, -1, 0), -1);
        C.due(18, "the world stays", x.about(13), 0);
        x = Check.of("ask age(p);ask 0-1;");
        C.due(18, "nobody is told", x.parted(0, 1, 0), -1);
        x.person(7, -1, -1);
        C.due(18, "one is told", x.parted(0, 1, 0), 0);
        x = Check.of("ask way(p,q);ask way(q,p);ask way(r,s);");
        C.due(18, "ways", x.parted(0, 2, 3), 1);
        C.due(18, "ways back", x.parted(0, 1, 3), -1);
    }
}
