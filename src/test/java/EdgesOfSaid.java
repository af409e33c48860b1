/** Part III and promises 12, 16 to 18: how a question is said, alike, nearly, parted. */
final class EdgesOfSaid extends Edge {
    private static final int ALL = 255;

    static void all() {
        asTheyStand();
        sumsApart();
        leftOut();
        worked();
        inOrder();
        pairs();
        turned();
        order();
        relations();
        promises();
    }

    private static void alike(int bits, String one, String other, boolean want) {
        AnswersFirst x = Check.of("ask " + one + ";ask " + other + ";say " + bits + ";");
        due("alike by " + bits + ": " + one + " and " + other, x.alike(0, 1), want ? 1 : 0);
        due("alike the other way about", x.alike(1, 0), want ? 1 : 0);
    }

    /** Alike by all equalities that have these bits, and by no others. */
    private static void just(int bits, String one, String other) {
        AnswersFirst x = Check.of("ask " + one + ";ask " + other + ";");
        for (int told = 0; told < 256; told++) {
            x.equalities(told);
            due("alike by " + told + ": " + one + " and " + other, x.alike(0, 1), (told & bits) == bits ? 1 : 0);
        }
    }

    private static void never(String one, String other) {
        AnswersFirst x = Check.of("ask " + one + ";ask " + other + ";");
        for (int told = 0; told < 256; told++) {
            x.equalities(told);
            due("alike by " + told + ": " + one + " and " + other, x.alike(0, 1), 0);
        }
    }

    private static void asTheyStand() {
        by(0, "==== III. A QUESTION as it is SAID: a number, a THING; a PLUS (terms with signs, as they stand between + and - at "
                + "one place; one alone with + is just it); a TIMES (factors between *; one alone is just it);");
        just(0, "7", "007");
        just(0, "p", " p ");
        just(0, "p-q+r", "p - q + r");
        just(0, "p*q*r", "p * q * r");
        just(0, "p+q*r", "p+(q*r)");
        just(0, "p+(q)", "(p)+q");
        just(0, "p*(q)", "p*q");
        never("p", "q");
        never("7", "8");
        never("p+q", "p-q");
        never("p-q", "q-p");
        never("p+q", "p*q");
        never("p+q", "p+q+r");
        never("p+p", "p");
        never("p*p", "p");
        never("p*q", "p*q*p");
        just(1, "(p+q)+r", "p+q+r");
        just(1, "p+(q+r)", "p+q+r");

        by(0, "AGE, KIDS, KIN, WAY, MORE, LESS of what is in them; an IF of its CMP and four SUMS.");
        String[] words = {"age", "kids", "kin", "way", "more", "less"};
        for (int i = 0; i < 6; i++) {
            String two = i < 2 ? "" : ",r";
            just(0, words[i] + "(p+q" + two + ")", words[i] + "((p+q)" + two + ")");
            never(words[i] + "(p" + two + ")", words[i] + "(q" + two + ")");
            for (int j = 0; j < 6; j++) {
                if (i != j) {
                    never(words[i] + "(p" + two + ")", words[j] + "(p" + (j < 2 ? "" : ",r") + ")");
                }
            }
            if (i > 1) {
                never(words[i] + "(p,q)", words[i] + "(p,r)");
            }
        }
        String[] signs = {"<", "<=", ">", ">=", "=", "#"};
        for (int i = 0; i < 6; i++) {
            for (int j = 0; j < i; j++) {
                never("if p" + signs[i] + "q?1:2 end", "if p" + signs[j] + "q?1:2 end");
            }
        }
        for (String other : new String[] {"if s<q?1:2 end", "if p<s?1:2 end", "if p<q?s:2 end", "if p<q?1:s end"}) {
            never("if p<q?1:2 end", other);
        }

        by(0, "( of no word are no more than what they hold.");
        just(0, "((((((((p))))))))", "p");
        just(0, "(7)", "7");
        just(0, "(p-q)*(r)", "(p-q)*r");
        just(0, "age((p))", "age(p)");
        just(0, "if (p)<(q)?(1):((2)) end", "if p<q?1:2 end");
        never("(p+q)*r", "p+q*r");

        by(0, "EQUALITIES (bits; told; at first 0) change it, from the innermost on, at each place in this order:");
        AnswersFirst x = Check.of("ask p+q;ask q+p;");
        due("at first", x.about(4), 0);
        due("alike(0, 1) at first", x.alike(0, 1), 0);
        x.equalities(1);
        due("alike(0, 1) told", x.alike(0, 1), 1);
        x.equalities(0);
        due("alike(0, 1) told anew", x.alike(0, 1), 0);
        // at each place
        for (String in : new String[] {"age(#)", "kids(#)", "kin(#,r)", "kin(r,#)", "way(#,r)", "way(r,#)", "more(#,r)",
            "more(r,#)", "less(#,r)", "less(r,#)", "if #<r?1:2 end", "if r<#?1:2 end", "if r<s?#:2 end", "if r<s?1:# end",
            "(#)*r", "r*(#)", "r-kin(9,age(#))", "if if #<r?1:2 end<r?1:2 end"}) {
            just(1, in.replace("#", "p+q"), in.replace("#", "q+p"));
        }
        // the innermost first: it is a number ahead of what it stands in
        alike(129, "99*99*99+(99*99*99-99*99*99)", "99*99*99", true);
        alike(129, "p-(2+3)", "p-5", true);
        alike(129, "p-(2+3)", "p-2-3", false);
        alike(1, "p-(2+3)", "p-2-3", true);
        alike(1, "p-(2+3)", "p-5", false);
        alike(131, "p*(2*3)", "p*6", true);
        alike(131, "p*(2*3)", "p*2*3", false);
    }

    private static void sumsApart() {
        by(0, "bit 0, of a PLUS: a term that is a PLUS falls apart into its terms (behind - their signs turn).");
        just(1, "p+(q-r)", "p+q-r");
        just(1, "p-(q-r)", "p-q+r");
        just(1, "p-(q+r)", "p-q-r");
        just(1, "(p-q)-(r-s)", "p-q-r+s");
        just(1, "p-(q-(r-(s-1)))", "p-q+r-s+1");
        just(1, "p-(q-(r+s))", "p-q+r+s");
        never("p-(q-r)", "p-q-r");
        never("p-(q+r)", "p-q+r");
        just(1, "p+((q+r))", "r+(q)+p");
        never("p*(q+r)", "p*q+r");
        // a sum of sixteen terms
        just(1, "p" + times("+(p", 7) + times("+p", 8) + times(")", 7), "p" + times("+p", 15));

        by(0, "bit 1, of a TIMES: a factor that is a TIMES falls apart likewise.");
        just(2, "p*(q*r)", "p*q*r");
        just(2, "(p*q)*r", "p*q*r");
        just(2, "(p*q)*(r*(s*2))", "p*q*r*s*2");
        just(2, "p" + times("*(p", 7) + times("*p", 8) + times(")", 7), "p" + times("*p", 15));
        never("p*(q+r)", "p*q*r");
    }

    private static void leftOut() {
        by(0, "bit 2: terms that are 0 are left out of a PLUS (none left: 0).");
        just(4, "p+0", "p");
        just(4, "0+p", "p");
        just(4, "p-0", "p");
        just(4, "p+0+q-0", "p+q");
        just(4, "0-p-0", "0-p");
        just(5, "p+0+q-0", "q+p");
        never("0-p", "p");
        never("p+1", "p");
        just(0, "0", "0");
        alike(4, "0+0", "0", true);
        alike(4, "0-0", "0", true);
        alike(4, "0-0-0-0", "0", true);
        alike(0, "0+0", "0", false);
        alike(123, "0+0", "0", false);
        alike(4, "p*(0+0)", "p*0", true);
        alike(4, "p+(0+0)", "p", true);
        never("p*0", "0");
        never("p*0+q", "q");
        never("p-p", "0");
        just(4, "age(0+p)", "age(p)");
        // what comes to 0 by bit 7 is one
        just(132, "p+(2-2)", "p");
        just(132, "p+0*5", "p");
        never("p+more(q-q,q-q)", "p");
        // one term left with -: a PLUS of it
        alike(4, "0-5", "5", false);
        alike(4, "q*(0-p)", "q*p", false);
        just(5, "q-(0-p)", "q+p");
        just(5, "q+(0-p)", "q-p");

        by(0, "bit 3: factors that are 1 are left out of a TIMES (none left: 1).");
        just(8, "p*1", "p");
        just(8, "1*p", "p");
        just(8, "1*p*1*q*1", "p*q");
        alike(8, "1*1", "1", true);
        alike(8, "1*1*1*1", "1", true);
        alike(0, "1*1", "1", false);
        alike(119, "1*1", "1", false);
        alike(8, "p+1*1", "p+1", true);
        never("p*2", "p");
        never("p*0", "p");
        never("p+1", "p");
        just(136, "p*(3-2)", "p");
        just(8, "r*((p+q)*1)", "r*(p+q)");
        just(9, "r+(p+q)*1", "r+p+q");
        just(6, "r*(s*q+0)", "r*s*q");
    }

    private static void worked() {
        by(0, "bit 7: a PLUS, TIMES, MORE, LESS of numbers alone is that number (as it is worked out).");
        just(128, "2+3", "5");
        just(128, "2-3+4", "3");
        just(128, "3-5", "1-3");
        just(128, "2*3*4", "24");
        just(128, "more(2,3)", "3");
        just(128, "more(3,2)", "3");
        just(128, "less(2,3)", "2");
        just(128, "less(3,2)", "2");
        just(128, "more(2+3,2*4)-less(9,1)", "7");
        just(128, "more(0-2,0-3)", "0-2");
        just(128, "less(0-2,0-3)", "0-3");
        never("2+3", "6");
        never("p+2+3", "p+5");
        never("p*2*3", "p*6");
        never("more(p,2)", "p");
        never("age(2)", "2");
        never("kin(0,0)", "0");
        never("way(0,0)", "0");
        never("if 1<2?3:4 end", "3");
        just(128, "if 1+1<2?3:4 end", "if 2<2?3:4 end");
        just(128, "age(1+1)", "age(2)");
        // as it is worked out: cut at each step
        just(128, "99*99*99*99", "99*99*99*98");
        just(128, "99*99*99*99", "50*50*40*10");
        never("99*99*99*99", "50*50*40*9");
        just(128, "0-99*99*99*99", "0-50*50*40*10");
        alike(128, "99*99*99+99*99*99-99*99*99", "99*99*3+99*3+1", true);
        alike(128, "99*99*99-99*99*99+99*99*99", "99*99*3+99*3+1", false);
        alike(128, "99*99*99+99*99*99", "99*99*99+99*99*98", true);
        alike(128, "99*99*99*99-1", "50*50*40*10-1", true);
        alike(128, "99*99*99*99-1", "50*50*40*10-2", false);
        // - of one number is that number; 0 and 1 are left out ahead of it
        alike(132, "0-5", "3-8", true);
        alike(128, "0-5", "3-8", true);
        alike(4, "0-5", "3-8", false);
        alike(140, "0+1*1", "1", true);
    }

    private static void inOrder() {
        by(0, "bit 0, 1: terms, factors stand in order.");
        just(1, "p+q", "q+p");
        just(1, "p-q+r", "r+p-q");
        just(1, "p-q-r", "p-r-q");
        just(1, "p+q+r+s+1+2", "2+s+1+r+q+p");
        just(2, "p*q", "q*p");
        just(2, "p*q*r*s*1*2", "2*s*1*r*q*p");
        just(3, "p*q+r", "r+q*p");
        just(3, "(p+q)*r", "r*(q+p)");
        never("p-q", "q-p");
        never("p-q+r", "p+q-r");
        just(1, "p+9+10", "10+p+9");
        just(1, "p+(0-9)", "(0-9)+p");

        by(0, "(Then: one term left with +, one factor: just it.)");
        just(4, "age(p+0)", "age(p)");
        just(8, "age(p*1)", "age(p)");
        just(4, "0+(p-q)", "p-q");
        just(8, "1*(p*q)", "p*q");
        just(12, "(p+0)*1", "p");
        just(5, "0+(p-q)+r", "r+p-q");
        just(10, "1*(p*q)*r", "p*q*r");
        alike(4, "0-p", "p", false);
        alike(12, "(0-p)*1", "0-p", true);
        alike(13, "q-(0-p)*1", "q+p", true);
        alike(12, "q-(0-p)*1", "q+p", false);
    }

    private static void pairs() {
        by(0, "bit 4: the two of KIN, of WAY stand in order.");
        just(16, "kin(p,q)", "kin(q,p)");
        just(16, "way(p,q)", "way(q,p)");
        just(16, "kin(7,p+q)", "kin(p+q,7)");
        just(16, "way(kin(p,1),kin(1,q))", "way(kin(q,1),kin(1,p))");
        never("kin(p,p)", "p");
        never("kin(p,q)", "way(q,p)");

        by(0, "bit 5: the two of MORE, of LESS stand in order; two SAID alike are just it.");
        just(32, "more(p,q)", "more(q,p)");
        just(32, "less(p,q)", "less(q,p)");
        just(32, "more(p,p)", "p");
        just(32, "less(p,p)", "p");
        just(32, "more(p+q,p+q)", "p+q");
        just(33, "more(p+q,q+p)", "p+q");
        just(32, "less(more(p,q),more(q,p))", "more(p,q)");
        just(160, "more(p,more(2,3))", "more(3,p)");
        just(33, "r+more(p+q,p+q)", "r+p+q");
        just(34, "r*less(p*q,q*p)", "p*q*r");
        never("more(p,q)", "less(q,p)");
        never("more(p,more(q,r))", "more(more(p,q),r)");
        never("more(p,q)", "p");
        never("less(p,p+0*q)", "p");
    }

    private static void turned() {
        by(0, "bit 6: an IF by > or >= is one by < or <= with its first two changed; one whose last two are SAID alike "
                + "is just that.");
        just(64, "if p>q?1:2 end", "if q<p?1:2 end");
        just(64, "if p>=q?1:2 end", "if q<=p?1:2 end");
        never("if p>q?1:2 end", "if q<=p?1:2 end");
        never("if p>=q?1:2 end", "if q<p?1:2 end");
        never("if p>q?1:2 end", "if p<=q?2:1 end");
        never("if p>q?1:2 end", "if p<q?1:2 end");
        never("if p<q?1:2 end", "if q<p?1:2 end");
        never("if p=q?1:2 end", "if q=p?1:2 end");
        never("if p#q?1:2 end", "if q#p?1:2 end");
        never("if p#q?1:2 end", "if p=q?2:1 end");
        for (String sign : new String[] {"<", "<=", ">", ">=", "=", "#"}) {
            just(64, "if p" + sign + "q?r:r end", "r");
            just(65, "if p" + sign + "q?r+s:s+r end", "r+s");
            just(65, "1+if p" + sign + "q?r+s:r+s end", "1+r+s");
        }
        just(64, "if p<q?if r>s?1:2 end:if s<r?1:2 end end", "if r>s?1:2 end");
        never("if p<p?1:2 end", "2");
        never("if 1<2?p:q end", "p");
    }

    /** Whatever stands first, what is in order by the bits is alike. */
    private static void order() {
        by(0, "Order: numbers, THINGS, PLUS, TIMES, AGE, KIDS, KIN, WAY, MORE, LESS, IF;");
        String[] kinds = {"7", "p", "p-q", "p*q", "age(p)", "kids(p)", "kin(p,q)", "way(p,q)", "more(p,q)", "less(p,q)",
            "if p<q?1:2 end"};
        turnedAbout(kinds);

        by(0, "numbers by size, THINGS by number;");
        turnedAbout("0", "1", "9", "10", "98", "99");
        turnedAbout("p", "q", "r", "s");
        just(128 + 1, "p+(1-9)+(1-8)", "p+(0-7)+(0-8)");

        by(0, "PLUS, TIMES: by how many, then by the first, by the second, .. (terms with + ahead of those with -, then by "
                + "what they are);");
        turnedAbout("p+q", "p-q", "q-p", "p+r", "p+q+r", "p-q-r", "p-q+r", "2-p", "p-2");
        turnedAbout("p*q", "q*p", "p*r", "p*q*r", "2*p", "p*2", "p*p");

        by(0, "the others by what is in them, one by one (IF: first by CMP, as told above).");
        turnedAbout("age(1)", "age(2)", "age(p)", "kids(1)", "kids(2)");
        turnedAbout("kin(1,2)", "kin(1,3)", "kin(2,1)", "kin(2,2)", "way(1,2)", "way(2,1)");
        turnedAbout("more(1,p)", "more(p,1)", "less(1,p)", "less(p,1)", "less(2,p)");
        turnedAbout("if p<q?1:2 end", "if p<=q?1:2 end", "if p>q?1:2 end", "if p>=q?1:2 end",
            "if p=q?1:2 end", "if p#q?1:2 end", "if q<p?1:2 end", "if p<r?1:2 end", "if p<q?2:1 end", "if p<q?1:3 end");
    }

    private static void turnedAbout(String... all) {
        turnedIn("kin", "way", 16, all);
        turnedIn("more", "less", 32, all);
    }

    /** In one of two words that are put in order by the same equality. */
    private static void turnedIn(String word, String like, int bits, String[] all) {
        for (int i = 0; i < all.length; i++) {
            for (int j = 0; j < all.length; j++) {
                String one = "(" + all[i] + ")";
                String other = "(" + all[j] + ")";
                alike(bits, word + "(" + one + "," + other + ")", word + "(" + other + "," + one + ")", true);
                alike(0, word + "(" + one + "," + other + ")", word + "(" + other + "," + one + ")", i == j);
                if (!all[i].startsWith(word) && !all[i].startsWith(like)) {
                    alike(bits, word + "(" + one + "," + other + ")", word + "(" + one + "," + one + ")", i == j);
                }
                alike(1, one + "+" + other, other + "+" + one, true);
                alike(2, one + "*" + other + "*9", "9*" + other + "*" + one, true);
            }
        }
    }

    private static void relations() {
        by(0, "ALIKE: two QUESTIONS SAID alike.");
        AnswersFirst x = Check.of("ask p+q;ask q+p;ask p+q;ask p+q+0;");
        int[][] groups = {{0, 1, 0, 2}, {0, 0, 0, 1}, {0, 1, 0, 2}, {0, 0, 0, 1}, {0, 1, 0, 0}, {0, 0, 0, 0}};
        for (int bits = 0; bits < 6; bits++) {
            x.equalities(bits);
            for (int i = 0; i < 16; i++) {
                due("alike(" + i / 4 + ", " + i % 4 + ") by " + bits, x.alike(i / 4, i % 4),
                        groups[bits][i / 4] == groups[bits][i % 4] ? 1 : 0);
            }
        }
        due("not by what they come to", Check.of("ask 2+2;ask 4;").alike(0, 1), 0);

        by(0, "PARTED: the first WORLD (p, q, r, s from 0 to 9 each, by p, then q, r, s; PEOPLE and ROADS as they are) in "
                + "which two QUESTIONS have unlike ANSWERS; none.");
        parts("p", "0", 1, 0, 0, 0);
        parts("q", "0", 0, 1, 0, 0);
        parts("r", "0", 0, 0, 1, 0);
        parts("s", "0", 0, 0, 0, 1);
        parts("p", "q", 0, 1, 0, 0);
        parts("p*q", "0", 1, 1, 0, 0);
        parts("1", "0", 0, 0, 0, 0);
        parts("p", "p", -1, -1, -1, -1);
        parts("p+q", "q+p", -1, -1, -1, -1);
        for (int t = 0; t < 4; t++) {
            String thing = "" + "pqrs".charAt(t);
            int[] w = {0, 0, 0, 0};
            w[t] = 9;
            parts("if " + thing + "=9?1:0 end", "0", w[0], w[1], w[2], w[3]);
            parts("if " + thing + "=10?1:0 end", "0", -1, -1, -1, -1);
            w[t] = 8;
            parts("if " + thing + ">7?1:0 end", "0", w[0], w[1], w[2], w[3]);
        }
        parts("if p+q+r+s=36?1:0 end", "0", 9, 9, 9, 9);
        parts("if p+q+r+s=37?1:0 end", "0", -1, -1, -1, -1);
        parts("if p+q+r+s=1?1:0 end", "0", 0, 0, 0, 1);
        parts("if p*q*r*s=5?1:0 end", "0", 1, 1, 1, 5);
        parts("if p*s=9?q+r:0 end", "0", 1, 0, 1, 9);
        AnswersFirst x2 = Check.of("let p be 50;let q be 60;ask p;ask q;ask age(p);ask 0-1;ask way(q,5);");
        due("not by what the THINGS are", x2.parted(0, 1, 1), 1);
        due("nobody is told", x2.parted(2, 3, 0), -1);
        x2.person(0, -1, -1);
        due("one is told", x2.parted(2, 3, 0), 0);
        x2.person(0, -1, -1);
        due("still the first", x2.parted(2, 3, 0), 0);
        due("no road: from 5 to itself", x2.parted(4, 3, 1), 5);
        x2.road(5, 2, 9);
        due("a road", x2.parted(4, 3, 1), 2);
        due("the things stay", x2.about(10) * 100 + x2.about(11), 5060);

        by(0, "NEARLY: whether two are ALIKE by all EQUALITIES (bits 0 .. 7), though not by those told.");
        String[][] pairs = {{"p+q", "q+p"}, {"p*q", "q*p"}, {"p+0", "p"}, {"p*1", "p"}, {"kin(p,q)", "kin(q,p)"},
            {"more(p,q)", "more(q,p)"}, {"if p>q?1:2 end", "if q<p?1:2 end"}, {"2+3", "5"}};
        for (int bit = 0; bit < 8; bit++) {
            AnswersFirst y = Check.of("ask " + pairs[bit][0] + ";ask " + pairs[bit][1] + ";");
            for (int told : new int[] {0, 1 << bit, ALL & ~(1 << bit), ALL}) {
                y.equalities(told);
                due("nearly " + pairs[bit][0] + " by " + told, y.nearly(0, 1), (told >> bit & 1) == 0 ? 1 : 0);
                due("nearly, the other way about", y.nearly(1, 0), (told >> bit & 1) == 0 ? 1 : 0);
            }
        }
    }

    private static void parts(String one, String other, int p, int q, int r, int s) {
        AnswersFirst x = Check.of("let p be 3;let s be 99;ask " + one + ";ask " + other + ";");
        int[] want = {p, q, r, s};
        for (int t = 0; t < 4; t++) {
            due("parted " + one + " and " + other + ", " + t, x.parted(0, 1, t), want[t]);
            due("parted " + other + " and " + one + ", " + t, x.parted(1, 0, t), want[t]);
        }
        due("the world stays", x.about(10) * 100 + x.about(13), 399);
    }

    private static void promises() {
        by(12, "EQUALITIES (0 .. 255): true.");
        AnswersFirst x = Check.of("ask p+q;ask q+p;ask more(p,q);ask 1+1;ask 2;");
        for (int bits : new int[] {0, 1, 128, 254, 255}) {
            due("equalities(" + bits + ")", x.equalities(bits), true);
            due("about(4)", x.about(4), bits);
            due("alike(0, 1)", x.alike(0, 1), bits & 1);
            due("alike(3, 4)", x.alike(3, 4), bits >> 7);
        }

        by(12, "False for others.");
        String before = state(x);
        due("equalities(256)", x.equalities(256), false);
        due("equalities(257)", x.equalities(257), false);
        due("equalities(-1)", x.equalities(-1), false);
        for (int far : FAR) {
            due("equalities(" + far + ")", x.equalities(far), false);
        }
        same("nothing is done", state(x), before);

        by(16, "ALIKE: 1, 0.");
        due("alike(0, 1)", x.alike(0, 1), 1);
        due("alike(0, 2)", x.alike(0, 2), 0);
        due("alike(4, 4)", x.alike(4, 4), 1);
        by(17, "NEARLY: 1, 0.");
        due("nearly(0, 1): they are alike", x.nearly(0, 1), 0);
        x.equalities(0);
        due("nearly(0, 1)", x.nearly(0, 1), 1);
        due("nearly(0, 2)", x.nearly(0, 2), 0);
        due("nearly(0, 0)", x.nearly(0, 0), 0);
        AnswersFirst longest = Check.of("ask p" + times("+p", 15) + ";ask p+q" + times("+p", 14) + ";ask q" + times("+p", 15)
                + ";");
        for (int i = 0; i < 60; i++) {
            due("nearly(0, 1), time " + i, longest.nearly(0, 1), 0);
            due("nearly(1, 2), time " + i, longest.nearly(1, 2), 1);
        }
        x.equalities(254);
        due("nearly(0, 1) by 254", x.nearly(0, 1), 1);
        due("nearly(3, 4) by 254", x.nearly(3, 4), 0);
        by(18, "PARTED: the number of a THING then.");
        for (int t = 0; t < 4; t++) {
            // as long as p or q is 0 the greater one is their sum
            due("parted(0, 4, " + t + ")", x.parted(0, 4, t), 0);
            due("parted(2, 0, " + t + ")", x.parted(2, 0, t), t < 2 ? 1 : 0);
        }
        due("of one that stands in neither", x.parted(3, 0, 3), 0);

        by(18, "NONE: none, and for others.");
        due("none", x.parted(0, 1, 0), -1);
        due("one", x.parted(0, 0, 0), -1);
        due("parted(0, 2, 4)", x.parted(0, 2, 4), -1);
        due("parted(0, 2, -1)", x.parted(0, 2, -1), -1);
        due("parted(5, 0, 0)", x.parted(5, 0, 0), -1);
        due("parted(0, 5, 0)", x.parted(0, 5, 0), -1);
        due("parted(-1, 0, 0)", x.parted(-1, 0, 0), -1);
        due("parted(0, -1, 0)", x.parted(0, -1, 0), -1);
        for (int far : FAR) {
            due("parted(" + far + ", 0, 0)", x.parted(far, 0, 0), -1);
            due("parted(0, " + far + ", 0)", x.parted(0, far, 0), -1);
            due("parted(0, 2, " + far + ")", x.parted(0, 2, far), -1);
        }

        for (int promise = 16; promise <= 17; promise++) {
            by(promise, "NONE for others.");
            int[][] bad = {{-1, 0}, {0, -1}, {5, 0}, {0, 5}, {5, 5}, {-1, -1}};
            for (int[] b : bad) {
                due(b[0] + ", " + b[1], promise == 16 ? x.alike(b[0], b[1]) : x.nearly(b[0], b[1]), -1);
            }
            for (int far : FAR) {
                due(far + ", 0", promise == 16 ? x.alike(far, 0) : x.nearly(far, 0), -1);
                due("0, " + far, promise == 16 ? x.alike(0, far) : x.nearly(0, far), -1);
            }
            due("4, 3", promise == 16 ? x.alike(4, 3) : x.nearly(4, 3), promise == 16 ? 1 : 0);
        }
    }
}
