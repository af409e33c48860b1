/** Questions of part II and promise 15: what they come to, and what is in them. */
final class EdgesOfSums extends Edge {
    /** 999999, of nine leaves. */
    private static final String BELOW = "99*99*99+99*99*3+99*3";

    static void all() {
        answers();
        words();
        ifs();
        measures();
        wordBits();
        of();
    }

    private static void answers() {
        by(0, "A QUESTION's ANSWER, by THE WORLD, exactly, from the left;");
        comes("", "7-2-3", 2);
        comes("", "7-2+3", 8);
        comes("", "7-(2-3)", 8);
        comes("", "2+3*4-5*6", -16);
        comes("", "1-99*99*99", -970298);
        comes("", "99*99*99-1", 970298);
        comes("", "0*99*99*99*99", 0);
        comes("let p be 99;let q be 98;", "p*q-q*p+p-q", 1);
        AnswersFirst x = Check.of("ask p*q+r-s;");
        due("at first", x.of(0, 0), 0);
        x.thing(0, 9);
        due("p is 9", x.of(0, 0), 0);
        x.thing(1, 8);
        due("q is 8", x.of(0, 0), 72);
        x.thing(2, 7);
        due("r is 7", x.of(0, 0), 79);
        x.thing(3, 99);
        due("s is 99", x.of(0, 0), -20);

        by(0, "at each step what is above 1000000 (below the same less) is that.");
        comes("", BELOW, 999999);
        comes("", BELOW + "+1", 1000000);
        comes("", BELOW + "+2", 1000000);
        comes("", BELOW + "+1-1", 999999);
        comes("", BELOW + "+2-1", 999999);
        comes("", BELOW + "-1+2", 1000000);
        comes("", "0-99*99*99-99*99*3-99*3", -999999);
        comes("", "0-99*99*99-99*99*3-99*3-1", -1000000);
        comes("", "0-99*99*99-99*99*3-99*3-2", -1000000);
        comes("", "0-99*99*99-99*99*3-99*3-2+1", -999999);
        comes("", "0-99*99*99-99*99*3-99*3-1+1", -999999);
        comes("", "50*50*40*10", 1000000);
        comes("", "50*50*40*10-1", 999999);
        comes("", "99*99*99*2", 1000000);
        comes("", "99*99*99*2-99*99*99", 29701);
        comes("", "99*99*99+99*99*99-99*99*99", 29701);
        comes("", "99*99*99-99*99*99+99*99*99", 970299);
        comes("", "(0-99)*99*99*2", -1000000);
        comes("", "(0-50)*50*40*10", -1000000);
        comes("", "(0-99)*99*99*2+1", -999999);
        comes("", "(99*99*99*99)*(99*99*99*99)", 1000000);
        comes("", "(99*99*99*99)*((0-99)*99*99*99)", -1000000);
        comes("", "((0-99)*99*99*99)*((0-99)*99*99*99)", 1000000);
        comes("", "99*99*99*99*0", 0);
        comes("", "99*99*99*99*99*99*99*99*99*99*99*99*99*99*99*99", 1000000);
        comes("", "99*99*99*99+99*99*99*99", 1000000);
        comes("", "0-99*99*99*99-99*99*99*99", -1000000);
        comes("", "more(99*99*99*99,0)-less(0-99*99*99*99,0)", 1000000);
    }

    private static void words() {
        String world = "born 60;born 50;born 9 of 0 and 1;born 8 of 1 and 0;born 7;path 0 to 5 long 99;path 5 to 2 long 8;";
        by(0, "age, kids (how many have that one as a PARENT): of PEOPLE of that number, -1 of others.");
        int[] ages = {60, 50, 9, 8, 7, -1, -1};
        int[] kids = {2, 2, 0, 0, 0, -1, -1};
        for (int i = 0; i < 7; i++) {
            comes(world, "age(" + i + ")", ages[i]);
            comes(world, "kids(" + i + ")", kids[i]);
        }
        comes(world, "age(0-1)", -1);
        comes(world, "kids(0-1)", -1);
        comes(world, "age(99*99*99*99)", -1);
        comes(world, "kids(0-99*99*99*99)", -1);
        comes("", "age(0)", -1);
        comes("", "kids(0)", -1);
        comes(times("born 5;", 8), "age(7)", 5);
        comes(times("born 5;", 8), "age(8)", -1);
        comes(times("born 5;", 7), "age(7)", -1);
        comes(times("born 5;", 8), "kids(7)", 0);
        comes(times("born 5;", 8), "kids(8)", -1);
        comes("born 0;born 0;" + times("born 0 of 1 and 0;", 6), "kids(0)*10+kids(1)", 66);
        AnswersFirst x = Check.of("ask kids(0);ask kids(1);born 5;born 5;");
        x.person(1, 0, -1);
        due("one parent alone", x.of(0, 0) * 10 + x.of(1, 0), 10);
        x.person(1, -1, 1);
        due("the other alone", x.of(0, 0) * 10 + x.of(1, 0), 11);

        by(0, "kin: KIN, way: WAY, -1 of others.");
        comes(world, "kin(0,1)", 2);
        comes(world, "kin(2,0)", 1);
        comes(world, "kin(4,4)", 0);
        comes(world, "kin(4,0)", -1);
        comes(world, "kin(5,5)", -1);
        comes(world, "kin(0,5)", -1);
        comes(world, "kin(5,0)", -1);
        comes(world, "kin(0-1,0-1)", -1);
        comes(world, "kin(0,0-1)", -1);
        comes(times("born 5;", 8), "kin(7,7)", 0);
        comes(times("born 5;", 8), "kin(8,8)", -1);
        comes(world, "way(0,2)", 107);
        comes(world, "way(2,5)", 8);
        comes(world, "way(5,5)", 0);
        comes(world, "way(0,1)", -1);
        comes(world, "way(6,6)", -1);
        comes(world, "way(0,6)", -1);
        comes(world, "way(6,0)", -1);
        comes(world, "way(0-1,0-1)", -1);
        comes(world, "way(99*99*99*99,0)", -1);

        by(0, "more, less: the greater, the lesser one.");
        comes("", "more(5,4)", 5);
        comes("", "more(4,5)", 5);
        comes("", "more(5,5)", 5);
        comes("", "less(5,4)", 4);
        comes("", "less(4,5)", 4);
        comes("", "less(5,5)", 5);
        comes("", "more(0-5,0-4)", -4);
        comes("", "less(0-5,0-4)", -5);
        comes("", "more(0-1,0)", 0);
        comes("", "less(0-1,0)", -1);
    }

    private static void ifs() {
        by(0, "Of if just the SUM that is chosen is worked.");
        comes("", "if 1<2?3:4 end", 3);
        comes("", "if 2<1?3:4 end", 4);
        comes("", "if 2<2?3:4 end", 4);
        comes("", "if 1=1?3:99*99*99*99*99 end", 3);
        comes("", "if 1=2?99*99*99*99*99:4 end", 4);
        comes("", "2*if 1<2?3:4 end+5", 11);
        comes("", "if if 1<2?1:0 end=1?if 5>6?7:8 end:9 end", 8);
    }

    private static int measure(String sum, int what) {
        return Check.of("ask " + sum + ";").of(0, what);
    }

    private static void measures() {
        by(0, "LEAVES: NUMBERS and THINGS, as often as they stand there.");
        String[] sums = {"p", "0", "p+p", "p*p*p-1", "((p))", "age(1)", "kin(p,p)", "if 1<1?1:1 end",
            "99*99+kids(0)", "if p<q?r+s:more(1,2) end", "p" + times("+p", 14), "p" + times("+p", 15)};
        int[] leaves = {1, 1, 2, 4, 1, 1, 2, 4, 3, 6, 15, 16};
        for (int i = 0; i < sums.length; i++) {
            due("leaves of " + sums[i], measure(sums[i], 1), leaves[i]);
        }

        by(0, "DEPTH: how many ( and if are open around one another at most.");
        String[] deep = {"p", "p+q*2", "(p)", "((p))", "(p)+(q)", "age(p)", "age((p))", "kin(p,(q))", "kin((p),q)",
            "if 1<2?3:4 end", "if (1)<2?3:4 end", "if 1<(2)?3:4 end", "if 1<2?(3):4 end", "if 1<2?3:((4)) end",
            "(if 1<2?3:4 end)", "more(1,less(2,way(3,4)))", "(((((((1)))))))", "((((((((1))))))))", "(1)+((2))+(3)"};
        int[] depths = {0, 0, 1, 2, 1, 1, 2, 2, 2, 1, 2, 2, 2, 3, 2, 3, 7, 8, 2};
        for (int i = 0; i < deep.length; i++) {
            due("depth of " + deep[i], measure(deep[i], 2), depths[i]);
        }
    }

    private static void wordBits() {
        by(0, "WORDS (bits): 0 .. 3 THINGS, 4 +, 5 -, 6 *, 7 ( of no word, 8 age, 9 kids, 10 kin, 11 way, 12 more, "
                + "13 less, 14 if.");
        String[] sums = {"p", "q", "r", "s", "1+1", "1-1", "1*1", "(1)", "age(1)", "kids(1)", "kin(1,1)", "way(1,1)",
            "more(1,1)", "less(1,1)", "if 1<1?1:1 end"};
        for (int bit = 0; bit < sums.length; bit++) {
            due("words of " + sums[bit], measure(sums[bit], 3), 1 << bit);
        }
        due("no word", measure("99", 3), 0);
        due("all", measure("(p+q-r*s)*age(kids(kin(1,way(2,more(3,less(4,if 1<2?3:4 end))))))", 3), 32767);
        due("in an if that isn't chosen", measure("if 1<2?3:p end", 3), 1 + (1 << 14));
        due("in each part of an if", measure("if p<q?r:s end", 3), 15 + (1 << 14));
        due("the ( of a word", measure("age((1))", 3), 128 + 256);
    }

    private static void of() {
        by(15, "Of a QUESTION: 0 its ANSWER, 1 LEAVES, 2 DEPTH, 3 WORDS (bits), 4 its greatest NUMBER (NONE: it has none).");
        AnswersFirst x = Check.of("ask (p)+99;ask p;ask 0;ask if 1<2?7:98 end;ask 5-9;ask 9-5;ask kin(3,3);");
        int[][] want = {{99, 2, 1, 128 + 16 + 1, 99}, {0, 1, 0, 1, -1}, {0, 1, 0, 0, 0}, {7, 4, 1, 1 << 14, 98},
            {-4, 2, 0, 32, 9}, {4, 2, 0, 32, 9}, {-1, 2, 1, 1024, 3}};
        for (int q = 0; q < want.length; q++) {
            for (int what = 0; what < 5; what++) {
                due("of(" + q + ", " + what + ")", x.of(q, what), want[q][what]);
            }
        }
        x.thing(0, 99);
        due("a thing is no number of it", x.of(1, 4), -1);
        due("of(1, 0)", x.of(1, 0), 99);

        by(15, "-2000000 for others.");
        due("of(7, 0)", x.of(7, 0), -2000000);
        due("of(-1, 0)", x.of(-1, 0), -2000000);
        due("of(0, 5)", x.of(0, 5), -2000000);
        due("of(0, -1)", x.of(0, -1), -2000000);
        due("of(6, 4) is none of them", x.of(6, 4), 3);
        for (int far : FAR) {
            due("of(" + far + ", 0)", x.of(far, 0), -2000000);
            due("of(0, " + far + ")", x.of(0, far), -2000000);
        }
        due("no question is told", new AnswersFirst().of(0, 0), -2000000);
    }
}
