import java.util.Set;

/** Texts of part II and promises 7 to 11: the tape, tokens, clauses, faults, and what is played. */
final class EdgesOfTexts extends Edge {
    private static final String[] OF_ONE = {"age", "kids"};
    private static final String[] OF_TWO = {"kin", "way", "more", "less"};

    static void all() {
        texts();
        tokens();
        clauses();
        sums();
        faultOne();
        faultTwo();
        faultThree();
        faultFour();
        faultFive();
        played();
        feed();
        end();
        text();
        faults();
        playedByHand();
    }

    private static void texts() {
        by(0, "==== II. TEXTS 0 .. 3: of up to 300 bytes.");
        for (int blanks = 290; blanks <= 292; blanks++) {
            good(times(" ", blanks) + "morning;");
        }
        fault(times("\n", 292) + "morning!", 1, 299);
        fault(times(" ", 293) + "morning", 1, 300);
        good(times(" ", 300));
        good("");
        AnswersFirst x = new AnswersFirst();
        for (int i = 0; i < 4; i++) {
            due("about(6)", x.about(6), i);
            due("a text", x.text(), i);
        }
        due("a fifth", x.text(), -1);
        due("about(6)", x.about(6), 4);
    }

    private static void tokens() {
        by(0, "TOKENS, blanks (32, 10) aside: letters a .. z, A .. Z one behind the other (one TOKEN)");
        for (int sign = 0; sign < 256; sign++) {
            boolean letter = sign >= 'a' && sign <= 'z' || sign >= 'A' && sign <= 'Z';
            String text = "ask p" + (char) sign + ";";
            if (sign == ' ' || sign == '\n') {
                good(text);
            } else if (letter) {
                fault(text, 1, 4);
            } else {
                fault(text, 1, sign == '+' || sign == '-' || sign == '*' || sign == ';' ? 6 : 5);
            }
            text = "ask " + (char) sign + "p;";
            if (sign == ' ' || sign == '\n') {
                good(text);
            } else {
                fault(text, 1, letter || !(sign >= '0' && sign <= '9' || sign == '(') ? 4 : sign == '(' ? 6 : 5);
            }
        }
        good("\n \nask\np\n+ \n q;\n");
        good("ask1;ask(p);let p be1;");
        fault("as k 1;", 1, 0);
        fault("askp;", 1, 0);
        fault("aSk p;", 1, 0);
        fault("ask P;", 1, 4);
        fault("let p be1of;", 1, 9);

        by(0, "digits likewise (NUMBERS, 0 .. 32767)");
        good("pupil 5 knows 32766 to 9 deep 1 long 1;");
        good("pupil 5 knows 32767 to 9 deep 1 long 1;");
        good("pupil 5 knows 0 to 9 deep 1 long 1;");
        good("pupil 5 knows 00000000000000000000000000032767 to 9 deep 1 long 1;");
        for (String number : new String[] {"32768", "65535", "65536", "98303", "2147483647", "2147483648", "4294967296",
            "4294967301", "18446744073709551616", "99999999999999999999999999999999"}) {
            fault("pupil 5 knows " + number + " to 9 deep 1 long 1;", 2, 14);
            fault("ask " + number + ";", 2, 4);
            fault("let p be " + number + ";", 2, 9);
        }
        fault("ask 1 2;", 1, 6);
        fault("let p be 1 1;", 1, 11);
        good("let p be 11;");

        by(0, "<= >= < > = # + - * ( ) , ; ? : (the longest).");
        for (String sign : new String[] {"<", "<=", ">", ">=", "=", "#"}) {
            good("ask if p" + sign + "q?1:2 end;");
            good("ask if p " + sign + " q ? 1 : 2 end ;");
            fault("ask if p" + sign + sign + "q?1:2 end;", 1, 8 + sign.length());
        }
        fault("ask if p< =q?1:2 end;", 1, 10);
        fault("ask if p> =q?1:2 end;", 1, 10);
        fault("ask if p<==q?1:2 end;", 1, 10);
        fault("ask if p=<q?1:2 end;", 1, 9);
        fault("ask if p=>q?1:2 end;", 1, 9);
        fault("ask if p<>q?1:2 end;", 1, 9);
        fault("ask if p##q?1:2 end;", 1, 9);
        good("ask (p+q-r*s);ask kin(p,q);");
    }

    // ---- clauses and sums: cut behind each token, and with another token in its place

    /** Behind so many tokens (of those that are parted by blanks) a ; can stand. */
    private static void cuts(String whole, Integer... enough) {
        String[] tokens = whole.split(" ");
        Set<Integer> good = Set.of(enough);
        StringBuilder text = new StringBuilder();
        for (int i = 0; i <= tokens.length; i++) {
            fault(text + "!", 1, text.length());
            if (i > 0) {
                fault(text.toString(), 1, text.length());
                if (good.contains(i)) {
                    good(text + ";");
                } else {
                    fault(text + ";", 1, text.length());
                }
            }
            if (i < tokens.length) {
                text.append(tokens[i]).append(' ');
            }
        }
        good(text + ";" + text + ";");
    }

    private static void clauses() {
        by(0, "{CLAUSE}, 24 at most:");
        good("");
        good("morning;");
        good(times("morning;", 23));
        good(times("morning;", 24));
        good(times("morning;", 24) + " \n ");
        fault(times("morning;", 25), 5, 192);
        fault(times("say 1;", 24) + "ask p;", 5, 144);
        AnswersFirst x = new AnswersFirst();
        due("24 clauses are played", Check.play(x, times("say 3;", 23) + "say 77;"), -1);
        due("about(4)", x.about(4), 77);

        by(0, "ask SUM ; (a QUESTION more)");
        cuts("ask 5", 2);
        due("one more", Check.of("ask 5;").about(0), 1);

        by(0, "let THING be NUMBER ;");
        cuts("let q be 5", 4);
        for (String other : new String[] {"t", "o", "pp", "1", "be", "ask"}) {
            fault("let " + other + " be 5;", 1, 4);
        }
        due("q", Check.of("let q be 5;").about(11), 5);

        by(0, "born NUMBER ; (AGE; without PARENTS)");
        due("born 9", Check.of("born 9;").about(30), 9);
        due("no step", Check.of("born 9;born 9;").kin(0, 1), -1);

        by(0, "born NUMBER of NUMBER and NUMBER ; (AGE, PARENTS)");
        cuts("born 9 of 0 and 1", 2, 6);
        x = Check.of("born 9;born 8;born 7 of 0 and 1;");
        due("the age", x.about(32), 7);
        due("one parent", x.kin(2, 0), 1);
        due("the other", x.kin(2, 1), 1);

        by(0, "path NUMBER to NUMBER long NUMBER ; (TOWNS, LONG)");
        cuts("path 0 to 1 long 5", 6);
        due("the road", Check.of("path 2 to 4 long 5;").way(4, 2), 5);

        by(0, "say NUMBER ; (EQUALITIES)");
        cuts("say 5", 2);
        due("the equalities", Check.of("say 5;").about(4), 5);

        by(0, "pupil NUMBER knows NUMBER to NUMBER deep NUMBER long NUMBER ; (AGE, WORDS, the greatest NUMBER, DEPTH, "
                + "LEAVES)");
        cuts("pupil 7 knows 30 to 6 deep 5 long 4", 10);
        x = Check.of("pupil 7 knows 30 to 2 deep 1 long 2;ask q+s+2;ask (q+2);ask 3;ask ((q));ask p;");
        due("the age", x.about(20), 7);
        due("the words", x.about(40), 30);
        int[] lacks = {1 << 17, 1 << 7, 1 << 15, 1 << 16 | 1 << 7, 1};
        for (int q = 0; q < 5; q++) {
            due("lacks(0, " + q + ")", x.lacks(0, q), lacks[q]);
        }

        by(0, "answer NUMBER ;");
        cuts("answer 5", 2);
        due("the answer", Check.of("answer 5;").about(3), 5);

        by(0, "asks NUMBER NUMBER ; (a PUPIL, a QUESTION)");
        cuts("asks 5 4", 3);
        x = Check.of("ask 1;ask 0;" + KNOWING + KNOWING + "asks 1 1;");
        due("the pupil", x.asked(0, false), 1);
        due("the question", x.asked(0, true), 1);

        by(0, "morning ;.");
        cuts("morning", 1);
        x = Check.of("ask 0;ask p;" + KNOWING + KNOWING + "morning;");
        due("two have asked", x.about(5), 2);
        // a clause by its first word alone, and none by a word that stands in another one
        for (String word : "be of and to long knows deep age kids kin way more less if end p q r s".split(" ")) {
            fault(word + " 5;", 1, 0);
        }
    }

    private static void sums() {
        by(0, "SUM: PRODUCT {+ or - PRODUCT}.");
        cuts("ask p + 1 - q", 2, 4, 6);
        fault("ask +p;", 1, 4);
        fault("ask -p;", 1, 4);
        fault("ask p+-q;", 1, 6);
        fault("ask p--q;", 1, 6);
        fault("ask p+;", 1, 6);

        by(0, "PRODUCT: ONE {* ONE}.");
        cuts("ask p * 1 * q", 2, 4, 6);
        fault("ask *p;", 1, 4);
        fault("ask p**q;", 1, 6);
        fault("ask p*-q;", 1, 6);
        fault("ask p q;", 1, 6);
        fault("ask 2(p);", 1, 5);

        by(0, "ONE: NUMBER, THING, ( SUM ), age ( SUM ), kids ( SUM ), kin ( SUM , SUM ), way ( SUM , SUM ), "
                + "more ( SUM , SUM ), less ( SUM , SUM ), or if SUM CMP SUM ? SUM : SUM end.");
        cuts("ask ( p + 1 )", 6);
        cuts("ask ( ( 1 ) )", 6);
        for (String word : OF_ONE) {
            cuts("ask " + word + " ( p + 1 )", 7);
            fault("ask " + word + " (p,q);", 1, 7 + word.length());
        }
        for (String word : OF_TWO) {
            cuts("ask " + word + " ( p * 2 , q - 1 )", 11);
            fault("ask " + word + " (p);", 1, 7 + word.length());
            fault("ask " + word + " (p,q,r);", 1, 9 + word.length());
            fault("ask " + word + " ();", 1, 6 + word.length());
        }
        cuts("ask if p + 1 < q * 2 ? r - 3 : s + 4 end", 18);
        cuts("ask if if 1 < 2 ? 3 : 4 end = 5 ? 6 : 7 end", 18);
        cuts("ask p * if p < q ? 1 : 2 end + 3", 2, 12, 14);
        fault("ask if p?1:2 end;", 1, 8);
        fault("ask if p<q:1?2 end;", 1, 10);
        fault("ask if p<q?1?2 end;", 1, 12);
        fault("ask if p<q?1:2;", 1, 14);
        fault("ask if p<q?1 end;", 1, 13);
        fault("ask if (p<q)?1:2 end;", 1, 9);
        fault("ask end;", 1, 4);

        by(0, "CMP: one of < <= > >= = # (unlike).");
        String[] signs = {"<", "<=", ">", ">=", "=", "#"};
        int[][] want = {{1, 0, 0}, {1, 1, 0}, {0, 0, 1}, {0, 1, 1}, {0, 1, 0}, {1, 0, 1}};
        for (int i = 0; i < signs.length; i++) {
            for (int p = 0; p < 3; p++) {
                comes("let p be " + (4 + p) + ";", "if p" + signs[i] + "5?1:0 end", want[i][p]);
            }
        }
        fault("ask if p+q?1:2 end;", 1, 10);
        fault("ask if p<q<r?1:2 end;", 1, 10);
        fault("ask p<q;", 1, 5);
    }

    // ---- faults

    private static void faultOne() {
        by(0, "FAULTS, the first as TOKENS are come to");
        fault("ask 100;!", 2, 4);
        fault("ask !;ask 100;", 1, 4);
        fault("let p be 100 100;", 2, 9);
        fault("let p p be 100;", 1, 6);
        fault("ask 1+1+1+1+1+1+1+1+1+1+1+1+1+1+1+1+1+100;", 4, 36);
        fault("ask (((((((((100;", 3, 12);
        fault(times("morning;", 25) + "sing;", 5, 192);

        by(0, "at the TOKEN's first byte (of the end at the length)");
        fault("let people be 1;", 1, 4);
        fault("let p be  100;", 2, 10);
        fault("let p be\n\n12345;", 2, 10);
        fault("ask  <=1;", 1, 5);
        fault("a", 1, 0);
        fault("ask", 1, 3);
        fault("ask ", 1, 4);
        fault("ask p", 1, 5);
        fault("ask p   ", 1, 8);
        fault("ask p \n", 1, 7);
        fault("ask p;ask", 1, 9);
        fault("ask p" + times(" ", 294), 1, 299);
        fault("ask p" + times(" ", 295), 1, 300);

        by(0, "of one the least: 1 it can't stand there, or is none.");
        // the 17th leaf, a number above 99 and what can't stand there in one
        String sixteen = "1+1+1+1+1+1+1+1+1+1+1+1+1+1+1+1";
        fault("ask " + sixteen + "+1;", 4, 36);
        fault("ask " + sixteen + "+100;", 2, 36);
        fault("ask " + sixteen + " 100;", 1, 36);
        fault("ask " + sixteen + " p;", 1, 36);
        fault("ask p 100;", 1, 6);
        fault("ask ((((((((1(1)))))))));", 1, 13);
        fault("ask ((((((((1 if 1<2?3:4 end))))))));", 1, 14);
        fault("ask ((((((((age 1))))))));", 1, 16);
        fault(times("morning;", 24) + "sing;", 1, 192);
        fault(times("morning;", 24) + "!", 1, 192);
        fault(times("morning;", 24) + "1", 1, 192);
        fault(times("morning;", 24) + ";", 1, 192);
        fault(times("morning;", 24) + "be", 1, 192);
        for (String word : "ask let born path say pupil answer asks morning".split(" ")) {
            fault(times("morning;", 24) + word, 5, 192);
        }
        // none at all
        for (String none : new String[] {"!", ".", "/", "_", "[", "'", "\t", "\r", "\0", "" + (char) 128, "" + (char) 255}) {
            fault(none, 1, 0);
            fault("ask " + none, 1, 4);
            fault("ask p;" + none, 1, 6);
        }
    }

    /** A number from low to high between two pieces of a clause. */
    private static void range(String ahead, int low, int high, String behind) {
        good(ahead + low + behind);
        good(ahead + (low + 1) + behind);
        good(ahead + (high - 1) + behind);
        good(ahead + high + behind);
        good(ahead + "000" + high + behind);
        fault(ahead + (high + 1) + behind, 2, ahead.length());
        fault(ahead + "32767" + (high == 32767 ? "0" : "") + behind, 2, ahead.length());
        fault(ahead + "-1" + behind, 1, ahead.length());
        if (!ahead.startsWith("ask ")) {
            fault(ahead + "p" + behind, 1, ahead.length());
        }
        if (low > 0) {
            fault(ahead + (low - 1) + behind, 2, ahead.length());
        }
    }

    private static void faultTwo() {
        by(0, "2 a NUMBER that isn't one of those told (in a SUM above 99;");
        range("ask ", 0, 99, ";");
        range("ask p+q*", 0, 99, ";");
        range("ask (", 0, 99, ");");
        range("ask age(", 0, 99, ");");
        range("ask kids(1)-kin(2,", 0, 99, ");");
        range("ask if p<", 0, 99, "?1:2 end;");
        range("ask if p<q?1:", 0, 99, " end;");
        by(0, "AGES of PEOPLE 0 .. 99");
        range("born ", 0, 99, ";");
        range("born ", 0, 99, " of 1 and 2;");
        by(0, "PEOPLE 0 .. 7, TOWNS 0 .. 5, LONG");
        range("born 5 of ", 0, 7, " and 0;");
        range("born 5 of 0 and ", 0, 7, ";");
        by(0, "TOWNS 0 .. 5, LONG");
        range("path ", 0, 5, " to 1 long 9;");
        range("path 1 to ", 0, 5, " long 9;");
        by(0, "LONG 1 .. 99, EQUALITIES");
        range("path 1 to 2 long ", 1, 99, ";");
        by(0, "EQUALITIES 0 .. 255");
        range("say ", 0, 255, ";");
        by(0, "AGES of PUPILS 1 .. 99");
        range("pupil ", 1, 99, " knows 1 to 1 deep 1 long 1;");
        by(0, "WORDS 0 .. 32767");
        range("pupil 1 knows ", 0, 32767, " to 1 deep 1 long 1;");
        by(0, "the greatest NUMBER 0 .. 99");
        range("pupil 1 knows 1 to ", 0, 99, " deep 1 long 1;");
        by(0, "DEPTH 0 .. 8");
        range("pupil 1 knows 1 to 1 deep ", 0, 8, " long 1;");
        by(0, "LEAVES 1 .. 16");
        range("pupil 1 knows 1 to 1 deep 1 long ", 1, 16, ";");
        by(0, "PUPILS 0 .. 5");
        range("asks ", 0, 5, " 1;");
        by(0, "QUESTIONS 0 .. 11");
        range("asks 1 ", 0, 11, ";");
        by(0, "of let 0 .. 99");
        range("let p be ", 0, 99, ";");
        range("let s be ", 0, 99, ";");
        by(0, "of answer 0 .. 9999).");
        range("answer ", 0, 9999, ";");
    }

    private static void faultThree() {
        by(0, "3 the 9th of ( and if that are open around one another (at it).");
        String open = "((((((((";
        String shut = "))))))))";
        good("ask " + open.substring(1) + "1" + shut.substring(1) + ";");
        good("ask " + open + "1" + shut + ";");
        fault("ask " + open + "(1)" + shut + ";", 3, 12);
        fault("ask " + open + "(", 3, 12);
        for (String word : OF_ONE) {
            good("ask " + open.substring(1) + word + "(1)" + shut.substring(1) + ";");
            fault("ask " + open + word + " (1)" + shut + ";", 3, 13 + word.length());
            String eight = times(word + "(", 8);
            good("ask " + eight + "1" + shut + ";");
            fault("ask " + eight + "(1)" + shut + ";", 3, 4 + eight.length());
        }
        for (String word : OF_TWO) {
            good("ask " + open.substring(1) + word + "(1,2)" + shut.substring(1) + ";");
            fault("ask " + open + word + " (1,2)" + shut + ";", 3, 13 + word.length());
            String seven = open.substring(1);
            String behind = "2" + shut.substring(1);
            good("ask " + word + "(" + seven + behind + "," + seven + behind + ");");
            int at = word.length() + 12;
            fault("ask " + word + "(" + open + "1" + shut + ",2);", 3, at);
            fault("ask " + word + "(1," + open + "1" + shut + ");", 3, at + 2);
        }
        good("ask " + open.substring(1) + "if 1<2?3:4 end" + shut.substring(1) + ";");
        fault("ask " + open + "if 1<2?3:4 end" + shut + ";", 3, 12);
        fault("ask if if if if if if if if 1", 1, 29);
        fault("ask if if if if if if if if (1", 3, 28);
        fault("ask if if if if if if if if if 1", 3, 28);
        String ifs = "ask if 1<2?3:if 1<2?3:if 1<2?3:if 1<2?3:if 1<2?3:";
        String ends = " end end end end end";
        good(ifs + "(((p)))" + ends + ";");
        fault(ifs + "((((p))))" + ends + ";", 3, ifs.length() + 3);
        fault(ifs + "(((if p<p?p:p end)))" + ends + ";", 3, ifs.length() + 3);
        // those that were shut again are not open
        good("ask " + open + "1" + shut + "+" + open + "1" + shut + "*" + open + "1" + shut + ";ask " + open + "1" + shut + ";");
        String part = "(((((((1)))))))";
        good("ask if " + part + "<" + part + "?" + part + ":" + part + " end+" + "(" + part + ");");
        for (int i = 0; i < 4; i++) {
            String[] in = {"1", "1", "1", "1"};
            in[i] = "(" + part + ")";
            fault("ask if " + in[0] + "<" + in[1] + "?" + in[2] + ":" + in[3] + " end;", 3, 14 + 2 * i);
        }
    }

    private static void faultFour() {
        by(0, "4 the 17th LEAF of one SUM (at it).");
        String fifteen = "p" + times("+1", 14);
        good("ask " + fifteen + ";");
        good("ask " + fifteen + "*s;");
        good("ask " + fifteen + "*99;");
        fault("ask " + fifteen + "*s-r;", 4, 36);
        fault("ask " + fifteen + "*s-0;", 4, 36);
        fault("ask " + fifteen + "*(s-  99);", 4, 39);
        good("ask " + fifteen + "*s;ask " + fifteen + "*s;ask 1;");
        fault("ask " + fifteen + "*s;ask " + fifteen + "*s*p;", 4, 72);
        // within words and ifs they count as well
        good("ask if 1<2?3:4 end+kin(5,6)+way(7,8)+more(9,10)+less(11,12)+age(13)+kids(14)+(15)+16;");
        fault("ask if 1<2?3:4 end+kin(5,6)+way(7,8)+more(9,10)+less(11,12)+age(13)+kids(14)+(15)+16+p;", 4, 85);
        fault("ask if 1<2?3:4 end+kin(5,6)+way(7,8)+more(9,10)+less(11,12)+age(13)+kids(14)+(15+(16+(p)));", 4, 86);
        fault("ask if " + fifteen + "<1?2:3 end;", 4, 39);
    }

    private static void faultFive() {
        by(0, "5 the 25th CLAUSE (at its first TOKEN).");
        String most = times("morning;", 23);
        good(most + "ask p;");
        fault(most + "ask p;ask p;", 5, 190);
        fault(most + "ask p; \n ask p;", 5, 193);
        fault(most + "ask p;ask", 5, 190);
        fault(most + "ask p;ask 100;", 5, 190);
        fault(most + "ask p;sing", 1, 190);
        good(most + "ask p; \n ");
        fault(most + "ask 100;ask p;", 2, 188);
    }

    // ---- what is played

    private static void played() {
        by(0, "PLAYED by a TEXT: its CLAUSES, in their order, as by hand;");
        AnswersFirst x = new AnswersFirst();
        String text = "answer 5;ask p+0;let p be 4;let p be 5;born 3;born 2 of 0 and 1;say 4;";
        due("up to the parent who isn't told", Check.play(x, text), 5);
        due("the latest let", x.about(10), 5);
        due("a text without clauses", Check.play(x, ""), -1);
        AnswersFirst y = new AnswersFirst();
        Check.type(y, "ask p+0;");
        y.text();
        y.played(0);
        y.answer(5);
        y.thing(0, 5);
        y.person(3, -1, -1);
        y.person(2, 0, 1);
        Check.type(y, "");
        y.text();
        same("the same by hand", state(y), state(x));
        x = Check.of("ask 0;" + KNOWING + "asks 0 0;");
        due("asked in its order", x.about(5), 1);
        due("asked ahead of it", Check.play(new AnswersFirst(), "asks 0 0;ask 0;" + KNOWING), 0);
        x = Check.of("ask p;ask q;answer 1;" + KNOWING + KNOWING + "let q be 1;morning;let p be 1;let q be 0;morning;");
        due("the world of its place", x.asked(0, true), 1);
        due("the world of its place", x.asked(1, true), 0);
        x = Check.of("ask 0;ask 0+0;" + KNOWING + KNOWING + "asks 0 0;say 4;morning;say 0;");
        due("the equalities of its place", x.about(5), 1);

        by(0, "one that can't be ends it: its number (from 0); what was done stays.");
        String[] cant = {"born 1 of 7 and 6;", "path 3 to 3 long 1;", "asks 5 11;"};
        for (String clause : cant) {
            for (int at = 0; at < 4; at++) {
                String[] all = {"let p be 1;", "let q be 1;", "let r be 1;", "let s be 1;"};
                all[at] = clause + all[at];
                x = new AnswersFirst();
                due(clause + " at " + at, Check.play(x, all[0] + all[1] + all[2] + all[3]), at);
                for (int t = 0; t < 4; t++) {
                    due("thing " + t + " then", x.about(10 + t), t < at ? 1 : 0);
                }
            }
        }
        x = new AnswersFirst();
        due("the last one of 24", Check.play(x, times("say 1;", 23) + "asks 0 0;"), 23);
        due("the last but one", Check.play(x, times("say 1;", 22) + "asks 0 0;say 2;"), 22);
        due("what was done", x.about(4), 1);
    }

    private static void playedByHand() {
        by(11, "PLAYED by a TEXT: NONE: all is done; else the number of the CLAUSE that can't be");
        AnswersFirst x = new AnswersFirst();
        due("all", Check.play(x, "let p be 9;born 1;morning;"), -1);
        due("p", x.about(10), 9);
        due("again", x.played(0), -1);
        due("two people", x.about(1), 2);
        due("the first one", Check.play(x, "asks 0 0;let p be 8;"), 0);
        due("the second one", Check.play(x, "let p be 7;asks 0 0;let p be 8;"), 1);
        due("p then", x.about(10), 7);

        by(11, "(12 QUESTIONS");
        x = new AnswersFirst();
        due("11", Check.play(x, times("ask p;", 11)), -1);
        due("12, 13", Check.play(x, "let p be 1;ask 7;let p be 2;ask 8;let p be 3;"), 3);
        due("12 there are", x.about(0), 12);
        due("the twelfth", x.of(11, 0), 7);
        due("no thirteenth", x.of(12, 0), -2000000);
        due("p then", x.about(10), 2);
        due("none more", x.played(0), 0);

        by(11, "8 PEOPLE");
        x = new AnswersFirst();
        due("7", Check.play(x, times("born 1;", 7)), -1);
        due("8, 9", Check.play(x, "born 2;let p be 2;born 3;let p be 3;"), 2);
        due("8 there are", x.about(1), 8);
        due("p then", x.about(10), 2);
        due("with parents neither", Check.play(x, "born 3 of 0 and 1;"), 0);

        by(11, "6 PUPILS are told;");
        x = new AnswersFirst();
        String pupil = "pupil 5 knows 1 to 1 deep 1 long 1;";
        due("5", Check.play(x, times(pupil, 5)), -1);
        due("6, 7", Check.play(x, "pupil 8 knows 1 to 1 deep 1 long 1;let p be 2;" + pupil + "let p be 3;"), 2);
        due("6 there are", x.about(2), 6);
        due("the sixth", x.about(25), 8);
        due("p then", x.about(10), 2);

        by(11, "PARENTS that aren't or are one;");
        x = Check.of("born 1;born 2;");
        due("aren't", Check.play(x, "born 3 of 0 and 2;"), 0);
        due("aren't", Check.play(x, "born 3 of 2 and 0;"), 0);
        due("are one", Check.play(x, "born 3 of 1 and 1;"), 0);
        due("about(1)", x.about(1), 2);
        x = Check.of("born 1;born 2;");
        due("are", Check.play(x, "born 3 of 0 and 1;"), -1);
        due("are, then oneself", Check.play(x, "born 4 of 2 and 0;born 5 of 4 and 0;"), 1);
        due("about(1)", x.about(1), 4);

        by(11, "TOWNS that are one;");
        x = new AnswersFirst();
        for (int town = 0; town < 6; town += 5) {
            int other = town == 0 ? 1 : 4;
            String text = "path " + town + " to " + other + " long 9;path " + town + " to " + town + " long 9;say 7;";
            due(text, Check.play(x, text), 1);
            due("what was done", x.way(other, town), 9);
            due("what wasn't", x.about(4), 0);
        }

        by(11, "what can't be ASKED).");
        String all = "ask 1;ask 2;ask 1+0;answer 1;" + KNOWING + "pupil 5 knows 0 to 9 deep 8 long 16;";
        x = Check.of(all);
        due("another answer", Check.play(x, "asks 0 1;"), 0);
        due("one who can't ask it", Check.play(x, "asks 1 2;"), 0);
        due("one who has asked", Check.play(x, "asks 0 0;asks 0 2;"), 1);
        x = Check.of(all);
        due("one that was asked", Check.play(x, "asks 0 0;asks 1 0;"), 1);
        due("a pupil who isn't told", Check.play(x, "asks 2 0;"), 0);
        due("a question that isn't told", Check.play(x, "asks 1 3;"), 0);
        x = Check.of(all + KNOWING + "say 4;");
        due("one that is alike", Check.play(x, "asks 0 0;asks 2 2;"), 1);
        due("one has asked", x.about(5), 1);
        x = Check.of("ask 1;ask 2;" + KNOWING);
        due("a morning in which nobody asks", Check.play(x, "answer 9;morning;say 3;"), -1);
        due("about(4)", x.about(4), 3);

        by(11, "-2 for others.");
        x = new AnswersFirst();
        for (int texts = 0; texts < 4; texts++) {
            due("played(" + texts + ") of as many", x.played(texts), -2);
            due("text()", x.text(), texts);
            due("played(" + texts + ")", x.played(texts), -1);
        }
        due("played(4)", x.played(4), -2);
        due("played(-1)", x.played(-1), -2);
        for (int far : FAR) {
            due("played(" + far + ")", x.played(far), -2);
        }
        x.back();
        due("played(0) after back()", x.played(0), -2);
    }

    // ---- the tape

    private static void feed() {
        by(7, "Twenty bytes come behind the tape, the highest of a first: how many it has.");
        AnswersFirst x = new AnswersFirst();
        String text = "let p be 98;say 76; ";
        due("feed", x.feed(Check.word(text, 0), Check.word(text, 4), Check.word(text, 8), Check.word(text, 12),
                Check.word(text, 16)), 20);
        due("feed", x.feed(0x61736b20, 0x313b6173, 0x6b20323b, 0x61736b20, 0x333b6173), 40);
        due("about(9)", x.about(9), 40);
        due("feed", x.feed(0x6b20343b, 0, 0, 0, 0), 60);
        due("end", x.end(44), 44);
        due("text()", x.text(), 0);
        due("played(0)", x.played(0), -1);
        due("p", x.about(10), 98);
        due("say", x.about(4), 76);
        for (int q = 0; q < 4; q++) {
            due("of(" + q + ", 0)", x.of(q, 0), q + 1);
        }
        // each of the twenty places, by a byte that is no token there: above 127 too
        for (int at = 0; at < 20; at++) {
            x = new AnswersFirst();
            int[] words = {0x20202020, 0x20202020, 0x20202020, 0x20202020, 0x20202020};
            int shift = 24 - at % 4 * 8;
            words[at / 4] = words[at / 4] & ~(255 << shift) | (at % 2 == 0 ? 233 : 255) << shift;
            due("feed", x.feed(words[0], words[1], words[2], words[3], words[4]), 20);
            due("text()", x.text(), -1);
            due("the place of byte " + at, x.fault(1), at);
        }

        by(7, "NONE, and none come, if there would be more than 300.");
        for (int length = 279; length <= 281; length++) {
            x = new AnswersFirst();
            int blanks = 0x20202020;
            for (int i = 0; i < 15; i++) {
                x.feed(blanks, blanks, blanks, blanks, blanks);
            }
            due("end", x.end(length), length);
            due("feed behind " + length, x.feed(-1, -1, -1, -1, -1), length <= 280 ? length + 20 : -1);
            due("about(9)", x.about(9), length <= 280 ? length + 20 : length);
            due("text()", x.text(), length <= 280 ? -1 : 0);
            due("fault(1)", x.fault(1), length <= 280 ? length : -1);
            due("feed to an empty tape", x.feed(-1, -1, -1, -1, -1), 20);
        }
        x = new AnswersFirst();
        for (int i = 1; i <= 15; i++) {
            due("feed " + i, x.feed(i, i, i, i, i), 20 * i);
        }
        due("feed 16", x.feed(0, 0, 0, 0, 0), -1);
        due("feed 17", x.feed(0, 0, 0, 0, 0), -1);
        due("about(9)", x.about(9), 300);
    }

    private static void end() {
        by(8, "The tape has its first n bytes alone: n.");
        AnswersFirst x = new AnswersFirst();
        due("end(0) of nothing", x.end(0), 0);
        Check.type(x, "say 1;say 2;say 3;");
        due("end(18): as many as there are", x.end(18), 18);
        due("about(9)", x.about(9), 18);
        due("end(12)", x.end(12), 12);
        due("about(9)", x.about(9), 12);
        x.text();
        x.played(0);
        due("the first two", x.about(4), 2);
        Check.type(x, "say 9;");
        due("end(0)", x.end(0), 0);
        due("text()", x.text(), 1);
        due("nothing is in it", x.played(1) * 100 + x.about(4), -98);
        for (int i = 0; i < 15; i++) {
            x.feed(0, 0, 0, 0, 0);
        }
        due("end(300)", x.end(300), 300);
        due("end(299)", x.end(299), 299);

        by(8, "NONE, and nothing is done, if it has not so many, or n is below 0.");
        x = new AnswersFirst();
        due("end(1) of nothing", x.end(1), -1);
        Check.type(x, "say 77;");
        due("end(8) of 7", x.end(8), -1);
        due("end(20) of what was cut", x.end(20), -1);
        due("end(-1)", x.end(-1), -1);
        for (int far : FAR) {
            due("end(" + far + ")", x.end(far), -1);
        }
        due("about(9)", x.about(9), 7);
        x.text();
        x.played(0);
        due("about(4)", x.about(4), 77);
        due("end(1) of what was read", x.end(1), -1);
    }

    private static void text() {
        by(9, "The tape (empty then) is a TEXT: its number.");
        AnswersFirst x = new AnswersFirst();
        for (int i = 0; i < 4; i++) {
            Check.type(x, "say " + (i + 5) + ";");
            due("text()", x.text(), i);
            due("the tape is empty then", x.about(9), 0);
            due("about(6)", x.about(6), i + 1);
        }
        for (int i = 3; i >= 0; i--) {
            x.played(i);
            due("the text " + i, x.about(4), i + 5);
        }

        by(9, "NONE: it has a FAULT;");
        x = new AnswersFirst();
        String before = state(x);
        Check.type(x, "say 7;say 256;");
        due("text()", x.text(), -1);
        due("the tape is empty then", x.about(9), 0);
        due("about(6)", x.about(6), 0);
        due("nothing is done", x.about(4), 0);
        due("played(0)", x.played(0), -2);
        same("all but the fault stays", state(x), before.replace(" -1 -1 1 0 -1", " 2 10 1 0 -1"));
        Check.type(x, "say 255;");
        due("the next one", x.text(), 0);
        due("played(0)", x.played(0), -1);
        due("about(4)", x.about(4), 255);

        // however often one has a fault, nothing of it is kept
        String longest = times("ask p+1+p+1+p+1+p+1+p+1+p+1+p+1+p+1;", 8);
        for (int i = 0; i < 12; i++) {
            Check.type(x, longest + "ask");
            due("a long one", x.text(), -1);
            due("its place", x.fault(1), longest.length() + 3);
        }
        Check.type(x, longest);
        due("without a fault", x.text(), 1);
        due("played(1)", x.played(1), -1);
        due("of(7, 1)", x.of(7, 1), 16);
        due("of(7, 0)", x.of(7, 0), 8);

        by(9, "or (the tape stays) there are 4.");
        x = new AnswersFirst();
        for (int i = 0; i < 3; i++) {
            Check.type(x, "say 1;");
            x.text();
        }
        Check.type(x, "say 2;");
        due("the fourth", x.text(), 3);
        Check.type(x, "say 3;");
        due("a fifth", x.text(), -1);
        due("the tape stays", x.about(9), 6);
        due("about(6)", x.about(6), 4);
        due("fault(0)", x.fault(0), 0);
        due("a fifth again", x.text(), -1);
        due("the fourth is what it was", x.played(3) * 100 + x.about(4), -98);
        due("feed behind it", x.feed(0, 0, 0, 0, 0), 26);
        x.end(6);
        x.back();
        due("there are none", x.text(), 0);
        due("what stayed is played", x.played(0) * 100 + x.about(4), -97);
    }

    private static void faults() {
        by(10, "Of the latest text that was read: 0 its FAULT (0 without), 1 its place (NONE without).");
        AnswersFirst x = new AnswersFirst();
        String[] texts = {"ask p", "say 256;", "ask (((((((((", "ask p" + times("+1", 16) + ";", times("say 1;", 25), "say 1;"};
        int[][] want = {{1, 5}, {2, 4}, {3, 12}, {4, 36}, {5, 144}, {0, -1}};
        for (int i = 0; i < texts.length; i++) {
            Check.type(x, texts[i]);
            x.text();
            due("fault(0)", x.fault(0), want[i][0]);
            due("fault(1)", x.fault(1), want[i][1]);
            x.feed(-1, -1, -1, -1, -1);
            x.end(0);
            x.image();
            x.back();
            due("fault(0) stays", x.fault(0), want[i][0]);
            due("fault(1) stays", x.fault(1), want[i][1]);
        }
        Check.type(x, "!");
        x.text();
        due("a fault at 0", x.fault(1), 0);

        by(10, "NONE for others, and ahead of any.");
        due("fault(2)", x.fault(2), -1);
        due("fault(-1)", x.fault(-1), -1);
        for (int far : FAR) {
            due("fault(" + far + ")", x.fault(far), -1);
        }
        x = new AnswersFirst();
        due("fault(0) ahead of any", x.fault(0), -1);
        due("fault(1) ahead of any", x.fault(1), -1);
        x.feed(-1, -1, -1, -1, -1);
        x.back();
        due("fault(0) of a tape that wasn't read", x.fault(0), -1);
        due("fault(1) of a tape that wasn't read", x.fault(1), -1);
        x.text();
        due("fault(0) of one that was", x.fault(0), 1);
    }
}
