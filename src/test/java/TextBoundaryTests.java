/** The boundary cases of the laws (the document's Term II): what a text may hold, where its fault lies, what it means. */
public final class TextBoundaryTests {
    private static final int NONE = KeyholeWeave.NONE;
    private static int wrong = 0;
    private static String sentence = "";

    private static void due(String call, int got, int want) {
        if (got == want) return;
        wrong++;
        System.out.println("'" + sentence + "': " + call + " answered " + got + ", due is " + want);
    }

    /** Puts a text on the tape in the place of what is there. */
    private static void write(KeyholeWeave k, String text) {
        k.end(0);
        for (int i = 0; i < text.length(); i += 20) {
            int[] n = new int[5];
            for (int j = 0; j < 20 && i + j < text.length(); j++) {
                n[j / 4] |= text.charAt(i + j) << 8 * (3 - j % 4);
            }
            due("feed", k.feed(n[0], n[1], n[2], n[3], n[4]), i + 20);
        }
        due("end of '" + text + "'", k.end(text.length()), text.length());
    }

    private static int law(KeyholeWeave k, String text) {
        write(k, text);
        return k.law();
    }

    /** An object whose latest fault is at a place that no text of these tests has. */
    private static KeyholeWeave ahead() {
        KeyholeWeave k = new KeyholeWeave();
        law(k, "weaves 1");
        law(k, " ".repeat(377));
        return k;
    }

    private static void reads(String text) {
        KeyholeWeave k = ahead();
        due("law() of '" + text + "'", law(k, text), 1);
        due("fault() of '" + text + "'", k.fault(), NONE);
        due("status() of '" + text + "'", k.status(), 0);
        due("count(1) behind '" + text + "'", k.count(1), 2);
        due("count(2) behind '" + text + "'", k.count(2), 0);
        due("count(6) behind '" + text + "'", k.count(6), 1);
    }

    private static void faulty(String text, int place) {
        KeyholeWeave k = ahead();
        due("law() of '" + text + "'", law(k, text), -6);
        due("fault() of '" + text + "'", k.fault(), place);
        due("status() of '" + text + "'", k.status(), -6);
        due("count(1) behind '" + text + "'", k.count(1), 1);
        due("count(2) behind '" + text + "'", k.count(2), 0);
        due("count(6) behind '" + text + "'", k.count(6), 2);
        due("force(1) behind '" + text + "'", k.force(1), -2);
    }

    /** One village that sees the two upper lines of a picture of 3s, and likes 5, weaves by a law. */
    private static KeyholeWeave ruled(String text) {
        KeyholeWeave k = new KeyholeWeave();
        write(k, "\0" + "\3".repeat(36));
        k.row();
        k.village(0, 0, 6, 2);
        k.put(0, 0, 5);
        due("law() of '" + text + "'", law(k, text), 0);
        due("force(0)", k.force(0), NONE);
        return k;
    }

    private static void weaves(String text, int cell, int colour) {
        due("woven(0, " + cell + ", 0) by '" + text + "'", ruled(text).woven(0, cell, 0), colour);
    }

    /** Whether the clause behind "weaves 1" holds, with whatever it tells moved up to 7. */
    private static void holds(String test) {
        weaves("weaves 1; weaves 7 if " + test, 0, 7);
    }

    private static void holdsNot(String test) {
        weaves("weaves 1; weaves 7 if " + test, 0, 1);
    }

    private static void tapeOf400() {
        sentence = "on a TAPE of at most 400 bytes";
        reads("weaves 1" + " ".repeat(392));
        reads(" ".repeat(392) + "weaves 1");
        reads("weaves " + "0".repeat(392) + "1");
        faulty("weaves " + "0".repeat(389) + "1001", 7);
        faulty("weaves " + "x".repeat(393), 7);
        faulty("weaves 1+" + " ".repeat(391), 400);
        faulty(" ".repeat(400), 400);
        faulty("weaves 1" + " ".repeat(391) + "1", 399);
        faulty("weaves 1 if" + " not".repeat(97), 399);
        faulty("weaves 1 if" + " not".repeat(97) + " ", 400);
        reads("weaves 1 if" + " not".repeat(96) + " 1=1");
        faulty("[".repeat(400), 0);
        faulty(";".repeat(400), 0);
        faulty("\u00ff".repeat(400), 0);
        weaves("weaves 6 if" + " not".repeat(96) + " 1=1", 0, 6);
        weaves("weaves 6 if" + " not".repeat(95) + " 1=1", 0, 3);
        weaves("weaves " + "0".repeat(392) + "1", 0, 1);
    }

    private static void letters() {
        sentence = "TOKENS: longest rows of letters a .. z, of digits, single other bytes, any blanks (32) between";
        for (int b = 0; b < 256; b++) {
            String text = "weaves x" + (char) b;
            if (b == ' ') reads(text);
            else if (b >= 'a' && b <= 'z') faulty(text, 7);
            else if ("+-*/;".indexOf(b) >= 0) faulty(text, 9);
            else faulty(text, 8);
        }
        for (int b = 0; b < 256; b++) {
            String text = "weaves " + (char) b;
            if (b >= '0' && b <= '9' || b == 'x' || b == 'y') reads(text);
            else if (b == ' ' || b == '[') faulty(text, 8);
            else faulty(text, 7);
        }
        for (int b = 0; b < 256; b++) {
            String text = (char) b + "weaves 1";
            if (b == ' ') reads(text);
            else faulty(text, 0);
        }
        for (int b = 0; b < 256; b++) {
            String text = "weaves 1 if x" + (char) b + "y";
            if (b >= 'a' && b <= 'z') faulty(text, 12);
            else if ("<>=".indexOf(b) >= 0) reads(text);
            else if ("+-*/".indexOf(b) >= 0) faulty(text, 15);
            else faulty(text, b == ' ' ? 14 : 13);
        }
    }

    private static void tokens() {
        sentence = "TOKENS: longest rows";
        reads("weaves1");
        reads("weaves1if1=1");
        reads("weaves x if1=1");
        reads("weaves[x]if(x=x)or(x=x)and not[x]=x;weaves x");
        reads("   weaves   [   x   ]   if   not   (   1   <   2   )   ;   weaves   3   ");
        reads("weaves 1if x=1or x=2and x=3");
        faulty("weavesx", 0);
        faulty("weaves xif 1=1", 7);
        faulty("weaves x ifx=1", 9);
        faulty("weaves 1 if x=xor x=x", 14);
        faulty("weaves 1 if notx=x", 12);
        faulty("weaves 1;weavesx", 9);
        faulty("weaves 10 0", 10);
        faulty("weaves 1 if 1 = = 1", 16);
        faulty("weaves 1 if 1<=1", 14);
        faulty("weaves 1 if 1<>1", 14);
        faulty("we aves 1", 0);
        faulty("weaves wa s", 7);
        faulty("weaves 1 i f 1=1", 9);
        faulty("WEAVES 1", 0);
        faulty("weaves X", 7);
        faulty("weaves wAs", 7);
    }

    private static void words() {
        sentence = "PART: .. the words, and no others";
        for (String word : new String[] {"x", "y", "village", "seen", "was", "left", "above", "taste", "year"}) {
            reads("weaves " + word);
            reads("weaves 1 if " + word + "=" + word);
            faulty("weaves " + word + word.charAt(word.length() - 1), 7);
            faulty("weaves a" + word, 7);
            faulty("weaves 1 if " + word + "s" + "=1", 12);
            if (word.length() > 1) faulty("weaves " + word.substring(0, word.length() - 1), 7);
            if (word.length() > 1) faulty("weaves " + word.substring(1), 7);
        }
        for (String word : new String[] {"weaves", "if", "or", "and", "not", "wool", "colour", "cell", "right", "below"}) {
            faulty("weaves " + word, 7);
        }
        for (String word : new String[] {"weave", "weavess", "eaves", "if", "x", "1", "(", "[", ";", "not"}) {
            faulty(word + " 1", 0);
            faulty("weaves 1; " + word + " 1", 10);
        }
        faulty("weaves 1 i 1=1", 9);
        faulty("weaves 1 iff 1=1", 9);
        faulty("weaves 1 or 1=1", 9);
        faulty("weaves 1 if no 1=1", 12);
        faulty("weaves 1 if nott 1=1", 12);
        faulty("weaves 1 if 1=1 o 1=1", 16);
        faulty("weaves 1 if 1=1 orr 1=1", 16);
        faulty("weaves 1 if 1=1 an 1=1", 16);
        faulty("weaves 1 if 1=1 ands 1=1", 16);
        faulty("weaves 1 if 1=1 not 1=1", 16);
        faulty("weaves 1 if 1=1 if 1=1", 16);
    }

    private static void clauses() {
        sentence = "CLAUSE {\";\" CLAUSE}, 12 at most (FAULT at the 13th's first TOKEN)";
        String twelve = "weaves 1" + ";weaves 2".repeat(11);
        reads(twelve);
        reads(twelve + " if x=1");
        reads("weaves 1 if 1=2" + "; weaves 2 if 1=2".repeat(11));
        faulty(twelve + ";weaves 3", twelve.length() + 1);
        faulty(twelve + ";   weaves 3", twelve.length() + 4);
        faulty(twelve + ";weaves 3;weaves 4", twelve.length() + 1);
        faulty(twelve + ";", twelve.length() + 1);
        faulty(twelve + ";  ", twelve.length() + 3);
        faulty(twelve + "; x", twelve.length() + 2);
        faulty(twelve + ";;", twelve.length() + 1);
        faulty(twelve + " if x=1; weaves 3", twelve.length() + 9);
        faulty(twelve + " if x=; weaves 3", twelve.length() + 6);
        faulty(twelve.replaceFirst("2", "2 2") + ";weaves 3", 18);
        weaves("weaves 1" + ";weaves 2".repeat(10) + ";weaves 6", 0, 6);
        weaves("weaves 6" + ";weaves 2 if 1=2".repeat(11), 0, 6);
        reads("weaves 1");
        faulty("weaves 1;", 9);
        faulty(";weaves 1", 0);
        faulty("weaves 1;;weaves 1", 9);
    }

    private static void grammar() {
        sentence = "FAULT: the first TOKEN that can't go on there";
        faulty("weaves", 6);
        faulty("weaves if 1=1", 7);
        faulty("weaves 1 if", 11);
        faulty("weaves 1 if ;", 12);
        faulty("weaves 1 if not", 15);
        faulty("weaves 1 if not not ;", 20);
        faulty("weaves 1 if 1", 13);
        faulty("weaves 1 if 1 + 2", 17);
        faulty("weaves 1 if 1; weaves 2", 13);
        faulty("weaves 1 if 1 and 1=1", 14);
        faulty("weaves 1 if 1=", 14);
        faulty("weaves 1 if 1=1=1", 15);
        faulty("weaves 1 if 1<1>1", 15);
        faulty("weaves 1 if =1", 12);
        faulty("weaves 1 if 1=1 and", 19);
        faulty("weaves 1 if 1=1 or", 18);
        faulty("weaves 1 if 1=1 or or 1=1", 19);
        faulty("weaves 1 if 1=1 and or 1=1", 20);
        faulty("weaves 1 if and 1=1", 12);
        faulty("weaves 1 if 1=not 1=1", 14);
        faulty("weaves 1+", 9);
        faulty("weaves 1*", 9);
        faulty("weaves 1+*1", 9);
        faulty("weaves +1", 7);
        faulty("weaves -1", 7);
        faulty("weaves 1--1", 9);
        faulty("weaves 1=1", 8);
        faulty("weaves 1 1", 9);
        faulty("weaves x y", 9);
        reads("weaves 1+2-3*4/5 if not not 1+1<2-1 and 2*2>3 or 1/1=1");
        reads("weaves 1 if not 1=1 and not 1=1 or not 1=1");
        sentence = "the end's: the TEXT's length; blanks alone: FAULT at the end";
        faulty("", 0);
        faulty(" ", 1);
        faulty("     ", 5);
        faulty("weaves   ", 9);
        faulty("  weaves 1 if 1 =   ", 20);
        faulty("weaves [1", 9);
        faulty("weaves [1  ", 11);
        faulty("weaves 1 if (1=1", 16);
        faulty("weaves 1 if (1=1  ", 18);
    }

    private static void numbers() {
        sentence = "NUMBER (to 1,000)";
        for (String number : new String[] {"0", "1", "999", "1000", "0000", "0001000", "00000000000000000000001000"}) {
            reads("weaves " + number);
            reads("weaves 1 if " + number + "=[" + number + "]");
        }
        for (String number : new String[] {"1001", "01001", "1010", "2000", "9999", "10000", "2147483647", "2147483648",
            "4294967296", "4294967297", "9223372036854775808", "18446744073709551616", "18446744073709551617",
            "99999999999999999999999999"}) {
            faulty("weaves " + number, 7);
            faulty("weaves  1+" + number, 10);
            faulty("weaves 2*[" + number + "]", 10);
            faulty("weaves 1 if 1=" + number, 14);
            faulty("weaves 1 if (" + number + "=1)", 13);
            faulty("weaves 1;weaves " + number, 16);
        }
        weaves("weaves 1000/200", 0, 5);
        weaves("weaves 0001000/250", 0, 4);
        weaves("weaves 1000-999", 0, 1);
        weaves("weaves 0", 0, 0);
    }

    private static String sumOf(String part, int many) {
        return part + ("+" + part).repeat(many - 1);
    }

    private static void parts() {
        sentence = "50 PARTS that are NUMBERS and words (FAULT at the 51st)";
        for (String part : new String[] {"x", "7", "was", "1000"}) {
            String fifty = "weaves " + sumOf(part, 50);
            reads(fifty);
            faulty(fifty + "+" + part, fifty.length() + 1);
            faulty(fifty + " - 1", fifty.length() + 3);
            faulty(fifty + "*year", fifty.length() + 1);
            faulty(fifty + "+1001", fifty.length() + 1);
            faulty(fifty + "+", fifty.length() + 1);
            faulty(fifty + "+[[x]]", fifty.length() + 3);
            faulty(fifty + " if 1=1", fifty.length() + 4);
            faulty(fifty + " if not (x=1)", fifty.length() + 9);
            faulty(fifty + ";weaves 1", fifty.length() + 8);
        }
        String brackets = "weaves " + sumOf("[x]", 50);
        reads(brackets);
        faulty(brackets + "+x", brackets.length() + 1);
        String before = "weaves " + sumOf("1", 48);
        reads(before + " if x=1");
        faulty(before + " if x=1+y", before.length() + 8);
        faulty(before + " if x=1 or x=1", before.length() + 11);
        reads("weaves " + sumOf("x", 25) + ";weaves " + sumOf("2", 25));
        String two = "weaves " + sumOf("x", 25) + ";weaves " + sumOf("2", 25);
        faulty(two + "+2", two.length() + 1);
        String tests = "weaves 1+1 if x=1" + " or x=1".repeat(23);
        reads(tests);
        faulty(tests + " or x=1", tests.length() + 4);
        String odd = "weaves 1 if x=1" + " or x=1".repeat(23);
        reads(odd);
        faulty(odd + " or x=1", odd.length() + 6);
        weaves("weaves " + sumOf("0", 49) + "+6", 0, 6);
        weaves("weaves " + sumOf("1", 50), 0, 7);
        weaves("weaves " + sumOf("1", 49) + "-44", 0, 5);
    }

    private static void longLaws() {
        sentence = "LAWS are TEXTS, 6 at most: each as long as may be";
        KeyholeWeave k = new KeyholeWeave();
        k.village(0, 0, 6, 6);
        for (int i = 0; i < 6; i++) {
            String text = "weaves " + sumOf("0", 49) + "+" + (i + 1);
            due("law() with a fault", law(k, text + "+1"), -6);
            due("law()", law(k, text), i);
        }
        for (int i = 0; i < 6; i++) {
            k.force(i);
            due("woven by law " + i, k.woven(0, 0, 0), i + 1);
        }
    }

    private static void brackets() {
        sentence = "8 brackets of both kinds within one another (FAULT at the 9th) at most";
        for (int round = 0; round <= 8; round++) {
            int square = 8 - round;
            String opened = "(".repeat(round) + "[".repeat(square);
            String text = "weaves 6 if " + opened + "x" + "]".repeat(square) + "=3" + ")".repeat(round);
            reads(text);
            weaves(text, 3, 6);
            weaves(text, 4, 3);
            String deeper = "weaves 6 if " + opened + "[x]" + "]".repeat(square) + "=3" + ")".repeat(round);
            faulty(deeper, 20);
            if (round == 8) faulty("weaves 6 if " + opened + "(x=3)" + ")".repeat(8), 20);
        }
        String eight = "[".repeat(8) + "x" + "]".repeat(8);
        reads("weaves " + eight);
        reads("weaves " + eight + "+" + eight + "*" + eight);
        reads("weaves " + eight + " if " + eight + "=" + eight);
        faulty("weaves [" + eight + "]", 15);
        faulty("weaves " + eight + "+[" + eight + "]", 7 + 17 + 1 + 8);
        faulty("weaves " + eight + "]", 7 + 17);
        reads("weaves " + sumOf("[x]", 12));
        reads("weaves 1 if (x=1)" + " and (x=1)".repeat(11));
        reads("weaves 1 if " + "(".repeat(8) + "x=1" + ")".repeat(8) + " or " + "(".repeat(8) + "x=1" + ")".repeat(8));
        faulty("weaves 1 if " + "(".repeat(8) + "1=[x]" + ")".repeat(8), 22);
        faulty("weaves 1 if " + "(".repeat(8) + "not (x=1)" + ")".repeat(8), 24);
        reads("weaves 1 if " + "not (".repeat(8) + "x=1" + ")".repeat(8));
        faulty("weaves 1 if " + "not (".repeat(9) + "x=1" + ")".repeat(9), 12 + 8 * 5 + 4);
        reads("weaves 1 if " + "(".repeat(7) + "[x]=[1] and (x=1)" + ")".repeat(7));
        faulty("weaves 1 if " + "(".repeat(7) + "[x]=[[1]]" + ")".repeat(7), 12 + 7 + 5);
        faulty("weaves 1 if " + "(".repeat(7) + "[x]=[1] and ((x=1))" + ")".repeat(7), 12 + 7 + 13);
        faulty("weaves " + "[".repeat(400 - 7), 15);
        faulty("weaves 1 if " + "(".repeat(400 - 12), 20);
    }

    private static void bracketKinds() {
        sentence = "\"(\" TEST \")\", \"[\" SUM \"]\"";
        faulty("weaves (1)", 7);
        faulty("weaves [1)", 9);
        faulty("weaves []", 8);
        faulty("weaves [1=1]", 9);
        faulty("weaves [1 if 1=1]", 10);
        faulty("weaves 1 if [1=1]", 14);
        faulty("weaves 1 if (1)=1", 14);
        faulty("weaves 1 if (1=1]", 16);
        faulty("weaves 1 if ()", 13);
        faulty("weaves 1 if (1=1)=1", 17);
        faulty("weaves 1 if (1=1)+1", 17);
        faulty("weaves 1 if 1=(1)", 14);
        faulty("weaves 1 if 1=1)", 15);
        faulty("weaves 1 if (1=1))", 17);
        faulty("weaves 1]", 8);
        faulty("weaves 1)", 8);
        reads("weaves [1] if [1]=[1]");
        reads("weaves 1 if ([1]=1)");
    }

    private static void broken() {
        sentence = "Beyond 1,000,000,000 either way, or divided by 0, a SUM, a TEST is BROKEN";
        String most = "1000*1000*1000";
        String least = "[0-1000]*1000*1000";
        weaves("weaves 1; weaves " + most, 0, 7);
        weaves("weaves 1; weaves " + most + "+1", 0, 1);
        weaves("weaves 1; weaves 1+" + most, 0, 1);
        weaves("weaves 1; weaves " + most + "+1-1", 0, 1);
        weaves("weaves 1; weaves " + most + "-1+1", 0, 7);
        weaves("weaves 1; weaves " + most + "*1", 0, 7);
        weaves("weaves 1; weaves " + most + "*2", 0, 1);
        weaves("weaves 1; weaves " + most + "*2/2", 0, 1);
        weaves("weaves 1; weaves " + most + "*" + most, 0, 1);
        weaves("weaves 1; weaves 1000*1000*1000*1000*1000*1000*1000*0", 0, 1);
        weaves("weaves 1; weaves 1000*1000*999/999*1000", 0, 7);
        weaves("weaves 1; weaves [" + most + "+1]*0", 0, 1);
        weaves("weaves 1; weaves " + least, 0, 0);
        weaves("weaves 1; weaves " + least + "-1", 0, 1);
        weaves("weaves 1; weaves 0-" + most, 0, 0);
        weaves("weaves 1; weaves 0-1-" + most, 0, 1);
        weaves("weaves 1; weaves 0-" + most + "-1+1", 0, 1);
        weaves("weaves 1; weaves 0-[" + least + "]", 0, 7);
        weaves("weaves 1; weaves " + sumOf(most, 6), 0, 1);
        weaves("weaves 1; weaves 5+0/1", 0, 5);
        weaves("weaves 1; weaves 5/0", 0, 1);
        weaves("weaves 1; weaves 0/0", 0, 1);
        weaves("weaves 1; weaves 5/[x-x]", 3, 1);
        weaves("weaves 1; weaves 0*[5/0]", 0, 1);
        weaves("weaves 1; weaves 6/x", 0, 1);
        weaves("weaves 1; weaves 6/x", 1, 6);
        weaves("weaves 1; weaves 6/x", 6, 1);
        holds(most + "=" + most);
        holds(most + ">" + most + "-1");
        holdsNot(most + "+1>0");
        holdsNot("0<" + most + "+1");
        holdsNot("not " + most + "+1=0");
        holds("0-" + most + "<0");
        holdsNot("0-" + most + "-1<0");
        holdsNot("1/0=1");
        holdsNot("not 1/0=1");
        holdsNot("not not 1/0=1");
        holdsNot("1=1/0");
        weaves("weaves 1; weaves 1/0 if 1=1", 0, 1);
        weaves("weaves 1; weaves 1/0 if 1=2", 0, 1);
        weaves("weaves 1/0", 0, 3);
        weaves("weaves 1/0", 12, 5);
    }

    private static void cutTowards0() {
        sentence = "/ is cut towards 0";
        weaves("weaves 7/2", 0, 3);
        weaves("weaves 5+[0-7]/2", 0, 2);
        weaves("weaves 5+7/[0-2]", 0, 2);
        weaves("weaves [0-7]/[0-2]", 0, 3);
        weaves("weaves 5+[0-1]/2", 0, 5);
        weaves("weaves 5+1/[0-2]", 0, 5);
        weaves("weaves 1/2*7", 0, 0);
        weaves("weaves 7*1/2", 0, 3);
        weaves("weaves 999/1000", 0, 0);
    }

    private static void whatMatters() {
        sentence = "\"or\", \"and\" ask what stands behind only if it can still matter";
        holds("1=1 or 1/0=1");
        holdsNot("1=2 or 1/0=1");
        holdsNot("1/0=1 or 1=1");
        holds("not (1=2 and 1/0=1)");
        holdsNot("not (1=1 and 1/0=1)");
        holdsNot("not (1/0=1 and 1=2)");
        holds("1=2 and 1/0=1 or 1=1");
        holds("1=1 or 1=1 and 1/0=1");
        holds("1=1 or 1/0=1 and 1=1");
        holds("1=1 or 1/0=1 or 1/0=1");
        holds("1=2 or 1=1 or 1/0=1");
        holdsNot("1=2 or 1/0=1 or 1=1");
        holds("not (1=2 and 1/0=1 and 1/0=1)");
        holdsNot("not (1=1 and 1/0=1 and 1=2)");
        holdsNot("(1=1 or 1/0=1) and 1=2");
        holdsNot("(1=1 or 1/0=1) and 1/0=1");
        holds("(1=1 or 1/0=1) and 1=1");
        holds("not 1=2 or 1/0=1");
        holds("(1=2 and 1/0=1) or 1=1");
        holdsNot("1=2 and 1/0=1");
        holdsNot("1=2 and 1=1 or 1=2");
        holdsNot("not 1=1 and 1=1");
        holds("not 1=2 and 1=1");
        holds("not (not 1=1)");
        holdsNot("not (not 1=2)");
        holdsNot("not (not 1=2) and 1=1");
        holds("not (not 1=1) or 1/0=1");
        for (String yes : new String[] {"1<2", "2>1", "1=1", "not 2<1", "not 1>2", "not 1=2", "(1=1)", "not (1=2)"}) {
            for (String no : new String[] {"2<1", "1>2", "1=2", "not 1<2", "not 2>1", "not 1=1", "(1=2)", "not (1=1)"}) {
                holdsNot(yes + " and " + no);
                holdsNot(no + " and " + yes);
                holds(yes + " or " + no);
                holds(no + " or " + yes);
                holdsNot(no + " or " + no);
                holds(yes + " and " + yes);
                holds("not (" + no + " and 1/0=1)");
                holds(yes + " or 1/0=1");
            }
        }
        holds("1=1 or 1=2 and 1=2");
        holdsNot("(1=1 or 1=2) and 1=2");
        holds("1=1 and 1=1 and 1=1");
        holdsNot("1=1 and 1=1 and 1=2");
        holds("1=2 or 1=2 or 1=1");
    }

    private static void comparisons() {
        sentence = "SUM (\"<\" | \">\" | \"=\") SUM";
        holds("1<2");
        holdsNot("2<2");
        holdsNot("3<2");
        holds("3>2");
        holdsNot("2>2");
        holdsNot("1>2");
        holds("2=2");
        holdsNot("2=3");
        holdsNot("2=1");
        holds("0-1<0");
        holds("0>0-1");
    }

    private static void asked() {
        sentence = "seen: 1 if it is in its KEYHOLE, else 0; was: the COLOUR seen there, -1 if it is not";
        for (int cell = 0; cell < 36; cell++) {
            boolean in = cell < 12;
            weaves("weaves seen*6", cell, in ? 6 : 0);
            weaves("weaves seen+2", cell, in ? 3 : 2);
            weaves("weaves was+2", cell, in ? 5 : 1);
            weaves("weaves taste-was", cell, in ? 2 : 6);
            weaves("weaves 7 if was<0", cell, in ? 3 : 7);
            sentence = "left, above: what it wove at x less 1, at y less 1 (-1: there is no such CELL)";
            weaves("weaves left+1", cell, cell % 6);
            weaves("weaves above+1", cell, cell / 6);
            weaves("weaves left+3 if left=0-1", cell, cell % 6 == 0 ? 2 : in ? 3 : 5);
            weaves("weaves above+3 if above=0-1", cell, cell < 6 ? 2 : in ? 3 : 5);
        }
        KeyholeWeave k = ruled("weaves left+3");
        k.put(0, 1, 1 + 16);
        due("woven(0, 0, 0): 2 lies between 0 and 4", k.woven(0, 0, 0), 0);
        due("woven(0, 1, 0): 3 by what it wove, not wished", k.woven(0, 1, 0), 4);
        due("woven(0, 2, 0)", k.woven(0, 2, 0), 4);
        due("woven(0, 6, 0): no cell to the left", k.woven(0, 6, 0), 0);
        sentence = "village, taste, year";
        for (int year : new int[] {0, 99}) {
            KeyholeWeave other = ruled("weaves year/20+village");
            other.terms(1, year);
            for (int v = 1; v < 10; v++) other.village(0, 0, 1, 1);
            for (int v = 0; v < 10; v++) due("woven(" + v + ", 0, 0)", other.woven(v, 0, 0), Math.min(7, year / 20 + v));
            for (int v = 0; v < 10; v++) due("woven(" + v + ", 0, 1)", other.woven(v, 0, 1), Math.min(7, year / 20 + v));
        }
    }

    private static void wishes() {
        sentence = "It WISHES for what the last CLAUSE that HOLDS tells; without one for the COLOUR seen, for its TASTE";
        weaves("weaves 1; weaves 2; weaves 4", 0, 4);
        weaves("weaves 1; weaves 2; weaves 4 if 1=2", 0, 2);
        weaves("weaves 1; weaves 2 if 1=2; weaves 4 if 1=2", 0, 1);
        weaves("weaves 1 if 1=2", 11, 3);
        weaves("weaves 1 if 1=2", 12, 5);
        weaves("weaves 1; weaves 2/0; weaves 4 if 1/0=1", 12, 1);
        sentence = "It weaves that COLOUR of its WOOL which is nearest to that (of two the lower)";
        for (int wool = 1; wool < 256; wool++) {
            for (int wish = -2; wish < 10; wish += wool % 2 == 0 ? 11 : 3) nearest(wool, wish);
            nearest(wool, wool % 8);
        }
        nearest(129, 1000000000);
        nearest(129, -1000000000);
        nearest(66, 1000000000);
        nearest(66, -1000000000);
    }

    private static void nearest(int wool, int wish) {
        int best = NONE;
        for (int colour = 0; colour < 8; colour++) {
            if ((wool >> colour & 1) == 0) continue;
            if (best == NONE || Math.abs((long) colour - wish) < Math.abs((long) best - wish)) best = colour;
        }
        String sum = Math.abs(wish) == 1000000000 ? "1000*1000*1000" : "" + Math.abs(wish);
        KeyholeWeave k = ruled("weaves " + (wish < 0 ? "0-" : "") + sum);
        k.put(0, 1, wool);
        due("woven of wool " + wool + " for " + wish, k.woven(0, 0, 0), best);
    }

    private static void faultOfTheLatest() {
        sentence = "FAULT of the latest law() that read a TEXT: its place; NONE without";
        KeyholeWeave k = new KeyholeWeave();
        due("fault() ahead of any", k.fault(), NONE);
        due("law()", law(k, "weaves 1 2"), -6);
        due("fault()", k.fault(), 9);
        write(k, "weaves");
        k.row();
        k.feed(0, 0, 0, 0, 0);
        k.image(0);
        k.back(0);
        due("fault() behind other calls", k.fault(), 9);
        due("law()", law(k, "weaves 1"), 0);
        due("fault() without", k.fault(), NONE);
        due("law() of an empty tape", k.law(), -6);
        due("fault() of an empty tape", k.fault(), 0);
        due("law()", law(k, "weaves 2"), 1);
        due("fault() without", k.fault(), NONE);
    }

    public static void main(String[] args) {
        tapeOf400();
        letters();
        tokens();
        words();
        clauses();
        grammar();
        numbers();
        parts();
        longLaws();
        brackets();
        bracketKinds();
        broken();
        cutTowards0();
        whatMatters();
        comparisons();
        asked();
        wishes();
        faultOfTheLatest();
        System.out.println(wrong == 0 ? "all answers are as due" : wrong + " answers are not as due");
        if (wrong != 0) System.exit(1);
    }
}
