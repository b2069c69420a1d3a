/** One test for each promise of the document: ordinary inputs, the edges that it names, wrong inputs. */
public final class PromiseTests {
    private static final int NONE = KeyholeWeave.NONE;
    private static int wrong = 0;
    private static int promise = 0;

    private static void due(String call, int got, int want) {
        if (got == want) return;
        wrong++;
        System.out.println("promise " + promise + ": " + call + " answered " + got + ", due is " + want);
    }

    /** Puts a text on the tape, which is empty. */
    private static void write(KeyholeWeave k, String text) {
        k.end(0);
        for (int i = 0; i < text.length(); i += 20) {
            int[] n = new int[5];
            for (int j = 0; j < 20 && i + j < text.length(); j++) {
                n[j / 4] |= text.charAt(i + j) << 8 * (3 - j % 4);
            }
            due("feed", k.feed(n[0], n[1], n[2], n[3], n[4]), i + 20);
        }
        due("end", k.end(text.length()), text.length());
    }

    private static int law(KeyholeWeave k, String text) {
        write(k, text);
        return k.law();
    }

    private static void faulty(String text, int place) {
        KeyholeWeave k = new KeyholeWeave();
        due("law of '" + text + "'", law(k, text), -6);
        due("fault of '" + text + "'", k.fault(), place);
        due("count(1) after '" + text + "'", k.count(1), 0);
    }

    /** An object with a law in force and one village that sees the two upper lines of a picture of 3s. */
    private static KeyholeWeave ruled(String text) {
        KeyholeWeave k = new KeyholeWeave();
        for (int cell = 0; cell < 36; cell++) k.paint(0, cell, 3);
        k.village(0, 0, 6, 2);
        k.put(0, 0, 5);
        due("law of '" + text + "'", law(k, text), 0);
        due("fault of '" + text + "'", k.fault(), NONE);
        k.force(0);
        return k;
    }

    private static void weaves(String text, int cell, int colour) {
        due("woven(0, " + cell + ", 0) by '" + text + "'", ruled(text).woven(0, cell, 0), colour);
    }

    private static KeyholeWeave open(int villages) {
        KeyholeWeave k = new KeyholeWeave();
        for (int i = 0; i < villages; i++) k.village(0, 0, 6, 6);
        return k;
    }

    private static void newObject() {
        KeyholeWeave k = new KeyholeWeave();
        int[] counts = {0, 0, 0, 0, 0, 0, 0, NONE, 10, 0};
        for (int i = 0; i < counts.length; i++) due("count(" + i + ")", k.count(i), counts[i]);
        for (int which = 0; which < 3; which++) {
            for (int cell = 0; cell < 36; cell++) due("told", k.told(which, cell), 0);
        }
        due("status()", k.status(), 0);
        due("lint()", k.lint(), 0);
        due("fault()", k.fault(), NONE);
        due("of(0, 0)", k.of(0, 0), NONE);
        due("NONE", NONE, -1);
    }

    private static void village() {
        KeyholeWeave k = new KeyholeWeave();
        int[][] bad = {{-1, 0, 1, 1}, {6, 0, 1, 1}, {0, -1, 1, 1}, {0, 6, 1, 1}, {0, 0, 0, 1}, {0, 0, 7, 1}, {0, 0, 1, 0},
            {0, 0, 1, 7}, {5, 0, 2, 1}, {0, 5, 1, 2}, {Integer.MAX_VALUE, 0, 6, 6}, {5, 0, Integer.MAX_VALUE, 1}};
        for (int[] b : bad) due("village", k.village(b[0], b[1], b[2], b[3]), -1);
        due("count(3)", k.count(3), bad.length);
        due("village(5, 5, 1, 1)", k.village(5, 5, 1, 1), 0);
        due("of(0, 4)", k.of(0, 4), 0);
        due("of(0, 5)", k.of(0, 5), 255);
        for (int i = 1; i < 10; i++) due("village", k.village(0, 0, 6, 6), i);
        due("village, full", k.village(0, 0, 6, 6), -5);
        due("village, full and bad", k.village(0, 0, 6, 7), -1);
        due("count(0)", k.count(0), 10);
    }

    private static void put() {
        KeyholeWeave k = open(1);
        due("put(0, 0, 7)", k.put(0, 0, 7), 0);
        due("put(0, 0, 1)", k.put(0, 0, 1), 7);
        due("put(0, 1, 1)", k.put(0, 1, 1), 255);
        due("put(0, 1, 255)", k.put(0, 1, 255), 1);
        due("put(0, 0, 8)", k.put(0, 0, 8), -1);
        due("put(0, 0, -1)", k.put(0, 0, -1), -1);
        due("put(0, 1, 0)", k.put(0, 1, 0), -1);
        due("put(0, 1, 256)", k.put(0, 1, 256), -1);
        due("put(0, 2, 1)", k.put(0, 2, 1), -1);
        due("put(0, -1, 1)", k.put(0, -1, 1), -1);
        due("put(1, 0, 8)", k.put(1, 0, 8), -1);
        due("put(1, 0, 7)", k.put(1, 0, 7), -2);
        due("put(-1, 1, 7)", k.put(-1, 1, 7), -2);
        due("of(0, 4)", k.of(0, 4), 1);
        due("of(0, 5)", k.of(0, 5), 255);
    }

    private static void hole() {
        KeyholeWeave k = open(1);
        k.paint(0, 7, 4);
        due("woven ahead", k.woven(0, 7, 0), 4);
        due("hole(0, 2, 3, 4, 2)", k.hole(0, 2, 3, 4, 2), 0);
        for (int what = 0; what < 4; what++) due("of", k.of(0, what), new int[] {2, 3, 4, 2}[what]);
        due("woven then", k.woven(0, 7, 0), 0);
        due("hole too wide", k.hole(0, 2, 3, 5, 2), -1);
        due("hole too wide of none", k.hole(1, 2, 3, 5, 2), -1);
        due("hole of none", k.hole(1, 2, 3, 4, 2), -2);
        due("of(0, 2)", k.of(0, 2), 4);
    }

    private static void of() {
        KeyholeWeave k = new KeyholeWeave();
        k.village(1, 2, 3, 4);
        k.put(0, 0, 5);
        k.put(0, 1, 6);
        for (int what = 0; what < 6; what++) due("of(0, " + what + ")", k.of(0, what), what + 1);
        due("of(0, 6)", k.of(0, 6), NONE);
        due("of(0, -1)", k.of(0, -1), NONE);
        due("of(1, 0)", k.of(1, 0), NONE);
        due("of(-1, 0)", k.of(-1, 0), NONE);
        due("count(3)", k.count(3), 0);
    }

    private static void paint() {
        KeyholeWeave k = new KeyholeWeave();
        for (int which = 0; which < 3; which++) {
            due("paint", k.paint(which, 35, 7), 0);
            due("paint again", k.paint(which, 35, which + 1), 7);
        }
        for (int which = 0; which < 3; which++) due("told", k.told(which, 35), which + 1);
        int[][] bad = {{-1, 0, 0}, {3, 0, 0}, {0, -1, 0}, {0, 36, 0}, {0, 0, -1}, {0, 0, 8}};
        for (int[] b : bad) due("paint, bad", k.paint(b[0], b[1], b[2]), -1);
        due("told(0, 0)", k.told(0, 0), 0);
    }

    private static void told() {
        KeyholeWeave k = new KeyholeWeave();
        k.paint(1, 3, 6);
        due("told(1, 3)", k.told(1, 3), 6);
        due("told(0, 3)", k.told(0, 3), 0);
        due("told(3, 0)", k.told(3, 0), NONE);
        due("told(-1, 0)", k.told(-1, 0), NONE);
        due("told(0, 36)", k.told(0, 36), NONE);
        due("told(0, -1)", k.told(0, -1), NONE);
        due("status()", k.status(), 0);
    }

    private static void price() {
        KeyholeWeave k = new KeyholeWeave();
        due("price(0, 0)", k.price(0, 0), 1);
        due("price(0, 99)", k.price(0, 99), 0);
        due("price(7, 5)", k.price(7, 5), 1);
        due("price(0, 100)", k.price(0, 100), -1);
        due("price(0, -1)", k.price(0, -1), -1);
        due("price(8, 1)", k.price(8, 1), -1);
        due("price(-1, 1)", k.price(-1, 1), -1);
        due("price(0, 1)", k.price(0, 1), 99);
    }

    private static void terms() {
        KeyholeWeave k = new KeyholeWeave();
        due("terms(0, 100)", k.terms(0, 100), 10);
        due("terms(0, 0)", k.terms(0, 0), 100);
        due("terms(1, 99)", k.terms(1, 99), 0);
        due("terms(1, 100)", k.terms(1, 100), -1);
        due("terms(0, 101)", k.terms(0, 101), -1);
        due("terms(0, -1)", k.terms(0, -1), -1);
        due("terms(2, 0)", k.terms(2, 0), -1);
        due("terms(-1, 0)", k.terms(-1, 0), -1);
        due("count(9)", k.count(9), 99);
    }

    private static void feed() {
        KeyholeWeave k = new KeyholeWeave();
        due("feed", k.feed(0x02010203, 0x04050607, 0x00010203, 0x04050607, 0x00010203), 20);
        k.row();
        for (int cell = 0; cell < 19; cell++) due("told(2, " + cell + ")", k.told(2, cell), (cell + 1) % 8);
        for (int i = 1; i <= 20; i++) due("feed", k.feed(0, 0, 0, 0, 0), 20 * i);
        due("feed, full", k.feed(0, 0, 0, 0, 0), NONE);
        k.end(381);
        due("feed, 381", k.feed(0, 0, 0, 0, 0), NONE);
        due("count(2)", k.count(2), 381);
        k.end(380);
        due("feed, 380", k.feed(0, 0, 0, 0, 0), 400);
        due("count(5)", k.count(5), 0);
    }

    private static void end() {
        KeyholeWeave k = new KeyholeWeave();
        due("end(0)", k.end(0), 0);
        due("end(1)", k.end(1), NONE);
        k.feed(0, 0, 0, 0, 0);
        due("end(21)", k.end(21), NONE);
        due("end(-1)", k.end(-1), NONE);
        due("end(20)", k.end(20), 20);
        due("end(7)", k.end(7), 7);
        due("end(8)", k.end(8), NONE);
        due("count(2)", k.count(2), 7);
    }

    private static void row() {
        KeyholeWeave k = new KeyholeWeave();
        due("row(), empty", k.row(), -6);
        write(k, "\u0003\u0001");
        due("row() of 3", k.row(), -6);
        due("count(2)", k.count(2), 0);
        write(k, "\u0001\u0007\u0008\u00ff\u0002");
        due("row()", k.row(), 2);
        due("told(1, 0)", k.told(1, 0), 7);
        due("told(1, 1)", k.told(1, 1), 0);
        due("told(1, 3)", k.told(1, 3), 2);
        due("told(0, 0)", k.told(0, 0), 0);
        write(k, "\u0000");
        due("row() of one byte", k.row(), 0);
        write(k, "\u0002" + "\u0003".repeat(50));
        due("row() of 51 bytes", k.row(), 36);
        due("told(2, 35)", k.told(2, 35), 3);
        due("count(6)", k.count(6), 2);
    }

    private static void lint() {
        KeyholeWeave k = new KeyholeWeave();
        write(k, "\u0002" + "\u0009".repeat(36));
        due("row()", k.row(), 0);
        due("lint() of 37", k.lint(), 0);
        write(k, "\u0002" + "\u0009".repeat(37));
        k.row();
        due("lint() of 38", k.lint(), 1);
        k.image(0);
        write(k, "\u0000" + "\u0000".repeat(399));
        k.row();
        due("lint() of 400", k.lint(), 363);
        due("row(), empty", k.row(), -6);
        due("lint() after -6", k.lint(), 363);
        k.back(0);
        due("lint() after back", k.lint(), 363);
        write(k, "\u0000\u0001");
        k.row();
        due("lint() of 2", k.lint(), 0);
    }

    private static void law() {
        KeyholeWeave k = new KeyholeWeave();
        for (int i = 0; i < 6; i++) due("law()", law(k, "weaves " + i), i);
        due("law(), full", law(k, "weaves"), -5);
        due("count(2)", k.count(2), 0);
        due("count(1)", k.count(1), 6);
        for (int i = 0; i < 6; i++) {
            k.force(i);
            if (i == 0) k.village(0, 0, 6, 6);
            due("woven by law " + i, k.woven(0, 0, 0), i);
        }
        lawWords();
        lawOrder();
        lawBroken();
        lawTests();
    }

    private static void lawWords() {
        weaves("weaves x", 10, 4);
        weaves("weaves y", 10, 1);
        weaves("weaves 4+village", 0, 4);
        weaves("weaves seen*6", 11, 6);
        weaves("weaves seen*6", 12, 0);
        weaves("weaves was+3", 11, 6);
        weaves("weaves was+3", 12, 2);
        weaves("weaves left+2", 0, 1);
        weaves("weaves left+2", 2, 5);
        weaves("weaves left+2", 8, 5);
        weaves("weaves above+2", 5, 1);
        weaves("weaves above+2", 13, 5);
        weaves("weaves taste+1", 0, 6);
        weaves("weaves year+2", 0, 2);
        weaves("weaves 0001000/250", 0, 4);
        weaves("  weaves3if x=0;weaves 4if x=1  ", 0, 3);
        weaves("  weaves3if x=0;weaves 4if x=1  ", 1, 4);
        weaves("weaves 6 if x>2", 2, 3);
        weaves("weaves 6 if x>2", 14, 5);
        weaves("weaves 2; weaves 4 if x<3; weaves 6 if x<1", 0, 6);
        weaves("weaves 2; weaves 4 if x<3; weaves 6 if x<1", 2, 4);
        weaves("weaves 2; weaves 4 if x<3; weaves 6 if x<1", 3, 2);
        KeyholeWeave k = ruled("weaves year");
        k.terms(1, 6);
        due("woven in year 6", k.woven(0, 0, 0), 6);
        k.put(0, 1, 2 + 32);
        k.force(NONE);
        due("woven of wool 1, 5 for 3", k.woven(0, 0, 0), 1);
        k.paint(0, 0, 4);
        due("woven of wool 1, 5 for 4", k.woven(0, 0, 0), 5);
        k.put(0, 1, 128);
        due("woven of wool 7", k.woven(0, 0, 0), 7);
    }

    private static void lawOrder() {
        weaves("weaves 1+2*3-4/2", 0, 5);
        weaves("weaves [1+2]*2", 0, 6);
        weaves("weaves 7-3-2", 0, 2);
        weaves("weaves 40/5/2", 0, 4);
        weaves("weaves 4+[0-7]/2", 0, 1);
        weaves("weaves 2*3-1*2+4/2-1", 0, 5);
        weaves("weaves 1000*1000*1000", 0, 7);
        weaves("weaves 0-1000*1000*1000", 0, 0);
        weaves("weaves 7 if 1=1 or 1=2 and 1=2", 0, 7);
        weaves("weaves 7 if 1=2 and 1=2 or 1=1", 0, 7);
        weaves("weaves 7 if (1=1 or 1=2) and 1=2", 0, 3);
        weaves("weaves 7 if not 1=2 and not not 1=1", 0, 7);
        weaves("weaves 7 if not (1=1 and 1=2)", 0, 7);
        weaves("weaves 7 if not 1=1 or 1=1", 0, 7);
    }

    private static void lawBroken() {
        weaves("weaves 1; weaves 7/0", 0, 1);
        weaves("weaves 1; weaves 7/x", 0, 1);
        weaves("weaves 1; weaves 7/x", 1, 7);
        weaves("weaves 1; weaves 1000*1000*1000+1", 0, 1);
        weaves("weaves 1; weaves 1000*1000*1000+1-1000", 0, 1);
        weaves("weaves 1; weaves 0-1000*1000*1000-1", 0, 1);
        weaves("weaves 1; weaves 7 if 1/0=1", 0, 1);
        weaves("weaves 1; weaves 7 if not 1/0=1", 0, 1);
        weaves("weaves 1; weaves 7 if 1=1 or 1/0=1", 0, 7);
        weaves("weaves 1; weaves 7 if 1/0=1 or 1=1", 0, 1);
        weaves("weaves 1; weaves 7 if 1=2 and 1/0=1", 0, 1);
        weaves("weaves 1; weaves 7 if not (1=2 and 1/0=1)", 0, 7);
        weaves("weaves 1; weaves 7 if 1=1 and 1/0=1", 0, 1);
        weaves("weaves 1; weaves 7 if 1=2 and 1/0=1 or 1=1", 0, 7);
        weaves("weaves 1/0", 0, 3);
        weaves("weaves 1/0", 35, 5);
    }

    private static void lawTests() {
        weaves("weaves 7 if 1<2", 0, 7);
        weaves("weaves 7 if 2<2", 0, 3);
        weaves("weaves 7 if 3>2", 0, 7);
        weaves("weaves 7 if 2>2", 0, 3);
        weaves("weaves 7 if 2=2", 0, 7);
        weaves("weaves 7 if 0-1=was and x+y>9", 35, 7);
        weaves("weaves " + "[".repeat(8) + "x" + "]".repeat(8), 3, 3);
        weaves("weaves 6 if ((((([[[x]]]=3)))))", 3, 6);
        weaves("weaves x" + "+x".repeat(49), 0, 0);
        weaves("weaves 1" + "; weaves 2".repeat(11), 0, 2);
    }

    private static void fault() {
        faulty("", 0);
        faulty("     ", 5);
        faulty("weave 1", 0);
        faulty("  weavess 1", 2);
        faulty("Weaves 1", 0);
        faulty("weaves", 6);
        faulty("weaves  ", 8);
        faulty("weaves 1001", 7);
        faulty("weaves 99999999999999999999", 7);
        faulty("weaves -1", 7);
        faulty("weaves 1+", 9);
        faulty("weaves 1 2", 9);
        faulty("weaves 5x", 8);
        faulty("weaves (5)", 7);
        faulty("weaves 1 if", 11);
        faulty("weaves 1 if 1", 13);
        faulty("weaves 1 if 1=1=1", 15);
        faulty("weaves 1 if (1=1", 16);
        faulty("weaves 1 if (1=1]", 16);
        faulty("weaves 1 if [1=1", 14);
        faulty("weaves 1 if 1=1 and", 19);
        faulty("weaves 1 if 1=1)", 15);
        faulty("weaves 1;", 9);
        faulty("weaves 1;;", 9);
        faulty("weaves [1)", 9);
        faulty("weaves wool", 7);
        faulty("weaves xz", 7);
        faulty("weaves 1 if x=x zx", 16);
        faulty("weaves x{", 8);
        faulty("weaves x`", 8);
        faulty("weaves 1:", 8);
        faulty("weaves 1\t", 8);
        faulty("weaves 1 \u00e9", 9);
        faulty("weaves " + "[".repeat(9) + "x" + "]".repeat(9), 15);
        faulty("weaves 1 if ((((([[[[x]]]]=3)))))", 20);
        faulty("weaves 1 if (((((((((x=3)))))))))", 20);
        faulty("weaves x" + "+x".repeat(50), 107);
        faulty("weaves x" + "+x".repeat(48) + " if x=x", 110);
        faulty("weaves 1" + ";weaves 2".repeat(12), 108);
        faulty("weaves 1" + ";weaves 2".repeat(11) + "; ", 109);
        KeyholeWeave k = new KeyholeWeave();
        law(k, "weaves x y");
        due("fault()", k.fault(), 9);
        k.image(0);
        for (int i = 0; i < 6; i++) law(k, "weaves 1");
        due("fault() after a good one", k.fault(), NONE);
        k.back(0);
        law(k, "weaves");
        due("fault() after back", k.fault(), 6);
        for (int i = 0; i < 6; i++) law(k, "weaves 1");
        due("law(), full", law(k, "weaves"), -5);
        due("fault() after -5", k.fault(), NONE);
    }

    private static void force() {
        KeyholeWeave k = open(1);
        due("force(0) of none", k.force(0), -2);
        law(k, "weaves 6");
        law(k, "weaves 5");
        due("force(1)", k.force(1), NONE);
        due("woven", k.woven(0, 0, 0), 5);
        due("force(0)", k.force(0), 1);
        due("woven", k.woven(0, 0, 0), 6);
        due("force(2)", k.force(2), -2);
        due("force(-2)", k.force(-2), -2);
        due("count(7)", k.count(7), 0);
        due("force(NONE)", k.force(NONE), 0);
        due("status()", k.status(), 0);
        due("woven", k.woven(0, 0, 0), 0);
        due("force(NONE)", k.force(NONE), NONE);
    }

    private static void woven() {
        KeyholeWeave k = open(3);
        k.paint(0, 4, 6);
        k.paint(1, 4, 2);
        k.hole(1, 5, 5, 1, 1);
        k.put(1, 0, 7);
        due("woven(0, 4, 0)", k.woven(0, 4, 0), 6);
        due("woven(1, 4, 0)", k.woven(1, 4, 0), 7);
        due("woven(2, 4, 0)", k.woven(2, 4, 0), 7);
        due("woven(2, 35, 0)", k.woven(2, 35, 0), 0);
        due("woven(2, 4, 1)", k.woven(2, 4, 1), 2);
        due("woven(1, 4, 1)", k.woven(1, 4, 1), 7);
        due("woven(0, 4, 1)", k.woven(0, 4, 1), 7);
        due("woven(3, 4, 0)", k.woven(3, 4, 0), NONE);
        due("woven(-1, 4, 0)", k.woven(-1, 4, 0), NONE);
        due("woven(0, 36, 0)", k.woven(0, 36, 0), NONE);
        due("woven(0, -1, 0)", k.woven(0, -1, 0), NONE);
        due("woven(0, 4, 2)", k.woven(0, 4, 2), NONE);
        due("woven(0, 4, -1)", k.woven(0, 4, -1), NONE);
    }

    private static void like() {
        KeyholeWeave k = open(2);
        due("like(NONE, NONE)", k.like(NONE, NONE), 36);
        for (int cell = 0; cell < 10; cell++) k.paint(0, cell, 5);
        k.put(1, 1, 15);
        due("like(0, 1)", k.like(0, 1), 26);
        due("like(1, 0)", k.like(1, 0), 26);
        due("like(0, NONE)", k.like(0, NONE), 36);
        due("like(NONE, 1)", k.like(NONE, 1), 26);
        due("like(2, 0)", k.like(2, 0), NONE);
        due("like(0, 2)", k.like(0, 2), NONE);
        due("like(-2, 0)", k.like(-2, 0), NONE);
    }

    private static void costs() {
        KeyholeWeave k = new KeyholeWeave();
        k.paint(0, 0, 5);
        k.price(5, 99);
        k.price(3, 10);
        due("costs(NONE) of the first", k.costs(NONE), 134);
        k.village(0, 0, 6, 6);
        k.village(0, 0, 6, 6);
        k.put(1, 1, 15);
        due("costs(0)", k.costs(0), 134);
        due("costs(1)", k.costs(1), 45);
        due("costs(NONE)", k.costs(NONE), 45);
        due("costs(2)", k.costs(2), NONE);
        due("costs(-2)", k.costs(-2), NONE);
    }

    private static void turned() {
        KeyholeWeave k = new KeyholeWeave();
        due("turned(0), none", k.turned(0), NONE);
        due("turned(1), none", k.turned(1), NONE);
        for (int cell = 0; cell < 6; cell++) k.paint(0, cell, 7);
        k.village(0, 0, 6, 6);
        due("turned(0), never", k.turned(0), NONE);
        due("turned(1), never", k.turned(1), NONE);
        k.village(2, 0, 4, 6);
        k.village(0, 0, 4, 6);
        due("turned(0), the lowest", k.turned(0), 1);
        due("turned(1)", k.turned(1), 2);
        k.hole(2, 3, 1, 3, 5);
        due("turned(0)", k.turned(0), 2);
        due("turned(1)", k.turned(1), 4);
        due("turned(2)", k.turned(2), NONE);
        due("turned(-1)", k.turned(-1), NONE);
    }

    private static void lost() {
        KeyholeWeave k = new KeyholeWeave();
        due("lost(0), none", k.lost(0), 0);
        k.village(1, 0, 5, 6);
        k.put(0, 1, 16 + 1);
        due("lost(0)", k.lost(0), 7);
        due("lost(1)", k.lost(1), 2);
        k.paint(0, 1, 6);
        due("lost(1) of 6", k.lost(1), 4);
        due("lost(36)", k.lost(36), NONE);
        due("lost(-1)", k.lost(-1), NONE);
    }

    private static void look() {
        KeyholeWeave k = new KeyholeWeave();
        for (int cell = 0; cell < 36; cell++) k.paint(0, cell, 6);
        due("look(3, 0), none", k.look(3, 0), 36);
        due("look(3, 2), none", k.look(3, 2), 1);
        k.village(0, 0, 3, 6);
        k.village(0, 0, 2, 6);
        due("look(0, 0)", k.look(0, 0), 12);
        due("look(1, 0)", k.look(1, 0), 18);
        due("look(1, 1)", k.look(1, 1), 2);
        due("look(2, 0)", k.look(2, 0), 36);
        due("look(2, 1)", k.look(2, 1), 3);
        due("look(3, 1)", k.look(3, 1), 3);
        k.hole(1, 0, 0, 3, 6);
        due("look(1, 0), the fewest", k.look(1, 0), 18);
        due("look(1, 1)", k.look(1, 1), 0);
        due("look(1, 2)", k.look(1, 2), 1);
        k.put(0, 1, 2);
        due("look(3, 0)", k.look(3, 0), 0);
        due("look(3, 1)", k.look(3, 1), 0);
        due("look(4, 0)", k.look(4, 0), NONE);
        due("look(-1, 0)", k.look(-1, 0), NONE);
        due("look(0, 3)", k.look(0, 3), NONE);
        due("look(0, -1)", k.look(0, -1), NONE);
        due("of(0, 2) stays", k.of(0, 2), 3);
        KeyholeWeave same = new KeyholeWeave();
        for (int cell = 0; cell < 12; cell++) same.paint(0, cell, 6);
        same.village(0, 0, 6, 1);
        same.put(0, 0, 3);
        same.village(0, 1, 6, 5);
        same.put(1, 0, 3);
        law(same, "weaves was if seen = 1; weaves 6 if y < 2 and seen = 0");
        same.force(0);
        due("look(0, 0), two ways", same.look(0, 0), 12);
        due("look(1, 0), two ways", same.look(1, 0), 36);
        due("look(1, 1), two ways", same.look(1, 1), 1);
        due("look(1, 2), two ways", same.look(1, 2), 1);
        same.village(0, 0, 6, 1);
        same.put(2, 0, 3);
        due("look(1, 1), three", same.look(1, 1), 0);
        due("look(2, 1), three", same.look(2, 1), 5);
        KeyholeWeave halves = new KeyholeWeave();
        for (int cell = 0; cell < 36; cell++) halves.paint(0, cell, 6);
        halves.village(0, 0, 3, 6);
        halves.village(3, 0, 3, 6);
        due("look(1, 0), as good", halves.look(1, 0), 18);
        due("look(1, 1), the lowest", halves.look(1, 1), 1);
        due("look(1, 2), both", halves.look(1, 2), 2);
    }

    private static void gift() {
        KeyholeWeave k = new KeyholeWeave();
        due("gift(0), none", k.gift(0), NONE);
        k.village(0, 0, 6, 6);
        k.village(0, 0, 6, 6);
        due("gift(0), all", k.gift(0), NONE);
        due("gift(1), all", k.gift(1), NONE);
        for (int cell = 0; cell < 36; cell++) k.paint(0, cell, cell < 20 ? 5 : 2);
        k.put(1, 1, 1);
        due("gift(0)", k.gift(0), 20);
        due("gift(1)", k.gift(1), 1);
        due("gift(2)", k.gift(2), 5);
        for (int cell = 0; cell < 36; cell++) k.paint(0, cell, 3);
        k.put(0, 1, 128);
        k.put(1, 1, 128);
        due("gift(0), of no use", k.gift(0), 0);
        due("gift(1), the lowest", k.gift(1), 0);
        due("gift(2), the lowest", k.gift(2), 0);
        due("gift(3)", k.gift(3), NONE);
        due("gift(-1)", k.gift(-1), NONE);
        due("of(0, 5) stays", k.of(0, 5), 128);
    }

    private static void slips() {
        KeyholeWeave k = new KeyholeWeave();
        due("slips(NONE), none", k.slips(NONE), 0);
        k.village(0, 0, 6, 6);
        k.village(0, 0, 6, 5);
        due("slips(NONE)", k.slips(NONE), 6 * 7);
        due("slips(0)", k.slips(0), 30 * 8 + 1);
        due("slips(41)", k.slips(41), 35 * 8 + 7);
        due("slips(42)", k.slips(42), NONE);
        due("slips(-2)", k.slips(-2), NONE);
        k.put(0, 1, 1);
        k.paint(2, 3, 6);
        due("slips(NONE), two", k.slips(NONE), 2);
        due("slips(0), not of its wool", k.slips(0), 3 * 8 + 6);
        due("slips(1)", k.slips(1), 288 + 3 * 8 + 6);
        law(k, "weaves left if left > 0; weaves above if above > left");
        k.force(0);
        k.paint(2, 4, 6);
        k.paint(2, 5, 6);
        due("slips(NONE), goes on only along the line", k.slips(NONE), 0);
        for (int cell = 9; cell < 36; cell++) if (cell % 6 > 2) k.paint(2, cell, 6);
        due("slips(NONE), goes on", k.slips(NONE), 2);
        due("slips(0), goes on", k.slips(0), 3 * 8 + 6);
        due("slips(1), goes on", k.slips(1), 288 + 3 * 8 + 6);
    }

    private static void could() {
        KeyholeWeave k = new KeyholeWeave();
        due("could(0)", k.could(0), 1);
        k.paint(2, 0, 4);
        due("could(0), other", k.could(0), 16);
        due("could(1)", k.could(1), 0);
        k.village(0, 0, 6, 6);
        k.put(0, 1, 1 + 16);
        due("could(0), by wool", k.could(0), 8 + 16 + 32 + 64 + 128);
        k.hole(0, 1, 0, 5, 6);
        due("could(0), unseen", k.could(0), 0);
        k.put(0, 0, 4);
        for (int y = 0; y < 6; y++) k.paint(2, 6 * y, 4);
        due("could(0), unseen", k.could(0), 255);
        due("could(36)", k.could(36), NONE);
        due("could(-1)", k.could(-1), NONE);
    }

    private static void meeting() {
        KeyholeWeave k = new KeyholeWeave();
        due("meeting(0), none", k.meeting(0), NONE);
        k.village(0, 0, 6, 6);
        due("meeting(0), one", k.meeting(0), NONE);
        due("meeting(1), one", k.meeting(1), NONE);
        k.village(0, 0, 6, 6);
        k.village(0, 0, 6, 6);
        for (int cell = 0; cell < 36; cell++) k.paint(1, cell, cell < 9 ? 0 : 5);
        due("meeting(0), the lowest", k.meeting(0), 0);
        due("meeting(1)", k.meeting(1), 9);
        k.put(1, 1, 32);
        due("meeting(0)", k.meeting(0), 1);
        due("meeting(1)", k.meeting(1), 27);
        due("meeting(2)", k.meeting(2), NONE);
        due("meeting(-1)", k.meeting(-1), NONE);
    }

    private static void seams() {
        KeyholeWeave k = new KeyholeWeave();
        due("seams(NONE)", k.seams(NONE), 0);
        for (int cell = 0; cell < 36; cell++) k.paint(0, cell, (cell + cell / 6) % 2);
        due("seams(NONE), chequered", k.seams(NONE), 60);
        k.village(0, 0, 6, 6);
        k.put(0, 1, 1);
        due("seams(0)", k.seams(0), 0);
        k.put(0, 1, 3);
        k.hole(0, 0, 0, 6, 1);
        due("seams(0), one line", k.seams(0), 5 + 3);
        due("seams(1)", k.seams(1), NONE);
        due("seams(-2)", k.seams(-2), NONE);
    }

    private static void mend() {
        KeyholeWeave k = new KeyholeWeave();
        for (int cell = 0; cell < 36; cell++) k.paint(0, cell, cell % 6 < 3 ? 2 : 5);
        due("mend(), nothing", k.mend(NONE, NONE, NONE, NONE, NONE, 0), 6);
        due("mend(), no first", k.mend(NONE, NONE, NONE, NONE, NONE, 1), NONE);
        k.paint(0, 7, 6);
        due("seams(NONE)", k.seams(NONE), 10);
        due("mend(7)", k.mend(7, NONE, NONE, NONE, NONE, 0), 6);
        due("mend(7), colour", k.mend(7, NONE, NONE, NONE, NONE, 1), 2);
        due("mend(10, 7), first", k.mend(10, 7, NONE, NONE, NONE, 1), 2);
        due("mend(10, 7), second", k.mend(10, 7, NONE, NONE, NONE, 2), 5);
        due("mend(10, 7), third", k.mend(10, 7, NONE, NONE, NONE, 3), NONE);
        due("mend(2, 3, 8, 9, 7), seams", k.mend(2, 3, 8, 9, 7, 0), 6);
        int[] row = {2, 5, 2, 2, 5};
        for (int i = 0; i < 5; i++) due("mend(2, 3, 8, 9, 7), " + i, k.mend(2, 3, 8, 9, 7, 1 + i), row[i]);
        due("mend(.., 6)", k.mend(2, 3, 8, 9, 7, 6), NONE);
        due("mend(.., -1)", k.mend(2, 3, 8, 9, 7, -1), NONE);
        due("mend, twice", k.mend(2, 3, 2, NONE, NONE, 0), NONE);
        due("mend, no cell", k.mend(36, NONE, NONE, NONE, NONE, 0), NONE);
        due("mend, no cell", k.mend(-2, NONE, NONE, NONE, NONE, 0), NONE);
        due("mend, a gap", k.mend(1, NONE, 2, NONE, NONE, 0), NONE);
        due("mend, a gap", k.mend(NONE, NONE, NONE, NONE, 2, 0), NONE);
        k.village(0, 0, 6, 6);
        k.put(0, 1, 8);
        due("mend of the end", k.mend(0, NONE, NONE, NONE, NONE, 1), 3);
    }

    private static void weavers() {
        KeyholeWeave k = new KeyholeWeave();
        due("weavers(5), none", k.weavers(5), 36);
        k.village(0, 0, 6, 6);
        k.terms(0, 0);
        due("weavers(0), no slips", k.weavers(0), 36);
        due("weavers(1000000)", k.weavers(1000000), 36);
        due("weavers(1000001)", k.weavers(1000001), -1);
        due("weavers(-1)", k.weavers(-1), -1);
        k.terms(0, 100);
        long s = 77;
        int alike = 0;
        for (int cell = 0; cell < 36; cell++) {
            for (int i = 0; i < 2; i++) s = (s * 1103 + 12345) % 1000003;
            if (s % 8 == 0) alike++;
        }
        due("weavers(77), all slip", k.weavers(77), alike);
        due("status()", k.status(), 0);
    }

    private static void drawn() {
        KeyholeWeave k = open(2);
        due("drawn(0, 0), ahead of any", k.drawn(0, 0), NONE);
        due("drawn(0, NONE), ahead of any", k.drawn(0, NONE), NONE);
        k.terms(0, 30);
        k.put(1, 1, 64 + 8);
        k.weavers(12);
        long s = 12;
        int[] seen = new int[36];
        for (int v = 0; v < 2; v++) {
            int slips = 0;
            for (int cell = 0; cell < 36; cell++) {
                s = (s * 1103 + 12345) % 1000003;
                if (s % 100 < 30) {
                    slips++;
                    s = (s * 1103 + 12345) % 1000003;
                    seen[cell] = (int) (s % 8);
                }
                if (v == 1) seen[cell] = seen[cell] < 5 ? 3 : 6;
                due("drawn(" + v + ", " + cell + ")", k.drawn(v, cell), seen[cell]);
            }
            due("drawn(" + v + ", NONE)", k.drawn(v, NONE), slips);
        }
        due("drawn(2, 0)", k.drawn(2, 0), NONE);
        k.village(0, 0, 6, 6);
        due("drawn(2, 0), younger", k.drawn(2, 0), NONE);
        due("drawn(-1, 0)", k.drawn(-1, 0), NONE);
        due("drawn(0, 36)", k.drawn(0, 36), NONE);
        due("drawn(0, -2)", k.drawn(0, -2), NONE);
        k.weavers(-1);
        due("drawn(1, 0), -1 keeps", k.drawn(1, 0), seen[0]);
    }

    private static void image() {
        KeyholeWeave k = new KeyholeWeave();
        due("image(0)", k.image(0), 0);
        due("image(1)", k.image(1), 0);
        due("image(2)", k.image(2), -1);
        due("image(-1)", k.image(-1), -1);
        k.paint(0, 0, 4);
        due("image(1) again", k.image(1), 0);
        k.back(0);
        due("told by image 0", k.told(0, 0), 0);
        k.back(1);
        due("told by image 1", k.told(0, 0), 4);
    }

    private static void back() {
        KeyholeWeave k = open(1);
        due("back(0), not kept", k.back(0), -2);
        due("back(2)", k.back(2), -1);
        due("back(-1)", k.back(-1), -1);
        law(k, "weaves 2");
        k.force(0);
        for (int which = 0; which < 3; which++) k.paint(which, 8, 3);
        k.price(2, 40);
        k.terms(0, 50);
        k.terms(1, 60);
        k.put(0, 0, 7);
        k.put(0, 1, 252);
        k.image(1);
        k.back(1);
        law(k, "weaves 3");
        k.force(1);
        for (int which = 0; which < 3; which++) k.paint(which, 8, 1);
        k.price(2, 41);
        k.terms(0, 51);
        k.terms(1, 61);
        k.put(0, 0, 6);
        k.put(0, 1, 255);
        k.hole(0, 3, 3, 1, 1);
        k.village(0, 0, 1, 1);
        k.weavers(3);
        int drawn = k.drawn(1, 0);
        k.feed(0, 0, 0, 0, 0);
        for (int i = 0; i < 2; i++) {
            due("back(1)", k.back(1), 0);
            int[] counts = {1, 1, 20, 2, 1, 0, 0, 0, 50, 60};
            for (int what = 0; what < 10; what++) due("count(" + what + ")", k.count(what), counts[what]);
            for (int which = 0; which < 3; which++) due("told", k.told(which, 8), 3);
            due("price", k.price(2, 9), 40);
            for (int what = 0; what < 6; what++) due("of", k.of(0, what), new int[] {0, 0, 6, 6, 7, 252}[what]);
            due("woven by the law of then", k.woven(0, 0, 0), 2);
            due("drawn stays", k.drawn(1, 0), drawn);
        }
        due("law() behind it", law(k, "weaves 5"), 1);
        k.force(1);
        due("woven by the new law", k.woven(0, 0, 0), 5);
        backToOtherLaws();
    }

    private static void backToOtherLaws() {
        KeyholeWeave k = open(1);
        k.image(0);
        for (int i = 0; i < 6; i++) law(k, "weaves " + i);
        k.image(1);
        k.back(0);
        due("count(1), no laws then", k.count(1), 0);
        due("force(0), no laws then", k.force(0), -2);
        for (int i = 0; i < 6; i++) law(k, "weaves 7");
        k.back(1);
        for (int i = 0; i < 6; i++) {
            k.force(i);
            due("woven by law " + i + " of then", k.woven(0, 0, 0), i);
        }
    }

    private static void count() {
        KeyholeWeave k = open(2);
        law(k, "weaves 1");
        k.force(0);
        k.terms(0, 33);
        k.terms(1, 44);
        k.feed(0, 0, 0, 0, 0);
        k.paint(3, 0, 0);
        k.put(5, 0, 0);
        k.back(0);
        for (int i = 0; i < 9; i++) k.village(0, 0, 1, 1);
        k.end(0);
        k.row();
        k.law();
        k.row();
        k.feed(0, 0, 0, 0, 0);
        k.of(99, 0);
        k.mend(99, 0, 0, 0, 0, 0);
        k.end(77);
        int[] counts = {10, 1, 20, 1, 2, 1, 3, 0, 33, 44};
        for (int what = 0; what < 10; what++) due("count(" + what + ")", k.count(what), counts[what]);
        due("count(10)", k.count(10), NONE);
        due("count(-1)", k.count(-1), NONE);
    }

    private static void status() {
        KeyholeWeave k = new KeyholeWeave();
        k.village(0, 0, 7, 1);
        due("status() of village", k.status(), -1);
        k.of(0, 0);
        k.feed(0, 0, 0, 0, 0);
        k.woven(0, 0, 0);
        k.count(99);
        due("status() stays", k.status(), -1);
        k.put(0, 0, 0);
        due("status() of put", k.status(), -2);
        k.village(0, 0, 1, 1);
        due("status() of village", k.status(), 0);
        k.hole(1, 0, 0, 1, 1);
        due("status() of hole", k.status(), -2);
        k.paint(0, 0, 0);
        due("status() of paint", k.status(), 0);
        k.price(9, 0);
        due("status() of price", k.status(), -1);
        k.price(7, 0);
        due("status() of price", k.status(), 0);
        k.terms(2, 0);
        due("status() of terms", k.status(), -1);
        k.row();
        due("status() of row", k.status(), 0);
        k.law();
        due("status() of law", k.status(), -6);
        k.force(NONE);
        due("status() of force", k.status(), 0);
        k.weavers(-1);
        due("status() of weavers", k.status(), -1);
        k.image(0);
        due("status() of image", k.status(), 0);
        k.back(1);
        due("status() of back", k.status(), -2);
        k.back(0);
        due("status() of back", k.status(), 0);
    }

    private static void run(int number) {
        promise = number;
        switch (number) {
            case 1: newObject(); break;
            case 2: village(); break;
            case 3: put(); break;
            case 4: hole(); break;
            case 5: of(); break;
            case 6: paint(); break;
            case 7: told(); break;
            case 8: price(); break;
            case 9: terms(); break;
            case 10: feed(); break;
            case 11: end(); break;
            case 12: row(); break;
            case 13: lint(); break;
            case 14: law(); break;
            case 15: fault(); break;
            case 16: force(); break;
            case 17: woven(); break;
            case 18: like(); break;
            case 19: costs(); break;
            case 20: turned(); break;
            case 21: lost(); break;
            case 22: look(); break;
            case 23: gift(); break;
            case 24: slips(); break;
            case 25: could(); break;
            case 26: meeting(); break;
            case 27: seams(); break;
            case 28: mend(); break;
            case 29: weavers(); break;
            case 30: drawn(); break;
            case 31: image(); break;
            case 32: back(); break;
            case 33: count(); break;
            default: status(); break;
        }
    }

    public static void main(String[] args) {
        for (int number = 1; number <= 34; number++) run(number);
        System.out.println(wrong == 0 ? "all answers are as due" : wrong + " answers are not as due");
        if (wrong != 0) System.exit(1);
    }
}
