/** The boundary cases of what comes of the first picture (the document's Term III and the promises 17 to 28). */
public final class RoadBoundaryTests {
    private static final int NONE = KeyholeWeave.NONE;
    private static final int LEAST = Integer.MIN_VALUE;
    private static final int MOST = Integer.MAX_VALUE;
    private static int wrong = 0;
    private static String sentence = "";

    private static void due(String call, int got, int want) {
        if (got == want) return;
        wrong++;
        System.out.println("'" + sentence + "': " + call + " answered " + got + ", due is " + want);
    }

    private static void write(KeyholeWeave k, String text) {
        k.end(0);
        for (int i = 0; i < text.length(); i += 20) {
            int[] n = new int[5];
            for (int j = 0; j < 20 && i + j < text.length(); j++) {
                n[j / 4] |= text.charAt(i + j) << 8 * (3 - j % 4);
            }
            k.feed(n[0], n[1], n[2], n[3], n[4]);
        }
        k.end(text.length());
    }

    private static void ruleBy(KeyholeWeave k, String text) {
        write(k, text);
        int law = k.law();
        due("law() of '" + text + "'", law < 0 ? law : 0, 0);
        k.force(law);
    }

    /** A picture of one colour. */
    private static void all(KeyholeWeave k, int which, int colour) {
        write(k, (char) which + String.valueOf((char) colour).repeat(36));
        due("row()", k.row(), 36);
    }

    /** A picture by its lines, a digit a cell. */
    private static void tell(KeyholeWeave k, int which, String... lines) {
        StringBuilder text = new StringBuilder().append((char) which);
        for (String line : lines) for (char c : line.toCharArray()) text.append((char) (c - '0'));
        write(k, text.toString());
        due("row()", k.row(), 36);
    }

    private static KeyholeWeave open(int villages, int colour) {
        KeyholeWeave k = new KeyholeWeave();
        for (int i = 0; i < villages; i++) k.village(0, 0, 6, 6);
        all(k, 0, colour);
        return k;
    }

    /** What is asked for in vain is no refusal. */
    private static void quiet(KeyholeWeave k) {
        due("status()", k.status(), 0);
        for (int what = 3; what < 7; what++) due("count(" + what + ")", k.count(what), 0);
    }

    private interface Change {
        int on(KeyholeWeave k);
    }

    /** An answer of each call that asks for what comes of the first picture; weavers come last. */
    private static int[] asked(KeyholeWeave k) {
        return new int[] {k.woven(0, 0, 0), k.woven(2, 0, 0), k.woven(2, 35, 0), k.woven(0, 0, 1), k.woven(0, 35, 1),
            k.woven(2, 20, 1), k.like(0, NONE), k.like(2, NONE), k.like(1, 2), k.costs(NONE), k.costs(0), k.turned(0),
            k.turned(1), k.lost(0), k.lost(20), k.look(0, 0), k.look(2, 0), k.look(2, 1), k.look(3, 2), k.gift(0), k.gift(1),
            k.gift(2), k.slips(NONE), k.slips(0), k.slips(1), k.could(0), k.could(20), k.meeting(0), k.meeting(1),
            k.seams(NONE), k.seams(2), k.mend(0, 1, 7, 20, NONE, 0), k.mend(0, 1, 7, 20, NONE, 1), k.weavers(9),
            k.drawn(0, NONE), k.drawn(2, 20), k.drawn(2, NONE)};
    }

    private static KeyholeWeave mixed() {
        KeyholeWeave k = new KeyholeWeave();
        k.village(0, 0, 6, 5);
        k.village(1, 0, 5, 6);
        k.village(0, 0, 6, 6);
        k.put(1, 1, 255 - 4);
        k.put(2, 1, 255 - 8 - 64);
        tell(k, 0, "012345", "670123", "456701", "234567", "012345", "670123");
        tell(k, 1, "765432", "107654", "321076", "543210", "765432", "107654");
        write(k, "weaves 1+was if seen=1; weaves left+1 if left=3; weaves [year+village]/9 if y=4");
        due("law()", k.law(), 0);
        write(k, "weaves was if x<y; weaves above if above=5");
        due("law()", k.law(), 1);
        k.terms(0, 25);
        k.image(1);
        k.force(0);
        StringBuilder seen = new StringBuilder("\2");
        for (int cell = 0; cell < 36; cell++) seen.append((char) k.woven(2, cell, 0));
        seen.setCharAt(22, (char) 2);
        write(k, seen.toString());
        k.row();
        return k;
    }

    /** What was asked ahead of a change is asked anew behind it. */
    private static void behind(String what, Change change) {
        KeyholeWeave askedAhead = mixed();
        asked(askedAhead);
        KeyholeWeave fresh = mixed();
        due(what, change.on(askedAhead), change.on(fresh));
        int[] one = asked(askedAhead);
        int[] other = asked(fresh);
        int[] again = asked(fresh);
        for (int i = 0; i < one.length; i++) {
            due("answer " + i + " behind " + what, one[i], other[i]);
            due("answer " + i + " again behind " + what, again[i], other[i]);
        }
    }

    private static void anew() {
        sentence = "what comes of the first picture is what comes of it now";
        KeyholeWeave k = mixed();
        due("slips(NONE) there are some", Math.min(1, k.slips(NONE)), 1);
        behind("nothing", x -> 0);
        behind("village", x -> x.village(0, 0, 6, 3));
        behind("put, taste", x -> x.put(1, 0, 7));
        behind("put, wool", x -> x.put(2, 1, 7));
        behind("hole", x -> x.hole(2, 1, 1, 3, 3));
        for (int which = 0; which < 3; which++) {
            int w = which;
            behind("paint(" + w + ", 0, 7)", x -> x.paint(w, 0, 7));
            behind("paint(" + w + ", 20, 7)", x -> x.paint(w, 20, 7));
            behind("row() of " + w, x -> rowOf(x, w));
        }
        behind("price", x -> x.price(3, 50));
        behind("terms, SLIP", x -> x.terms(0, 90));
        behind("terms, YEAR", x -> x.terms(1, 60));
        behind("force(1)", x -> x.force(1));
        behind("force(NONE)", x -> x.force(NONE));
        behind("back", x -> x.back(1));
        behind("image", x -> x.image(0));
        behind("a refused one", x -> x.put(3, 0, 0));
    }

    private static int rowOf(KeyholeWeave k, int which) {
        write(k, (char) which + "\7\6\5\4\3\2\1\0");
        return k.row();
    }

    private static void road() {
        sentence = "VILLAGE 0 sees the FIRST PICTURE, each other one what that ahead of it wove";
        KeyholeWeave k = open(10, 0);
        all(k, 1, 0);
        ruleBy(k, "weaves was+1");
        for (int v = 0; v < 10; v++) {
            for (int cell : new int[] {0, 17, 35}) {
                due("woven(" + v + ", " + cell + ", 0)", k.woven(v, cell, 0), Math.min(7, v + 1));
                due("woven(" + v + ", " + cell + ", 1)", k.woven(v, cell, 1), Math.min(7, 10 - v));
            }
        }
        sentence = "BACKWARDS: the last VILLAGE sees the SECOND one, each other one what that behind it wove";
        all(k, 1, 5);
        due("woven(9, 0, 1)", k.woven(9, 0, 1), 6);
        due("woven(8, 0, 1)", k.woven(8, 0, 1), 7);
        due("woven(9, 0, 0)", k.woven(9, 0, 0), 7);
        due("woven(0, 0, 0)", k.woven(0, 0, 0), 1);
        for (int way : new int[] {-1, 2, LEAST, MOST}) due("woven(0, 0, " + way + ")", k.woven(0, 0, way), NONE);
        quiet(k);
        KeyholeWeave one = open(1, 3);
        all(one, 1, 4);
        due("woven(0, 0, 0) of one village", one.woven(0, 0, 0), 3);
        due("woven(0, 0, 1) of one village", one.woven(0, 0, 1), 4);
        KeyholeWeave none = open(0, 3);
        due("woven(0, 0, 0) of none", none.woven(0, 0, 0), NONE);
        due("woven(0, 0, 1) of none", none.woven(0, 0, 1), NONE);
        quiet(none);
    }

    private static void likeness() {
        sentence = "LIKENESS of two PICTURES: CELLS of the same COLOUR (NONE: the FIRST)";
        KeyholeWeave k = open(2, 3);
        due("like(0, NONE), all", k.like(0, NONE), 36);
        due("like(NONE, NONE)", k.like(NONE, NONE), 36);
        due("like(1, 1)", k.like(1, 1), 36);
        k.put(0, 1, 16);
        due("like(0, NONE), none", k.like(0, NONE), 0);
        due("like(NONE, 0), none", k.like(NONE, 0), 0);
        due("like(0, 0)", k.like(0, 0), 36);
        due("like(0, 1)", k.like(0, 1), 36);
        k.hole(1, 5, 5, 1, 1);
        k.put(1, 0, 3);
        due("like(0, 1), one", k.like(0, 1), 1);
        due("like(1, NONE), all but one", k.like(1, NONE), 35);
        for (int v : new int[] {-2, 2, LEAST, MOST}) {
            due("like(" + v + ", 0)", k.like(v, 0), NONE);
            due("like(0, " + v + ")", k.like(0, v), NONE);
            due("like(" + v + ", " + v + ")", k.like(v, v), NONE);
        }
        quiet(k);
        KeyholeWeave none = open(0, 4);
        due("like(NONE, NONE) of none", none.like(NONE, NONE), 36);
        due("like(0, NONE) of none", none.like(0, NONE), NONE);
    }

    private static void costs() {
        sentence = "What a VILLAGE's PICTURE on the ROAD costs by PRICES; the END (village NONE). NONE";
        KeyholeWeave k = open(0, 3);
        k.price(3, 99);
        due("costs(NONE) without villages: the first", k.costs(NONE), 36 * 99);
        due("costs(0)", k.costs(0), NONE);
        k.village(0, 0, 6, 6);
        k.village(0, 0, 6, 3);
        k.price(0, 0);
        due("costs(0)", k.costs(0), 36 * 99);
        due("costs(1)", k.costs(1), 18 * 99);
        due("costs(NONE)", k.costs(NONE), 18 * 99);
        k.price(0, 2);
        due("costs(NONE)", k.costs(NONE), 18 * 101);
        k.price(0, 0);
        k.price(3, 0);
        due("costs(NONE), free", k.costs(NONE), 0);
        for (int v : new int[] {-2, 2, LEAST, MOST}) due("costs(" + v + ")", k.costs(v), NONE);
        quiet(k);
    }

    private static void turned() {
        sentence = "It TURNED at the VILLAGE by which LIKENESS to the FIRST falls most (from 36 on; the lowest)";
        KeyholeWeave k = open(10, 6);
        due("turned(0), it never falls", k.turned(0), NONE);
        due("turned(1), it never falls", k.turned(1), NONE);
        k.hole(9, 1, 0, 5, 6);
        due("turned(0), the last by six", k.turned(0), 9);
        due("turned(1), the last by six", k.turned(1), 6);
        k.hole(0, 0, 0, 5, 6);
        due("turned(0), both by six", k.turned(0), 0);
        due("turned(1), both by six", k.turned(1), 6);
        k.hole(9, 0, 0, 6, 4);
        due("turned(0), the last by ten", k.turned(0), 9);
        due("turned(1), the last by ten", k.turned(1), 10);
        k.put(0, 1, 1);
        due("turned(0), the first by all", k.turned(0), 0);
        due("turned(1), the first by all", k.turned(1), 36);
        for (int what : new int[] {-1, 2, LEAST, MOST}) due("turned(" + what + ")", k.turned(what), NONE);
        turnedBehindARise();
        KeyholeWeave none = open(0, 6);
        due("turned(0), no villages", none.turned(0), NONE);
        due("turned(1), no villages", none.turned(1), NONE);
        quiet(none);
    }

    private static void turnedBehindARise() {
        sentence = "It TURNED where it falls most, from what the one ahead had";
        KeyholeWeave k = open(3, 0);
        k.hole(0, 0, 0, 6, 5);
        k.put(0, 0, 1);
        k.hole(1, 0, 0, 1, 1);
        k.put(2, 1, 2);
        due("like(0, NONE)", k.like(0, NONE), 30);
        due("like(1, NONE), it rises", k.like(1, NONE), 36);
        due("like(2, NONE)", k.like(2, NONE), 0);
        due("turned(0)", k.turned(0), 2);
        due("turned(1)", k.turned(1), 36);
        KeyholeWeave one = open(2, 4);
        one.paint(0, 35, 5);
        one.put(1, 1, 16);
        due("turned(0), by one cell", one.turned(0), 1);
        due("turned(1), by one cell", one.turned(1), 1);
        KeyholeWeave slowly = open(2, 4);
        slowly.hole(0, 0, 0, 6, 3);
        slowly.hole(1, 0, 0, 1, 1);
        due("turned(0): 18 then 17, not 35", slowly.turned(0), 0);
        due("turned(1): 18 then 17, not 35", slowly.turned(1), 18);
    }

    private static void lost() {
        sentence = "LOST is a CELL of the FIRST for a COLOUR, if the END is the same with that COLOUR there";
        KeyholeWeave k = open(0, 5);
        due("lost(0), no villages", k.lost(0), 0);
        due("lost(35), no villages", k.lost(35), 0);
        k.village(0, 0, 6, 6);
        due("lost(0)", k.lost(0), 0);
        k.put(0, 1, 32);
        due("lost(0), it has one colour", k.lost(0), 7);
        due("lost(35), it has one colour", k.lost(35), 7);
        k.put(0, 1, 32 + 64);
        due("lost(0): 0 .. 4", k.lost(0), 5);
        k.put(0, 1, 255);
        k.hole(0, 1, 0, 5, 6);
        due("lost(0), unseen", k.lost(0), 7);
        due("lost(1), seen", k.lost(1), 0);
        due("told(0, 0) stays", k.told(0, 0), 5);
        due("woven(0, 1, 0) stays", k.woven(0, 1, 0), 5);
        ruleBy(k, "weaves left if x=1; weaves 2 if x=0");
        due("lost(1), nobody asks for it", k.lost(1), 7);
        ruleBy(k, "weaves 3 if was=5; weaves 3 if was=6; weaves left if x=2");
        due("lost(1): 3, 5 and 6 are woven as 3", k.lost(1), 2);
        quiet(k);
    }

    private static void look() {
        sentence = "A LOOK: the best of at most n (0 .. 3)";
        KeyholeWeave k = open(10, 6);
        for (int v = 7; v < 10; v++) k.hole(v, 0, 0, 1, 1);
        looks(k, 0, 1, 0, 1);
        looks(k, 1, 1, 0, 1);
        looks(k, 2, 1, 0, 1);
        looks(k, 3, 36, 128 + 256 + 512, 1);
        for (int n : new int[] {-1, 4, 10, LEAST, MOST}) {
            for (int what = 0; what < 3; what++) due("look(" + n + ", " + what + ")", k.look(n, what), NONE);
        }
        for (int what : new int[] {-1, 3, LEAST, MOST}) {
            for (int n = 0; n < 4; n++) due("look(" + n + ", " + what + ")", k.look(n, what), NONE);
        }
        due("of(9, 2) stays", k.of(9, 2), 1);
        due("woven(9, 35, 0) stays", k.woven(9, 35, 0), 0);
        quiet(k);
        k.hole(6, 0, 0, 1, 1);
        looks(k, 3, 1, 0, 1);
        sentence = "A LOOK: at most n, of fewer VILLAGES than that";
        KeyholeWeave none = open(0, 6);
        for (int n = 0; n < 4; n++) looks(none, n, 36, 0, 1);
        KeyholeWeave one = open(0, 6);
        one.village(0, 0, 6, 1);
        looks(one, 0, 6, 0, 1);
        for (int n = 1; n < 4; n++) looks(one, n, 36, 1, 1);
    }

    private static void looks(KeyholeWeave k, int n, int likeness, int which, int many) {
        due("look(" + n + ", 0)", k.look(n, 0), likeness);
        due("look(" + n + ", 1)", k.look(n, 1), which);
        due("look(" + n + ", 2)", k.look(n, 2), many);
    }

    private static void lookAsGood() {
        sentence = "by the fewest, then the lowest as bits; how many sets of as few are as good";
        // Each of four villages does not see one side of the picture.
        KeyholeWeave k = open(0, 6);
        k.village(1, 0, 5, 6);
        k.village(0, 0, 5, 6);
        k.village(0, 1, 6, 5);
        k.village(0, 0, 6, 5);
        looks(k, 0, 16, 0, 1);
        looks(k, 1, 20, 1, 4);
        looks(k, 2, 25, 1 + 4, 4);
        looks(k, 3, 30, 1 + 2 + 4, 4);
        k.village(0, 0, 6, 6);
        looks(k, 2, 25, 1 + 4, 4);
        looks(k, 3, 30, 1 + 2 + 4, 4);
        k.put(4, 1, 1);
        for (int n = 0; n < 4; n++) looks(k, n, 0, 0, 1);
        // A look that makes it less alike is not taken; where all look already each is as good, and none is the fewest.
        KeyholeWeave blind = open(0, 0);
        blind.village(0, 0, 1, 1);
        blind.put(0, 0, 0);
        ruleBy(blind, "weaves 1 if seen=1");
        for (int n = 0; n < 4; n++) looks(blind, n, 35, 0, 1);
        KeyholeWeave all = open(10, 2);
        for (int n = 0; n < 4; n++) looks(all, n, 36, 0, 1);
    }

    private static void gift() {
        sentence = "A GIFT: one more COLOUR of WOOL for one VILLAGE; NONE (all have all, no VILLAGES)";
        KeyholeWeave none = open(0, 3);
        gifts(none, NONE, NONE, NONE);
        KeyholeWeave k = open(10, 3);
        gifts(k, NONE, NONE, NONE);
        k.put(9, 1, 127);
        gifts(k, 36, 9, 7);
        k.put(9, 1, 255 - 8);
        due("like(9, NONE)", k.like(9, NONE), 0);
        gifts(k, 36, 9, 3);
        k.put(0, 1, 254);
        due("like(0, NONE)", k.like(0, NONE), 36);
        gifts(k, 36, 9, 3);
        k.put(8, 1, 255 - 8);
        gifts(k, 0, 0, 0);
        for (int what : new int[] {-1, 3, LEAST, MOST}) due("gift(" + what + ")", k.gift(what), NONE);
        due("of(9, 5) stays", k.of(9, 5), 255 - 8);
        quiet(k);
        quiet(none);
        giftOfACell();
        sentence = "the greatest LIKENESS of the END then; the lowest VILLAGE, then COLOUR";
        KeyholeWeave ties = open(2, 4);
        ties.put(0, 1, 255 - 2 - 4);
        ties.put(1, 1, 255 - 1);
        gifts(ties, 36, 0, 1);
        ties.put(0, 1, 255);
        gifts(ties, 36, 1, 0);
        ties.put(0, 1, 16);
        ties.put(1, 1, 1);
        gifts(ties, 36, 1, 4);
        // The one gift that can be given makes it worse.
        KeyholeWeave worse = open(1, 4);
        worse.put(0, 1, 255 - 32);
        ruleBy(worse, "weaves 5");
        due("like(0, NONE)", worse.like(0, NONE), 36);
        gifts(worse, 0, 0, 5);
    }

    /** A gift that only one cell needs, ahead of villages that see all. */
    private static void giftOfACell() {
        for (int cell : new int[] {0, 5, 6, 30, 35}) {
            KeyholeWeave k = open(3, 0);
            k.paint(0, cell, 7);
            k.put(0, 1, 1);
            due("like(2, NONE)", k.like(2, NONE), 35);
            gifts(k, 36, 0, 7);
            looks(k, 3, 35, 0, 1);
            due("lost(" + cell + "), it has no more than it had", k.lost(cell), 7);
            due("weavers() have no more than they had", slipless(k), 35);
        }
    }

    private static int slipless(KeyholeWeave k) {
        k.terms(0, 0);
        return k.weavers(0);
    }

    private static void gifts(KeyholeWeave k, int likeness, int village, int colour) {
        due("gift(0)", k.gift(0), likeness);
        due("gift(1)", k.gift(1), village);
        due("gift(2)", k.gift(2), colour);
    }

    private static void slips() {
        sentence = "SLIPS that EXPLAIN SEEN: how many (i NONE), the i-th as VILLAGE times 288, CELL times 8 and COLOUR. NONE";
        KeyholeWeave none = new KeyholeWeave();
        due("slips(NONE), no villages", none.slips(NONE), 0);
        due("slips(0), no villages", none.slips(0), NONE);
        KeyholeWeave k = open(10, 0);
        due("slips(NONE), SEEN is the end itself", k.slips(NONE), 0);
        due("slips(0)", k.slips(0), NONE);
        k.put(9, 1, 1);
        int many = 9 * 36 * 7;
        due("slips(NONE), nine villages whatever they do", k.slips(NONE), many);
        due("slips(0)", k.slips(0), 1);
        due("slips(6)", k.slips(6), 7);
        due("slips(7)", k.slips(7), 9);
        due("slips(36 * 7)", k.slips(36 * 7), 289);
        due("slips(many - 1)", k.slips(many - 1), 8 * 288 + 35 * 8 + 7);
        due("slips(many)", k.slips(many), NONE);
        for (int i : new int[] {-2, LEAST, MOST}) due("slips(" + i + ")", k.slips(i), NONE);
        k.paint(2, 35, 7);
        due("slips(NONE), the last village's, not of its wool", k.slips(NONE), 1);
        due("slips(0)", k.slips(0), 9 * 288 + 35 * 8 + 7);
        due("slips(1)", k.slips(1), NONE);
        k.paint(2, 34, 7);
        due("slips(NONE), two cells by no single one", k.slips(NONE), 0);
        quiet(k);
    }

    private static void slipsOrder() {
        sentence = "another one; goes on by that; in order of VILLAGES, CELLS, COLOURS";
        KeyholeWeave k = open(2, 5);
        all(k, 2, 5);
        k.paint(2, 0, 0);
        due("slips(NONE)", k.slips(NONE), 2);
        due("slips(0)", k.slips(0), 0);
        due("slips(1)", k.slips(1), 288);
        k.put(1, 1, 1 + 32);
        due("slips(NONE): 0, 1, 2 of the first are 0 in the end", k.slips(NONE), 4);
        for (int i = 0; i < 3; i++) due("slips(" + i + ")", k.slips(i), i);
        due("slips(3)", k.slips(3), 288);
        due("slips(4)", k.slips(4), NONE);
        KeyholeWeave on = open(1, 0);
        ruleBy(on, "weaves left if left>0; weaves above if above>0");
        tell(on, 2, "000000", "000000", "000000", "000000", "000333", "000333");
        due("slips(NONE), it goes on to the right and below", on.slips(NONE), 1);
        due("slips(0)", on.slips(0), 27 * 8 + 3);
        tell(on, 2, "000000", "000000", "000000", "000000", "000300", "000000");
        due("slips(NONE), it can't but go on", on.slips(NONE), 0);
        tell(on, 2, "000000", "000000", "000000", "000000", "000000", "000007");
        due("slips(0), the last cell has none to go on to", on.slips(0), 35 * 8 + 7);
        KeyholeWeave down = open(1, 0);
        ruleBy(down, "weaves above if above>0");
        tell(down, 2, "300000", "300000", "300000", "300000", "300000", "300000");
        due("slips(0), from the first cell to the last below it", down.slips(0), 3);
        tell(down, 2, "000000", "000004", "000004", "000004", "000004", "000004");
        due("slips(0), along the right side", down.slips(0), 11 * 8 + 4);
        KeyholeWeave rising = open(1, 0);
        ruleBy(rising, "weaves left+1");
        tell(rising, 2, "012345", "123456", "012345", "012345", "012345", "012345");
        due("slips(NONE), it goes on by what stood there one cell further", rising.slips(NONE), 1);
        due("slips(0)", rising.slips(0), 6 * 8 + 1);
        KeyholeWeave along = open(3, 0);
        ruleBy(along, "weaves was+1; weaves left if left>5");
        tell(along, 2, "333333", "333333", "337777", "333333", "333333", "333333");
        // 5 in village 0 is 6 in the next, which goes on to the right; 7 is the most that there is.
        int[] found = {14 * 8 + 5, 14 * 8 + 6, 14 * 8 + 7, 288 + 14 * 8 + 6, 288 + 14 * 8 + 7, 2 * 288 + 14 * 8 + 7};
        due("slips(NONE), each village sees another picture", along.slips(NONE), found.length);
        for (int i = 0; i < found.length; i++) due("slips(" + i + ")", along.slips(i), found[i]);
        due("slips(6)", along.slips(6), NONE);
    }

    private static void could() {
        sentence = "COULD: COLOURS that a CELL of the FIRST can have had (all others as they are) so that the END is SEEN";
        KeyholeWeave k = open(0, 2);
        due("could(0), no villages, SEEN is another", k.could(0), 0);
        all(k, 2, 2);
        due("could(0), no villages", k.could(0), 4);
        due("could(35), no villages", k.could(35), 4);
        k.paint(0, 35, 7);
        due("could(35), what it is now is not what was seen", k.could(35), 4);
        due("could(0), another cell is not as seen", k.could(0), 0);
        k.paint(0, 35, 2);
        k.village(0, 0, 6, 6);
        due("could(0)", k.could(0), 4);
        k.put(0, 1, 4);
        due("could(0), it has one colour", k.could(0), 255);
        k.put(0, 1, 4 + 128);
        due("could(0): 0 .. 4", k.could(0), 31);
        all(k, 2, 3);
        due("could(0), never", k.could(0), 0);
        KeyholeWeave more = open(2, 3);
        ruleBy(more, "weaves was+1");
        all(more, 2, 5);
        more.paint(2, 7, 6);
        due("could(7), as its neighbours weave it later", more.could(7), 16);
        due("could(8)", more.could(8), 0);
        quiet(k);
    }

    private static void meeting() {
        sentence = "The MEETING: the two next VILLAGES; the lowest; NONE (fewer than two)";
        KeyholeWeave k = open(0, 1);
        all(k, 1, 2);
        meets(k, NONE, NONE);
        k.village(0, 0, 6, 6);
        meets(k, NONE, NONE);
        k.village(0, 0, 6, 6);
        meets(k, 0, 0);
        k.put(0, 1, 2);
        meets(k, 0, 0);
        k.put(0, 1, 255);
        k.put(1, 1, 2);
        meets(k, 0, 36);
        k.put(1, 1, 255);
        for (int i = 2; i < 10; i++) k.village(0, 0, 6, 6);
        meets(k, 0, 0);
        k.put(8, 1, 4);
        meets(k, 8, 36);
        k.put(8, 1, 255);
        k.put(9, 1, 2);
        meets(k, 0, 36);
        k.put(9, 1, 255);
        k.hole(4, 0, 0, 6, 5);
        k.put(4, 0, 2);
        meets(k, 4, 6);
        for (int what : new int[] {-1, 2, LEAST, MOST}) due("meeting(" + what + ")", k.meeting(what), NONE);
        quiet(k);
    }

    private static void meets(KeyholeWeave k, int village, int likeness) {
        due("meeting(0)", k.meeting(0), village);
        due("meeting(1)", k.meeting(1), likeness);
    }

    private static void seams() {
        sentence = "SEAMS (sides between CELLS of unlike COLOURS); NONE: the FIRST. NONE";
        KeyholeWeave k = open(0, 4);
        due("seams(NONE), none", k.seams(NONE), 0);
        tell(k, 0, "010101", "101010", "010101", "101010", "010101", "101010");
        due("seams(NONE), all", k.seams(NONE), 60);
        tell(k, 0, "111111", "111111", "111111", "111111", "111111", "111112");
        due("seams(NONE), a corner", k.seams(NONE), 2);
        tell(k, 0, "111111", "111111", "111112", "111111", "111111", "111111");
        due("seams(NONE), a side", k.seams(NONE), 3);
        tell(k, 0, "111111", "111111", "111211", "111111", "111111", "111111");
        due("seams(NONE), the middle", k.seams(NONE), 4);
        tell(k, 0, "111112", "211111", "111111", "111111", "111111", "111111");
        due("seams(NONE), the end of a line is not next to the next one's start", k.seams(NONE), 5);
        k.village(0, 0, 6, 6);
        k.put(0, 1, 2);
        due("seams(0)", k.seams(0), 0);
        due("seams(NONE), of the first", k.seams(NONE), 5);
        for (int v : new int[] {-2, 1, LEAST, MOST}) due("seams(" + v + ")", k.seams(v), NONE);
        quiet(k);
    }

    private static void mended(KeyholeWeave k, int[] cells, int seams, int... row) {
        int[] c = {NONE, NONE, NONE, NONE, NONE};
        System.arraycopy(cells, 0, c, 0, cells.length);
        String call = "mend(" + java.util.Arrays.toString(cells) + ", ";
        due(call + "0)", k.mend(c[0], c[1], c[2], c[3], c[4], 0), seams);
        for (int i = 0; i < row.length; i++) {
            due(call + (1 + i) + ")", k.mend(c[0], c[1], c[2], c[3], c[4], 1 + i), row[i]);
        }
        for (int what : new int[] {-1, 1 + row.length, LEAST, MOST}) {
            due(call + what + ")", k.mend(c[0], c[1], c[2], c[3], c[4], what), NONE);
        }
    }

    private static void mendCells() {
        sentence = "MOTHS eat CELLS of the END, 5 at most (different ones); (cell NONE: not so many)";
        KeyholeWeave k = open(0, 4);
        mended(k, new int[] {}, 0);
        mended(k, new int[] {0}, 0, 4);
        mended(k, new int[] {35}, 0, 4);
        mended(k, new int[] {35, 0}, 0, 4, 4);
        mended(k, new int[] {35, 34, 33}, 0, 4, 4, 4);
        mended(k, new int[] {1, 0, 7, 6}, 0, 4, 4, 4, 4);
        mended(k, new int[] {1, 0, 7, 6, 35}, 0, 4, 4, 4, 4, 4);
        int[][] bad = {{36, -1, -1, -1, -1}, {-2, -1, -1, -1, -1}, {0, 36, -1, -1, -1}, {0, 1, 2, 3, 36}, {0, 1, 2, 3, -2},
            {LEAST, -1, -1, -1, -1}, {MOST, -1, -1, -1, -1}, {0, 0, -1, -1, -1}, {0, 1, 2, 3, 0}, {35, 35, 35, 35, 35},
            {1, 2, 3, 4, 4}, {-1, 0, -1, -1, -1}, {0, -1, 1, -1, -1}, {0, 1, 2, -1, 3}, {-1, -1, -1, -1, 0},
            {-1, -1, -1, -1, 36}, {0, -1, 36, -1, -1}, {0, -1, 0, -1, -1}};
        for (int[] b : bad) {
            for (int what = 0; what < 3; what++) {
                due("mend(" + java.util.Arrays.toString(b) + ", " + what + ")", k.mend(b[0], b[1], b[2], b[3], b[4], what), NONE);
            }
        }
        due("told(0, 0) stays", k.told(0, 0), 4);
        quiet(k);
    }

    private static int seamsOf(int[] p) {
        int sum = 0;
        for (int cell = 0; cell < 36; cell++) {
            if (cell % 6 < 5 && p[cell] != p[cell + 1]) sum++;
            if (cell < 30 && p[cell] != p[cell + 6]) sum++;
        }
        return sum;
    }

    /** Each cell alone and with the one beside it or below it, by trying all colours. */
    private static void mendAnywhere() {
        sentence = "the fewest SEAMS are left, wherever the CELLS lie";
        String[] lines = {"012345", "335570", "146123", "757104", "260531", "423367"};
        int[] p = new int[36];
        for (int cell = 0; cell < 36; cell++) p[cell] = lines[cell / 6].charAt(cell % 6) - '0';
        for (int first = 0; first < 36; first++) {
            KeyholeWeave k = open(0, 0);
            tell(k, 0, lines);
            for (int step : new int[] {0, 1, 6, 35 - first}) {
                int second = first + step;
                if (second > 35) continue;
                int best = 99;
                int row = 0;
                for (int colours = 0; colours < (step == 0 ? 8 : 64); colours++) {
                    int[] q = p.clone();
                    q[first] = step == 0 ? colours : colours / 8;
                    q[second] = colours % 8;
                    if (seamsOf(q) >= best) continue;
                    best = seamsOf(q);
                    row = colours;
                }
                if (step == 0) mended(k, new int[] {first}, best, row);
                else mended(k, new int[] {second, first}, best, row / 8, row % 8);
            }
        }
    }

    private static void mendRows() {
        sentence = "the fewest SEAMS of the whole PICTURE; the first as a row of COLOURS by rising CELLS, lower ones ahead";
        KeyholeWeave k = open(0, 0);
        tell(k, 0, "000000", "030000", "175000", "020000", "000000", "000000");
        mended(k, new int[] {13}, 14, 1);
        tell(k, 0, "000000", "053000", "472000", "060000", "000000", "000000");
        due("mend(13), the lowest of its four sides", k.mend(13, NONE, NONE, NONE, NONE, 1), 2);
        tell(k, 0, "700000", "600000", "000000", "000000", "000000", "000000");
        mended(k, new int[] {0}, 3, 0);
        tell(k, 0, "072222", "722222", "222222", "222222", "222222", "222222");
        mended(k, new int[] {0}, 4, 7);
        tell(k, 0, "333555", "333555", "330055", "333555", "333555", "333555");
        mended(k, new int[] {15, 14}, 6, 3, 5);
        // The corner has as many seams with the colour below it as with the one beside it.
        tell(k, 0, "003333", "533333", "333333", "333333", "333333", "333333");
        mended(k, new int[] {0, 1}, 3, 3, 3);
        tell(k, 0, "003333", "233333", "333333", "333333", "333333", "333333");
        mended(k, new int[] {0, 1}, 3, 2, 3);
        tell(k, 0, "111222", "111222", "111222", "222111", "222111", "222111");
        mended(k, new int[] {14, 15, 20, 21}, 12, 1, 1, 1, 1);
        // A colour of its own would be lower, but has more seams than one that a side has.
        tell(k, 0, "777777", "777777", "777777", "777777", "777777", "777777");
        mended(k, new int[] {0, 1, 2, 3, 4}, 0, 7, 7, 7, 7, 7);
        mended(k, new int[] {21, 15, 14, 20, 28}, 0, 7, 7, 7, 7, 7);
        tell(k, 0, "700000", "000000", "000000", "000000", "000000", "000007");
        mended(k, new int[] {35, 0}, 0, 0, 0);
        mended(k, new int[] {35}, 2, 0);
        // As many seams as a picture can have: each of its sixty sides.
        tell(k, 0, "010101", "101010", "010101", "101010", "010101", "101010");
        mended(k, new int[] {}, 60);
        mended(k, new int[] {0}, 58, 1);
        mended(k, new int[] {7, 10, 25, 28, 14}, 40, 1, 0, 1, 0, 1);
        tell(k, 0, "700000", "000000", "000000", "000000", "000000", "000007");
        k.village(0, 0, 6, 6);
        k.put(0, 1, 4 + 32);
        sentence = "MOTHS eat CELLS of the END; a MENDING puts a COLOUR in each";
        mended(k, new int[] {0}, 2, 2);
        mended(k, new int[] {}, 4);
        due("seams(0)", k.seams(0), 4);
        due("woven(0, 0, 0) stays", k.woven(0, 0, 0), 5);
    }

    public static void main(String[] args) {
        anew();
        road();
        likeness();
        costs();
        turned();
        lost();
        look();
        lookAsGood();
        gift();
        slips();
        slipsOrder();
        could();
        meeting();
        seams();
        mendCells();
        mendRows();
        mendAnywhere();
        System.out.println(wrong == 0 ? "all answers are as due" : wrong + " answers are not as due");
        if (wrong != 0) System.exit(1);
    }
}
