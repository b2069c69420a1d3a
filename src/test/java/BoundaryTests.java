import java.lang.reflect.Method;
import java.lang.reflect.Modifier;
import java.util.ArrayList;
import java.util.List;

/**
 * The boundary cases of what is told and kept (the document's Terms I and IV, and the promises that answer by them):
 * the last call that is allowed, the first that is refused, and what the calls behind it show.
 */
public final class BoundaryTests {
    private static final int NONE = KeyholeWeave.NONE;
    private static final int LEAST = Integer.MIN_VALUE;
    private static final int MOST = Integer.MAX_VALUE;
    private static int wrong = 0;
    private static String sentence = "";

    private interface Start {
        void on(KeyholeWeave k);
    }

    private interface Call {
        int on(KeyholeWeave k);
    }

    private static void due(String call, int got, int want) {
        if (got == want) return;
        wrong++;
        System.out.println("'" + sentence + "': " + call + " answered " + got + ", due is " + want);
    }

    /** Puts a text on the tape in the place of what is there. */
    private static void write(KeyholeWeave k, String text) {
        k.end(0);
        for (int i = 0; i < text.length(); i += 20) {
            int[] n = new int[5];
            for (int j = 0; j < 20 && i + j < text.length(); j++) {
                n[j / 4] |= text.charAt(i + j) << 8 * (3 - j % 4);
            }
            k.feed(n[0], n[1], n[2], n[3], n[4]);
        }
        k.end(text.length());
    }

    private static int law(KeyholeWeave k, String text) {
        write(k, text);
        return k.law();
    }

    private static int row(KeyholeWeave k, String text) {
        write(k, text);
        return k.row();
    }

    /** A row's bytes: which picture, then as many colours as there are. */
    private static String bytes(int... all) {
        StringBuilder text = new StringBuilder();
        for (int one : all) text.append((char) one);
        return text.toString();
    }

    private static String picture(int which, int times, int plus) {
        StringBuilder text = new StringBuilder(bytes(which));
        for (int cell = 0; cell < 36; cell++) text.append((char) ((cell * times + cell / 6 + plus) % 8));
        return text.toString();
    }

    /** All kinds of state, each unlike what it is at first, so that whatever a call changes can be seen. */
    private static void rich(KeyholeWeave k) {
        k.village(0, 0, 6, 6);
        k.village(1, 0, 5, 6);
        k.village(0, 2, 6, 4);
        k.put(0, 0, 1);
        k.put(1, 0, 6);
        k.put(2, 0, 3);
        k.put(1, 1, 237);
        row(k, picture(0, 3, 0));
        row(k, picture(1, 5, 1));
        k.price(2, 7);
        k.price(5, 40);
        k.terms(0, 30);
        k.terms(1, 5);
        law(k, "weaves was+1 if seen=1 and x<3");
        law(k, "weaves left+1 if x>3");
        k.image(0);
        k.force(1);
        row(k, picture(2, 1, 2) + "abc");
        k.weavers(77);
        law(k, "weaves 1 2");
        write(k, "weaves x;");
    }

    private static void nothing(KeyholeWeave k) {
    }

    private static void tenVillages(KeyholeWeave k) {
        rich(k);
        for (int i = 3; i < 10; i++) k.village(i % 6, i % 5, 1, 1);
    }

    private static void sixLaws(KeyholeWeave k) {
        rich(k);
        for (int i = 2; i < 5; i++) law(k, "weaves " + i);
        law(k, "weaves 7 if");
        law(k, "weaves 5");
        write(k, "weaves 7");
    }

    private static KeyholeWeave made(Start start) {
        KeyholeWeave k = new KeyholeWeave();
        start.on(k);
        return k;
    }

    /** Open villages behind a first picture of one colour. */
    private static KeyholeWeave open(int villages, int colour) {
        KeyholeWeave k = new KeyholeWeave();
        for (int i = 0; i < villages; i++) k.village(0, 0, 6, 6);
        all(k, 0, colour);
        return k;
    }

    private static void all(KeyholeWeave k, int which, int colour) {
        row(k, bytes(which) + bytes(colour).repeat(36));
    }

    private static void see(List<String> seen, String call, int answer) {
        seen.add(call + " answered " + answer);
    }

    /** Whatever can be seen of an object, but for its refusals; the calls stay under 400. */
    private static List<String> shown(KeyholeWeave k) {
        List<String> seen = new ArrayList<>();
        for (int what : new int[] {0, 1, 2, 7, 8, 9}) see(seen, "count(" + what + ")", k.count(what));
        see(seen, "lint()", k.lint());
        see(seen, "fault()", k.fault());
        for (int v = 0; v < 10; v++) {
            for (int what = 0; what < 6; what++) see(seen, "of(" + v + "," + what + ")", k.of(v, what));
            for (int cell : new int[] {NONE, 0, 20, 35}) see(seen, "drawn(" + v + "," + cell + ")", k.drawn(v, cell));
            for (int cell : new int[] {0, 35}) see(seen, "woven(" + v + "," + cell + ",1)", k.woven(v, cell, 1));
            see(seen, "costs(" + v + ")", k.costs(v));
        }
        for (int which = 0; which < 3; which++) {
            for (int cell = 0; cell < 36; cell++) see(seen, "told(" + which + "," + cell + ")", k.told(which, cell));
        }
        see(seen, "law()", k.law());
        see(seen, "fault() of the tape", k.fault());
        for (int law = 0; law < k.count(1); law++) {
            see(seen, "force(" + law + ")", k.force(law));
            see(seen, "costs(NONE) by law " + law, k.costs(NONE));
        }
        for (int colour = 0; colour < 8; colour++) see(seen, "price(" + colour + ",0)", k.price(colour, 0));
        for (int image = 1; image >= 0; image--) {
            see(seen, "back(" + image + ")", k.back(image));
            for (int what : new int[] {0, 1, 7, 8, 9}) see(seen, "count(" + what + ") then", k.count(what));
            see(seen, "told(0,35) then", k.told(0, 35));
        }
        return seen;
    }

    private static void alike(String call, KeyholeWeave with, KeyholeWeave without) {
        List<String> one = shown(with);
        List<String> other = shown(without);
        for (int i = 0; i < Math.max(one.size(), other.size()); i++) {
            String now = i < one.size() ? one.get(i) : "nothing";
            String ahead = i < other.size() ? other.get(i) : "nothing";
            if (now.equals(ahead)) continue;
            wrong++;
            System.out.println("'" + sentence + "': behind " + call + " " + now + ", due is " + ahead);
            return;
        }
    }

    private static int[] refusals(KeyholeWeave k) {
        return new int[] {k.count(3), k.count(4), k.count(5), k.count(6)};
    }

    private static int place(int by) {
        return by == -1 ? 0 : by == -2 ? 1 : by == -5 ? 2 : 3;
    }

    private static void countsRose(String call, KeyholeWeave k, int[] ahead, int by) {
        int[] behind = refusals(k);
        for (int i = 0; i < 4; i++) {
            int more = by != 0 && i == place(by) ? 1 : 0;
            due(call + ", then count(" + (3 + i) + ")", behind[i], ahead[i] + more);
        }
    }

    /** A call that is refused tells by what, is counted, and changes nothing else. */
    private static void refused(String what, Start start, Call call, int by) {
        KeyholeWeave k = made(start);
        int[] ahead = refusals(k);
        due(what, call.on(k), by);
        due(what + ", then status()", k.status(), by);
        countsRose(what, k, ahead, by);
        alike(what, k, made(start));
    }

    /** A call that asks for what is not there answers NONE, is no refusal, and changes nothing. */
    private static void inVain(String what, Start start, Call call) {
        KeyholeWeave k = made(start);
        int status = k.status();
        int[] ahead = refusals(k);
        due(what, call.on(k), NONE);
        due(what + ", then status()", k.status(), status);
        countsRose(what, k, ahead, 0);
        alike(what, k, made(start));
    }

    /** A call that is allowed, and one behind it that shows what came of it. */
    private static void allowed(String what, Start start, Call call, int answer, Call behind, int shown) {
        KeyholeWeave k = made(start);
        k.paint(3, 0, 0);
        int[] ahead = refusals(k);
        due(what, call.on(k), answer);
        due(what + ", then status()", k.status(), 0);
        countsRose(what, k, ahead, 0);
        due(what + ", behind it", behind.on(k), shown);
    }

    private static void cells() {
        sentence = "PICTURES have 36 CELLS";
        for (int w = 0; w < 3; w++) {
            int which = w;
            for (int c : new int[] {0, 35}) {
                int had = made(BoundaryTests::rich).told(which, c);
                int colour = had == 6 ? 5 : 6;
                allowed("paint(" + which + ", " + c + ", " + colour + ")", BoundaryTests::rich,
                    k -> k.paint(which, c, colour), had, k -> k.told(which, c), colour);
            }
            for (int c : new int[] {-1, 36, LEAST, MOST}) {
                refused("paint(" + which + ", " + c + ", 6)", BoundaryTests::rich, k -> k.paint(which, c, 6), -1);
                inVain("told(" + which + ", " + c + ")", BoundaryTests::rich, k -> k.told(which, c));
            }
        }
        for (int c : new int[] {-1, 36, LEAST, MOST}) {
            inVain("woven(0, " + c + ", 0)", BoundaryTests::rich, k -> k.woven(0, c, 0));
            inVain("woven(0, " + c + ", 1)", BoundaryTests::rich, k -> k.woven(0, c, 1));
            inVain("lost(" + c + ")", BoundaryTests::rich, k -> k.lost(c));
            inVain("could(" + c + ")", BoundaryTests::rich, k -> k.could(c));
            if (c != NONE) inVain("drawn(0, " + c + ")", BoundaryTests::rich, k -> k.drawn(0, c));
        }
        KeyholeWeave k = open(2, 5);
        k.weavers(0);
        for (int c : new int[] {0, 35}) {
            due("woven(1, " + c + ", 0)", k.woven(1, c, 0), 5);
            due("woven(1, " + c + ", 1)", k.woven(1, c, 1), 0);
            due("lost(" + c + ")", k.lost(c), 0);
            due("could(" + c + ")", k.could(c), 0);
        }
    }

    private static void rowsOfCells() {
        sentence = "6 y and x";
        KeyholeWeave k = open(1, 0);
        due("law()", law(k, "weaves x"), 0);
        due("law()", law(k, "weaves y"), 1);
        for (int law = 0; law < 2; law++) {
            k.force(law);
            for (int cell = 0; cell < 36; cell++) {
                due("woven(0, " + cell + ", 0) by law " + law, k.woven(0, cell, 0), law == 0 ? cell % 6 : cell / 6);
            }
        }
    }

    private static void colours() {
        sentence = "in each a COLOUR 0 .. 7";
        for (int w = 0; w < 3; w++) {
            int which = w;
            int had = made(BoundaryTests::rich).told(which, 8);
            for (int c : new int[] {0, 7}) {
                allowed("paint(" + which + ", 8, " + c + ")", BoundaryTests::rich, k -> k.paint(which, 8, c), had,
                    k -> k.told(which, 8), c);
            }
            for (int c : new int[] {-1, 8, LEAST, MOST}) {
                refused("paint(" + which + ", 8, " + c + ")", BoundaryTests::rich, k -> k.paint(which, 8, c), -1);
            }
        }
    }

    private static void toldPictures() {
        sentence = "The FIRST and the SECOND one are told (COLOUR 0 all over at first), SEEN, too";
        KeyholeWeave k = new KeyholeWeave();
        for (int which = 0; which < 3; which++) {
            for (int cell = 0; cell < 36; cell++) due("told(" + which + ", " + cell + ")", k.told(which, cell), 0);
        }
        for (int which = 0; which < 3; which++) due("paint(" + which + ", 9, 7)", k.paint(which, 9, which + 5), 0);
        for (int which = 0; which < 3; which++) due("told(" + which + ", 9)", k.told(which, 9), which + 5);
        for (int w : new int[] {-1, 3, LEAST, MOST}) {
            refused("paint(" + w + ", 0, 6)", BoundaryTests::rich, x -> x.paint(w, 0, 6), -1);
            inVain("told(" + w + ", 0)", BoundaryTests::rich, x -> x.told(w, 0));
        }
    }

    private static void villages() {
        sentence = "VILLAGES 0 .. 9 (10 at most) in a row";
        KeyholeWeave k = new KeyholeWeave();
        due("count(0)", k.count(0), 0);
        for (int i = 0; i < 10; i++) {
            due("of(" + i + ", 5) ahead", k.of(i, 5), NONE);
            due("put(" + i + ", 0, 3) ahead", k.put(i, 0, 3), -2);
            due("hole(" + i + ", 0, 0, 1, 1) ahead", k.hole(i, 0, 0, 1, 1), -2);
            due("village()", k.village(i % 6, 0, 1, 6), i);
            due("status()", k.status(), 0);
            due("count(0)", k.count(0), i + 1);
            due("of(" + i + ", 0)", k.of(i, 0), i % 6);
            due("of(" + i + ", 4)", k.of(i, 4), 0);
            due("of(" + i + ", 5)", k.of(i, 5), 255);
            due("put(" + i + ", 0, 3)", k.put(i, 0, 3), 0);
        }
        refused("the 11th village", BoundaryTests::tenVillages, x -> x.village(0, 0, 1, 1), -5);
        refused("the 11th village, of all", BoundaryTests::tenVillages, x -> x.village(0, 0, 6, 6), -5);
        allowed("the 10th's taste", BoundaryTests::tenVillages, x -> x.put(9, 0, 7), 0, x -> x.of(9, 4), 7);
        allowed("the 10th's keyhole", BoundaryTests::tenVillages, x -> x.hole(9, 0, 1, 6, 5), 0, x -> x.of(9, 2), 6);
        for (int v : new int[] {-1, 10, LEAST, MOST}) noSuchVillage(BoundaryTests::tenVillages, v);
        for (int v : new int[] {-1, 3, 9, 10}) noSuchVillage(BoundaryTests::rich, v);
        for (int v : new int[] {-1, 0, 9}) noSuchVillage(BoundaryTests::nothing, v);
    }

    private static void noSuchVillage(Start start, int v) {
        refused("put(" + v + ", 0, 2)", start, x -> x.put(v, 0, 2), -2);
        refused("put(" + v + ", 1, 2)", start, x -> x.put(v, 1, 2), -2);
        refused("hole(" + v + ", 0, 0, 2, 2)", start, x -> x.hole(v, 0, 0, 2, 2), -2);
        inVain("of(" + v + ", 0)", start, x -> x.of(v, 0));
        inVain("woven(" + v + ", 0, 0)", start, x -> x.woven(v, 0, 0));
        inVain("woven(" + v + ", 0, 1)", start, x -> x.woven(v, 0, 1));
        inVain("drawn(" + v + ", 0)", start, x -> x.drawn(v, 0));
        inVain("drawn(" + v + ", NONE)", start, x -> x.drawn(v, NONE));
        if (v == NONE) return;
        inVain("like(" + v + ", NONE)", start, x -> x.like(v, NONE));
        inVain("like(NONE, " + v + ")", start, x -> x.like(NONE, v));
        inVain("costs(" + v + ")", start, x -> x.costs(v));
        inVain("seams(" + v + ")", start, x -> x.seams(v));
    }

    private static boolean fits(int from, int size) {
        return from >= 0 && from <= 5 && size >= 1 && size <= 6 && from + size <= 6;
    }

    private static void keyholes() {
        sentence = "a KEYHOLE from x, y so WIDE and TALL (1 .. 6; within the PICTURE)";
        for (int from = -1; from <= 7; from++) {
            for (int size = -1; size <= 8; size++) {
                keyhole(from, 2, size, 3, fits(from, size));
                keyhole(2, from, 3, size, fits(from, size));
            }
        }
        int[][] far = {{MOST, 1}, {MOST, MOST}, {LEAST, LEAST}, {LEAST, 6}, {LEAST, MOST}, {1, MOST}, {5, MOST - 4},
            {MOST - 5, 6}, {1, LEAST}, {-MOST, MOST}};
        for (int[] f : far) {
            keyhole(f[0], 0, f[1], 6, false);
            keyhole(0, f[0], 6, f[1], false);
        }
        refused("hole(1, 1, 0, 6, 6)", BoundaryTests::rich, k -> k.hole(1, 1, 0, 6, 6), -1);
        refused("hole(1, 0, 0, 0, 6)", BoundaryTests::rich, k -> k.hole(1, 0, 0, 0, 6), -1);
        refused("village(0, 1, 6, 6)", BoundaryTests::rich, k -> k.village(0, 1, 6, 6), -1);
        refused("village(0, 0, 6, 0)", BoundaryTests::rich, k -> k.village(0, 0, 6, 0), -1);
        refused("village(6, 0, 1, 1)", BoundaryTests::rich, k -> k.village(6, 0, 1, 1), -1);
    }

    /** A keyhole by village() and by hole(). */
    private static void keyhole(int x, int y, int wide, int tall, boolean can) {
        String all = "(" + x + ", " + y + ", " + wide + ", " + tall + ")";
        KeyholeWeave k = new KeyholeWeave();
        due("village" + all, k.village(x, y, wide, tall), can ? 0 : -1);
        due("count(0) behind village" + all, k.count(0), can ? 1 : 0);
        due("status() behind village" + all, k.status(), can ? 0 : -1);
        KeyholeWeave other = new KeyholeWeave();
        other.village(1, 1, 4, 5);
        due("hole of " + all, other.hole(0, x, y, wide, tall), can ? 0 : -1);
        due("status() behind hole of " + all, other.status(), can ? 0 : -1);
        int[] kept = can ? new int[] {x, y, wide, tall} : new int[] {1, 1, 4, 5};
        for (int what = 0; what < 4; what++) {
            due("of(0, " + what + ") behind hole of " + all, other.of(0, what), kept[what]);
            if (can) due("of(0, " + what + ") behind village" + all, k.of(0, what), kept[what]);
        }
    }

    private static void whatAVillageSees() {
        sentence = "a KEYHOLE from x, y so WIDE and TALL: which CELLS lie in it";
        for (int[] h : new int[][] {{0, 0, 1, 1}, {5, 5, 1, 1}, {5, 0, 1, 1}, {0, 5, 1, 1}, {0, 0, 6, 6}, {1, 2, 3, 2},
            {0, 3, 6, 1}, {4, 0, 1, 6}, {2, 0, 4, 6}, {0, 1, 5, 5}}) {
            KeyholeWeave k = open(0, 6);
            k.village(h[0], h[1], h[2], h[3]);
            k.put(0, 0, 2);
            for (int cell = 0; cell < 36; cell++) {
                int x = cell % 6;
                int y = cell / 6;
                boolean in = x >= h[0] && x < h[0] + h[2] && y >= h[1] && y < h[1] + h[3];
                due("woven(0, " + cell + ", 0)", k.woven(0, cell, 0), in ? 6 : 2);
                due("woven(0, " + cell + ", 1)", k.woven(0, cell, 1), in ? 0 : 2);
            }
        }
    }

    private static void tasteAndWool() {
        sentence = "TASTE 0 .. 7, WOOL: which COLOURS it has (bits 1 .. 255)";
        for (int t : new int[] {0, 7}) {
            allowed("put(1, 0, " + t + ")", BoundaryTests::rich, k -> k.put(1, 0, t), 6, k -> k.of(1, 4), t);
        }
        for (int t : new int[] {-1, 8, 255, LEAST, MOST}) {
            refused("put(1, 0, " + t + ")", BoundaryTests::rich, k -> k.put(1, 0, t), -1);
        }
        for (int w : new int[] {1, 8, 128, 255}) {
            allowed("put(1, 1, " + w + ")", BoundaryTests::rich, k -> k.put(1, 1, w), 237, k -> k.of(1, 5), w);
        }
        for (int w : new int[] {0, 256, 257, -1, LEAST, MOST}) {
            refused("put(1, 1, " + w + ")", BoundaryTests::rich, k -> k.put(1, 1, w), -1);
        }
        for (int what : new int[] {-1, 2, 4, 5, LEAST, MOST}) {
            refused("put(1, " + what + ", 1)", BoundaryTests::rich, k -> k.put(1, what, 1), -1);
        }
    }

    private static void prices() {
        sentence = "PRICES of COLOURS 0 .. 99 (1 each at first)";
        KeyholeWeave k = new KeyholeWeave();
        for (int colour = 0; colour < 8; colour++) {
            all(k, 0, colour);
            due("costs(NONE) of " + colour, k.costs(NONE), 36);
            due("price(" + colour + ", 99)", k.price(colour, 99), 1);
            due("costs(NONE) of " + colour, k.costs(NONE), 36 * 99);
            due("price(" + colour + ", 0)", k.price(colour, 0), 99);
            due("costs(NONE) of " + colour, k.costs(NONE), 0);
            due("price(" + colour + ", 50)", k.price(colour, 50), 0);
        }
        due("status()", k.status(), 0);
        for (int colour : new int[] {0, 7}) {
            for (int p : new int[] {-1, 100, LEAST, MOST}) {
                refused("price(" + colour + ", " + p + ")", BoundaryTests::rich, x -> x.price(colour, p), -1);
            }
        }
        for (int colour : new int[] {-1, 8, LEAST, MOST}) {
            refused("price(" + colour + ", 5)", BoundaryTests::rich, x -> x.price(colour, 5), -1);
        }
    }

    private static void terms() {
        sentence = "TERMS: 0 SLIP 0 .. 100 (10 at first), 1 YEAR 0 .. 99 (0)";
        due("count(8)", new KeyholeWeave().count(8), 10);
        due("count(9)", new KeyholeWeave().count(9), 0);
        due("terms(0, 5)", new KeyholeWeave().terms(0, 5), 10);
        due("terms(1, 5)", new KeyholeWeave().terms(1, 5), 0);
        for (int slip : new int[] {0, 100}) {
            allowed("terms(0, " + slip + ")", BoundaryTests::rich, k -> k.terms(0, slip), 30, k -> k.count(8), slip);
            allowed("terms(0, " + slip + ")", BoundaryTests::rich, k -> k.terms(0, slip), 30, k -> k.count(9), 5);
        }
        for (int year : new int[] {0, 99}) {
            allowed("terms(1, " + year + ")", BoundaryTests::rich, k -> k.terms(1, year), 5, k -> k.count(9), year);
            allowed("terms(1, " + year + ")", BoundaryTests::rich, k -> k.terms(1, year), 5, k -> k.count(8), 30);
        }
        for (int slip : new int[] {-1, 101, LEAST, MOST}) {
            refused("terms(0, " + slip + ")", BoundaryTests::rich, k -> k.terms(0, slip), -1);
        }
        for (int year : new int[] {-1, 100, LEAST, MOST}) {
            refused("terms(1, " + year + ")", BoundaryTests::rich, k -> k.terms(1, year), -1);
        }
        for (int what : new int[] {-1, 2, LEAST, MOST}) {
            refused("terms(" + what + ", 5)", BoundaryTests::rich, k -> k.terms(what, 5), -1);
        }
    }

    private static void order() {
        sentence = "REFUSED by the first of these in that order";
        refused("put: taste of none", BoundaryTests::rich, k -> k.put(3, 0, 8), -1);
        refused("put: wool of none", BoundaryTests::rich, k -> k.put(3, 1, 0), -1);
        refused("put: what of none", BoundaryTests::rich, k -> k.put(3, 2, 1), -1);
        refused("put: none alone", BoundaryTests::rich, k -> k.put(3, 1, 1), -2);
        refused("hole: keyhole of none", BoundaryTests::rich, k -> k.hole(3, 0, 0, 7, 1), -1);
        refused("hole: none alone", BoundaryTests::rich, k -> k.hole(3, 0, 0, 6, 1), -2);
        refused("village: full and can't be", BoundaryTests::tenVillages, k -> k.village(0, 0, 7, 1), -1);
        refused("village: full alone", BoundaryTests::tenVillages, k -> k.village(0, 0, 6, 1), -5);
        refused("back: can't be, not kept", BoundaryTests::nothing, k -> k.back(2), -1);
        refused("back: not kept alone", BoundaryTests::nothing, k -> k.back(1), -2);
        KeyholeWeave k = made(BoundaryTests::sixLaws);
        due("law: full and a fault", law(k, "weaves"), -5);
        due("status()", k.status(), -5);
        due("count(5)", k.count(5), 1);
        due("count(6), the two ahead", k.count(6), 2);
    }

    private static void of() {
        sentence = "Of a VILLAGE 0 x, 1 y, 2 WIDE, 3 TALL, 4 TASTE, 5 WOOL. NONE";
        KeyholeWeave k = new KeyholeWeave();
        k.village(1, 2, 3, 4);
        k.put(0, 0, 5);
        k.put(0, 1, 6);
        for (int what = 0; what < 6; what++) due("of(0, " + what + ")", k.of(0, what), what + 1);
        for (int what : new int[] {-1, 6, LEAST, MOST}) {
            inVain("of(1, " + what + ")", BoundaryTests::rich, x -> x.of(1, what));
        }
    }

    private static void feed() {
        sentence = "NONE, if there would be more than 400";
        KeyholeWeave k = new KeyholeWeave();
        for (int i = 1; i <= 20; i++) {
            due("feed", k.feed(0, 0, 0, 0, 0), 20 * i);
            due("count(2)", k.count(2), 20 * i);
        }
        due("the 21st feed", k.feed(0, 0, 0, 0, 0), NONE);
        due("count(2)", k.count(2), 400);
        inVain("feed behind 400", x -> longTape(x, 400), x -> x.feed(1, 2, 3, 4, 5));
        inVain("feed behind 381", x -> longTape(x, 381), x -> x.feed(1, 2, 3, 4, 5));
        due("feed behind 380", made(x -> longTape(x, 380)).feed(1, 2, 3, 4, 5), 400);
        due("feed behind 361", made(x -> longTape(x, 361)).feed(1, 2, 3, 4, 5), 381);
        feedBytes();
    }

    private static void longTape(KeyholeWeave k, int size) {
        rich(k);
        k.end(0);
        for (int i = 0; i < 20; i++) k.feed(MOST, LEAST, i, -i, 0);
        k.end(size);
    }

    private static void feedBytes() {
        sentence = "Twenty bytes come behind the TAPE, four of each number, the highest first";
        KeyholeWeave k = new KeyholeWeave();
        k.feed(0x02010203, 0x04050607, 0x00070605, 0x04030201, 0x00010203);
        int[] colours = {1, 2, 3, 4, 5, 6, 7, 0, 7, 6, 5, 4, 3, 2, 1, 0, 1, 2, 3};
        due("row()", k.row(), 19);
        for (int cell = 0; cell < 19; cell++) due("told(2, " + cell + ")", k.told(2, cell), colours[cell]);
        due("told(2, 19)", k.told(2, 19), 0);
        k.feed(0x00800106, 0xff02fe07, -1, LEAST, MOST);
        due("row() of bytes beyond 127", k.row(), 7);
        int[] then = {0, 1, 6, 0, 2, 0, 7, 0, 0, 0, 0, 0, 0, 0, 0, 0};
        for (int cell = 0; cell < 16; cell++) due("told(0, " + cell + ")", k.told(0, cell), then[cell]);
        k.feed(0x01000000, 0, 0, 0, 0);
        due("end(2)", k.end(2), 2);
        due("feed behind 2", k.feed(0x07060504, 0x03020100, 0x07070707, 0x07070707, 0x07070705), 22);
        due("row() of both", k.row(), 21);
        due("told(1, 0)", k.told(1, 0), 0);
        due("told(1, 1)", k.told(1, 1), 7);
        due("told(1, 4)", k.told(1, 4), 4);
        due("told(1, 20)", k.told(1, 20), 5);
        due("told(1, 21)", k.told(1, 21), 0);
    }

    private static void end() {
        sentence = "The TAPE has its first n bytes alone: n. NONE, if it has not so many, or n is below 0";
        KeyholeWeave k = new KeyholeWeave();
        due("end(0) of none", k.end(0), 0);
        due("end(1) of none", k.end(1), NONE);
        due("end(-1) of none", k.end(-1), NONE);
        for (int n : new int[] {-1, 10, 401, LEAST, MOST}) {
            inVain("end(" + n + ") of 9", BoundaryTests::rich, x -> x.end(n));
        }
        inVain("end(401) of 400", x -> longTape(x, 400), x -> x.end(401));
        write(k, "weaves 1;;");
        due("end(10)", k.end(10), 10);
        due("end(11)", k.end(11), NONE);
        due("end(8)", k.end(8), 8);
        due("end(9), cut off already", k.end(9), NONE);
        due("count(2)", k.count(2), 8);
        due("law() of the first 8", k.law(), 0);
        due("end(1) behind law()", k.end(1), NONE);
        for (int i = 0; i < 20; i++) k.feed(0, 0, 0, 0, 0);
        due("end(400)", k.end(400), 400);
        due("end(0)", k.end(0), 0);
        due("row() of nothing", k.row(), -6);
        due("end() left the status", k.end(5), NONE);
        due("status()", k.status(), -6);
    }

    private static void rowsFirstByte() {
        sentence = "A ROW: the TAPE's first byte is 0, 1 or 2; -6 the TAPE is empty, its first byte can't be";
        for (int which = 0; which < 3; which++) {
            KeyholeWeave k = made(BoundaryTests::rich);
            int[] had = {k.told(0, 1), k.told(1, 1), k.told(2, 1)};
            int colour = 5;
            due("row() of " + which, row(k, bytes(which, 99, colour)), 1);
            due("status()", k.status(), 0);
            due("count(2)", k.count(2), 0);
            for (int w = 0; w < 3; w++) due("told(" + w + ", 1)", k.told(w, 1), w == which ? colour : had[w]);
        }
        for (int first : new int[] {3, 4, 7, 48, 127, 128, 255}) {
            refused("row() of " + first, k -> tapeOf(k, bytes(first, 1, 2, 3)), k -> refusedRow(k), -6);
            refused("row() of " + first + " alone", k -> tapeOf(k, bytes(first)), k -> refusedRow(k), -6);
        }
        refused("row() of nothing", k -> tapeOf(k, ""), KeyholeWeave::row, -6);
    }

    private static void tapeOf(KeyholeWeave k, String text) {
        rich(k);
        write(k, text);
    }

    // Both objects are to show the same behind it, so the bytes that the refused row() took away are put back.
    private static int refusedRow(KeyholeWeave k) {
        int size = k.count(2);
        int answer = k.row();
        due("count(2) behind a refused row()", k.count(2), 0);
        k.feed(0, 0, 0, 0, 0);
        k.end(size);
        return answer;
    }

    private static void rowsColours() {
        sentence = "then COLOURS of CELLS 0, 1 ..: 0 .. 7; others leave a CELL as it was";
        KeyholeWeave k = new KeyholeWeave();
        for (int first = 0; first < 256; first += 36) {
            all(k, 1, 3);
            StringBuilder text = new StringBuilder(bytes(1));
            int told = 0;
            for (int b = first; b < Math.min(256, first + 36); b++) {
                text.append((char) b);
                if (b < 8) told++;
            }
            due("row() of bytes from " + first, row(k, text.toString()), told);
            for (int b = first; b < Math.min(256, first + 36); b++) {
                due("told() of byte " + b, k.told(1, b - first), b < 8 ? b : 3);
            }
        }
        KeyholeWeave other = new KeyholeWeave();
        due("row() of the first byte alone", row(other, bytes(0)), 0);
        due("status()", other.status(), 0);
        due("row() of one cell", row(other, bytes(0, 6)), 1);
        due("told(0, 0)", other.told(0, 0), 6);
        due("told(0, 1)", other.told(0, 1), 0);
        due("row() of 35 cells", row(other, bytes(0) + bytes(2).repeat(35)), 35);
        due("told(0, 34)", other.told(0, 34), 2);
        due("told(0, 35)", other.told(0, 35), 0);
        due("row() of 36 cells", row(other, bytes(0) + bytes(4).repeat(36)), 36);
        due("told(0, 35)", other.told(0, 35), 4);
    }

    private static void lint() {
        sentence = "bytes beyond CELL 35 are LINT; how much LINT the latest row() had that was not REFUSED (0 ahead of any)";
        due("lint() ahead of any", new KeyholeWeave().lint(), 0);
        for (int size = 35; size <= 41; size++) {
            KeyholeWeave k = new KeyholeWeave();
            due("row() of " + size, row(k, bytes(2) + bytes(5).repeat(size - 1)), Math.min(36, size - 1));
            due("lint() of " + size, k.lint(), Math.max(0, size - 37));
            due("told(2, 35) of " + size, k.told(2, 35), size >= 37 ? 5 : 0);
        }
        KeyholeWeave k = new KeyholeWeave();
        due("row() of 400", row(k, bytes(0) + bytes(7).repeat(36) + bytes(1).repeat(363)), 36);
        due("lint() of 400", k.lint(), 363);
        due("told(0, 0)", k.told(0, 0), 7);
        due("told(1, 0)", k.told(1, 0), 0);
        due("row() of 3", row(k, bytes(3) + bytes(1).repeat(50)), -6);
        due("lint() behind a refused one", k.lint(), 363);
        due("row() of nothing", k.row(), -6);
        due("lint() behind a refused one", k.lint(), 363);
        k.image(0);
        due("row() of 39, none of which is a colour", row(k, bytes(0) + bytes(200).repeat(38)), 0);
        due("lint() of 39", k.lint(), 2);
        k.back(0);
        due("lint() behind back()", k.lint(), 2);
        due("row() of 1", row(k, bytes(0)), 0);
        due("lint() of 1", k.lint(), 0);
    }

    private static void force() {
        sentence = "one is in FORCE (NONE at first: no CLAUSE); there is no such LAW";
        KeyholeWeave k = open(1, 4);
        due("count(7)", k.count(7), NONE);
        due("woven without a law", k.woven(0, 0, 0), 4);
        due("force(0) of none", k.force(0), -2);
        due("law()", law(k, "weaves 6"), 0);
        due("count(7) behind law()", k.count(7), NONE);
        due("woven with a law that is not in force", k.woven(0, 0, 0), 4);
        due("force(0)", k.force(0), NONE);
        due("status()", k.status(), 0);
        due("count(7)", k.count(7), 0);
        due("woven by it", k.woven(0, 0, 0), 6);
        due("force(NONE)", k.force(NONE), 0);
        due("status()", k.status(), 0);
        due("woven without it", k.woven(0, 0, 0), 4);
        due("force(NONE) again", k.force(NONE), NONE);
        due("status()", k.status(), 0);
        due("count(4)", k.count(4), 1);
        for (int law : new int[] {-2, 2, 5, 6, LEAST, MOST}) {
            refused("force(" + law + ") of two", BoundaryTests::rich, x -> x.force(law), -2);
        }
        for (int law : new int[] {-2, 6, LEAST, MOST}) {
            refused("force(" + law + ") of six", BoundaryTests::sixLaws, x -> x.force(law), -2);
        }
        allowed("force(1) of two", BoundaryTests::rich, x -> x.force(1), 1, x -> x.count(7), 1);
        allowed("force(5) of six", BoundaryTests::sixLaws, x -> x.force(5), 1, x -> x.count(7), 5);
        allowed("force(NONE) of six", BoundaryTests::sixLaws, x -> x.force(NONE), 1, x -> x.count(7), NONE);
    }

    private static void lawsAreFull() {
        sentence = "LAWS, 6 at most; -5 (ahead of reading it; the TAPE is empty then, too)";
        KeyholeWeave k = open(1, 0);
        for (int i = 0; i < 6; i++) {
            due("count(1)", k.count(1), i);
            due("law() " + i, law(k, "weaves " + (i + 1)), i);
            due("status()", k.status(), 0);
            due("count(2)", k.count(2), 0);
        }
        for (String text : new String[] {"weaves 7", "weaves", "", "   "}) {
            due("the 7th law, '" + text + "'", law(k, text), -5);
            due("status()", k.status(), -5);
            due("count(2)", k.count(2), 0);
            due("fault() is the one of the 6th", k.fault(), NONE);
        }
        due("count(1)", k.count(1), 6);
        due("count(5)", k.count(5), 4);
        due("count(6)", k.count(6), 0);
        for (int i = 0; i < 6; i++) {
            k.force(i);
            due("woven by law " + i, k.woven(0, 0, 0), i + 1);
        }
        faultStaysWhenFull();
    }

    private static void faultStaysWhenFull() {
        KeyholeWeave k = new KeyholeWeave();
        for (int i = 0; i < 5; i++) law(k, "weaves 1");
        k.image(0);
        law(k, "weaves 1");
        k.image(1);
        k.back(0);
        due("law() with a fault", law(k, "weaves 1 if 2"), -6);
        due("fault()", k.fault(), 13);
        due("back(1)", k.back(1), 0);
        due("law() when full", law(k, "weaves 1 2"), -5);
        due("fault() is still that of the one that was read", k.fault(), 13);
        k.back(0);
        due("law() without a fault", law(k, "weaves 1"), 5);
        due("fault()", k.fault(), NONE);
    }

    private static void weaversSeeds() {
        sentence = "the SEED (0 .. 1,000,000)";
        for (int seed : new int[] {0, 1000000}) {
            allowed("weavers(" + seed + ")", k -> noSlips(k), k -> k.weavers(seed), 36, k -> k.drawn(1, NONE), 0);
        }
        for (int seed : new int[] {-1, 1000001, 1000002, 1000003, LEAST, MOST}) {
            refused("weavers(" + seed + ")", BoundaryTests::rich, k -> k.weavers(seed), -1);
        }
        sentence = "s becomes (s times 1103 and 12345) modulo 1,000,003, it is s modulo n";
        draws(0);
        draws(1);
        draws(1000000);
        draws(999999);
        draws(906);
    }

    private static void noSlips(KeyholeWeave k) {
        k.village(0, 0, 6, 6);
        k.village(0, 0, 6, 6);
        k.terms(0, 0);
    }

    /** All ten villages slip in every third cell or so; by numbers that cannot wrap around. */
    private static void draws(long seed) {
        KeyholeWeave k = open(10, 6);
        k.put(4, 1, 8 + 64);
        k.terms(0, 37);
        int likeness = k.weavers((int) seed);
        long s = seed;
        int[] seen = new int[36];
        java.util.Arrays.fill(seen, 6);
        for (int v = 0; v < 10; v++) {
            int slips = 0;
            for (int cell = 0; cell < 36; cell++) {
                s = (s * 1103 + 12345) % 1000003;
                if (s % 100 < 37) {
                    slips++;
                    s = (s * 1103 + 12345) % 1000003;
                    seen[cell] = (int) (s % 8);
                }
                if (v == 4) seen[cell] = seen[cell] <= 4 ? 3 : 6;
                due("drawn(" + v + ", " + cell + ") of seed " + seed, k.drawn(v, cell), seen[cell]);
            }
            due("drawn(" + v + ", NONE) of seed " + seed, k.drawn(v, NONE), slips);
        }
        int alike = 0;
        for (int colour : seen) if (colour == 6) alike++;
        due("weavers(" + seed + ")", likeness, alike);
    }

    private static void belowSlip() {
        sentence = "a DRAW of 100: if it is below SLIP, a DRAW of 8 is what it WISHES for there";
        // The first draws of seed 0: 12345 is 45 of 100, then 628841 is 1 of 8; of seed 1,000,000: 9036, then 979026.
        int[][] all = {{0, 45, 1}, {1000000, 36, 2}};
        for (int[] one : all) {
            KeyholeWeave k = open(1, 5);
            k.terms(0, one[1]);
            k.weavers(one[0]);
            due("drawn(0, 0): the draw is SLIP", k.drawn(0, 0), 5);
            k.terms(0, one[1] + 1);
            k.weavers(one[0]);
            due("drawn(0, 0): the draw is below SLIP", k.drawn(0, 0), one[2]);
            k.put(0, 1, 128 + 32);
            k.weavers(one[0]);
            due("drawn(0, 0): the nearest of its wool", k.drawn(0, 0), 5);
            k.put(0, 1, 128 + 8);
            k.weavers(one[0]);
            due("drawn(0, 0): the nearest of its wool", k.drawn(0, 0), 3);
        }
        KeyholeWeave k = open(10, 3);
        k.terms(0, 0);
        due("weavers(4) with SLIP 0", k.weavers(4), 36);
        for (int v = 0; v < 10; v++) due("drawn(" + v + ", NONE) with SLIP 0", k.drawn(v, NONE), 0);
        k.terms(0, 100);
        k.weavers(4);
        for (int v = 0; v < 10; v++) due("drawn(" + v + ", NONE) with SLIP 100", k.drawn(v, NONE), 36);
        k.weavers(4);
        for (int v = 0; v < 10; v++) due("drawn(" + v + ", NONE) again", k.drawn(v, NONE), 36);
        k.terms(0, 0);
        k.weavers(4);
        for (int v = 0; v < 10; v++) due("drawn(" + v + ", NONE) with SLIP 0 again", k.drawn(v, NONE), 0);
    }

    /** Who slips in a cell goes on by that: the cell to the right and the one below ask for what it wove. */
    private static void slipsGoOn() {
        sentence = "WEAVERS: left and above are what they wove";
        KeyholeWeave k = open(1, 0);
        due("law()", law(k, "weaves left+1; weaves above+1 if left<0"), 0);
        k.force(0);
        k.terms(0, 46);
        k.weavers(0);
        due("drawn(0, 0), a slip", k.drawn(0, 0), 1);
        long s = 628841;
        int[] out = new int[36];
        out[0] = 1;
        for (int cell = 1; cell < 36; cell++) {
            s = (s * 1103 + 12345) % 1000003;
            int left = cell % 6 == 0 ? -1 : out[cell - 1];
            long wish = left < 0 ? out[cell - 6] + 1 : left + 1;
            if (s % 100 < 46) {
                s = (s * 1103 + 12345) % 1000003;
                wish = s % 8;
            }
            out[cell] = (int) Math.min(7, wish);
            due("drawn(0, " + cell + ")", k.drawn(0, cell), out[cell]);
        }
    }

    private static void latestWeavers() {
        sentence = "Of the latest WEAVERS what a VILLAGE wove in a CELL; how many SLIPS it made (cell NONE). NONE";
        inVain("drawn(0, 0) ahead of any", BoundaryTests::noSlips, k -> k.drawn(0, 0));
        inVain("drawn(0, NONE) ahead of any", BoundaryTests::noSlips, k -> k.drawn(0, NONE));
        KeyholeWeave k = open(2, 5);
        k.terms(0, 0);
        k.weavers(3);
        due("drawn(1, 35)", k.drawn(1, 35), 5);
        due("drawn(2, 35), none", k.drawn(2, 35), NONE);
        k.village(0, 0, 6, 6);
        due("drawn(2, 35), it came later", k.drawn(2, 35), NONE);
        due("drawn(2, NONE), it came later", k.drawn(2, NONE), NONE);
        all(k, 0, 6);
        k.put(1, 1, 1);
        due("drawn(1, 35), of then", k.drawn(1, 35), 5);
        due("weavers(-1)", k.weavers(-1), -1);
        due("drawn(1, 35), refused ones are not kept", k.drawn(1, 35), 5);
        due("weavers(1000000)", k.weavers(1000000), 0);
        due("drawn(0, 35)", k.drawn(0, 35), 6);
        due("drawn(1, 35)", k.drawn(1, 35), 0);
        due("drawn(2, 35)", k.drawn(2, 35), 0);
        KeyholeWeave none = new KeyholeWeave();
        due("weavers(0) without villages", none.weavers(0), 36);
        none.village(0, 0, 6, 6);
        due("drawn(0, 0), it came later", none.drawn(0, 0), NONE);
    }

    private static void images() {
        sentence = "IMAGES 0, 1; -1; -2 it was not kept";
        for (int i : new int[] {-1, 2, LEAST, MOST}) {
            refused("image(" + i + ")", BoundaryTests::rich, k -> k.image(i), -1);
            refused("back(" + i + ")", BoundaryTests::rich, k -> k.back(i), -1);
        }
        refused("back(1), not kept", BoundaryTests::rich, k -> k.back(1), -2);
        refused("back(0), not kept", BoundaryTests::nothing, k -> k.back(0), -2);
        allowed("back(0), kept", BoundaryTests::rich, k -> k.back(0), 0, k -> k.count(7), NONE);
        allowed("image(1)", BoundaryTests::rich, k -> k.image(1), 0, k -> k.back(1), 0);
        allowed("image(0) again", BoundaryTests::rich, k -> k.image(0), 0, k -> k.back(1), -2);
        KeyholeWeave k = new KeyholeWeave();
        for (int i = 0; i < 2; i++) {
            k.paint(0, 0, 3 + i);
            due("image(" + i + ")", k.image(i), 0);
        }
        k.paint(0, 0, 7);
        for (int i = 0; i < 4; i++) {
            due("back(" + i % 2 + ")", k.back(i % 2), 0);
            due("told(0, 0)", k.told(0, 0), 3 + i % 2);
        }
        k.back(0);
        k.image(1);
        k.paint(0, 0, 6);
        k.back(1);
        due("told(0, 0) of what was kept in its place", k.told(0, 0), 3);
    }

    private static void imagesKeep() {
        sentence = "IMAGES keep all but the TAPE, FAULT, LINT, the latest WEAVERS; BACK to one all that it keeps is as it was then";
        KeyholeWeave k = made(BoundaryTests::rich);
        k.image(1);
        for (int v = 0; v < 3; v++) {
            k.hole(v, 3, 3, 2, 1);
            k.put(v, 0, 7);
            k.put(v, 1, 100);
        }
        k.village(0, 0, 1, 1);
        for (int which = 0; which < 3; which++) all(k, which, 2);
        for (int colour = 0; colour < 8; colour++) k.price(colour, 77);
        k.terms(0, 99);
        k.terms(1, 98);
        law(k, "weaves 7 7");
        law(k, "weaves 7");
        k.force(2);
        k.weavers(5);
        int[] drawn = {k.drawn(3, NONE), k.drawn(3, 20)};
        row(k, bytes(0) + bytes(2).repeat(40));
        write(k, "weaves x;");
        due("back(1)", k.back(1), 0);
        due("drawn(3, NONE) is not kept", k.drawn(3, NONE), drawn[0]);
        due("drawn(3, 20) is not kept", k.drawn(3, 20), drawn[1]);
        due("lint() is not kept", k.lint(), 4);
        due("fault() is not kept: the latest had none", k.fault(), NONE);
        due("count(2) is not kept", k.count(2), 9);
        KeyholeWeave other = made(BoundaryTests::rich);
        for (int v = 0; v < 4; v++) {
            for (int what = 0; what < 6; what++) due("of(" + v + ", " + what + ")", k.of(v, what), other.of(v, what));
            for (int way = 0; way < 2; way++) due("woven(" + v + ", 4)", k.woven(v, 4, way), other.woven(v, 4, way));
        }
        for (int i = 0; i < 108; i++) due("told(" + i / 36 + ", " + i % 36 + ")", k.told(i / 36, i % 36), other.told(i / 36, i % 36));
        for (int what : new int[] {0, 1, 7, 8, 9}) due("count(" + what + ")", k.count(what), other.count(what));
        for (int law = 0; law < 4; law++) due("force(" + law + ")", k.force(law), other.force(law));
        for (int colour = 0; colour < 8; colour++) due("price of " + colour, k.price(colour, 1), other.price(colour, 1));
    }

    private static void laterOnes() {
        sentence = "BACK to one all that it keeps is as it was then: what came later is gone";
        KeyholeWeave k = new KeyholeWeave();
        k.image(0);
        k.village(1, 1, 2, 2);
        k.put(0, 0, 5);
        k.put(0, 1, 6);
        law(k, "weaves 5");
        k.force(0);
        k.image(1);
        k.back(0);
        due("count(0)", k.count(0), 0);
        due("count(1)", k.count(1), 0);
        due("count(7)", k.count(7), NONE);
        due("of(0, 4)", k.of(0, 4), NONE);
        due("force(0)", k.force(0), -2);
        due("village() is the first again", k.village(0, 0, 6, 6), 0);
        due("of(0, 4) of a new one", k.of(0, 4), 0);
        due("of(0, 5) of a new one", k.of(0, 5), 255);
        due("law() is the first again", law(k, "weaves 3"), 0);
        k.force(0);
        due("woven by the new one", k.woven(0, 0, 0), 3);
        k.back(1);
        due("of(0, 4) of the old one", k.of(0, 4), 5);
        k.put(0, 1, 255);
        due("woven by the old one", k.woven(0, 0, 0), 5);
    }

    private static void counts() {
        sentence = "3 .. 6 how many calls were REFUSED (IMAGES do not keep that); NONE for others";
        for (int what : new int[] {-1, 10, LEAST, MOST}) {
            inVain("count(" + what + ")", BoundaryTests::rich, k -> k.count(what));
        }
        KeyholeWeave k = new KeyholeWeave();
        for (int what = 3; what < 7; what++) due("count(" + what + ")", k.count(what), 0);
        k.image(0);
        k.paint(0, 0, 8);
        k.put(0, 0, 0);
        k.force(0);
        k.row();
        k.law();
        k.row();
        for (int i = 0; i < 14; i++) k.village(0, 0, 6, 6);
        int[] due = {1, 2, 4, 3};
        for (int what = 3; what < 7; what++) due("count(" + what + ")", k.count(what), due[what - 3]);
        due("back(0)", k.back(0), 0);
        for (int what = 3; what < 7; what++) due("count(" + what + ") behind back()", k.count(what), due[what - 3]);
        due("back(1)", k.back(1), -2);
        due("count(4) goes on", k.count(4), 3);
        due("count(0) is as it was then", k.count(0), 0);
    }

    private static void statusOfEach() {
        sentence = "What the latest call of .. was REFUSED by; 0 if it was not, or ahead of any";
        due("status() ahead of any", new KeyholeWeave().status(), 0);
        KeyholeWeave k = new KeyholeWeave();
        k.feed(0, 0, 0, 0, 0);
        k.end(99);
        k.of(0, 0);
        k.look(4, 0);
        due("status() ahead of any of them", k.status(), 0);
        statusOf("village", x -> x.village(0, 0, 1, 1), x -> x.village(0, 0, 7, 1), -1);
        statusOf("put", x -> x.put(0, 0, 1), x -> x.put(3, 0, 1), -2);
        statusOf("hole", x -> x.hole(0, 0, 0, 1, 1), x -> x.hole(3, 0, 0, 1, 1), -2);
        statusOf("paint", x -> x.paint(0, 0, 1), x -> x.paint(0, 0, 8), -1);
        statusOf("price", x -> x.price(0, 1), x -> x.price(0, 100), -1);
        statusOf("terms", x -> x.terms(0, 1), x -> x.terms(0, 101), -1);
        statusOf("row", x -> row(x, bytes(0)), x -> row(x, bytes(3)), -6);
        statusOf("law", x -> law(x, "weaves 1"), x -> law(x, "weaves"), -6);
        statusOf("force", x -> x.force(0), x -> x.force(2), -2);
        statusOf("weavers", x -> x.weavers(1), x -> x.weavers(-1), -1);
        statusOf("image", x -> x.image(1), x -> x.image(2), -1);
        statusOf("back", x -> x.back(0), x -> x.back(1), -2);
    }

    /** Behind a call that is refused and one that is not; no call of another kind changes it. */
    private static void statusOf(String name, Call good, Call bad, int by) {
        KeyholeWeave k = made(BoundaryTests::rich);
        due(name + " refused", bad.on(k), by);
        due("status() of " + name, k.status(), by);
        others(k);
        due("status() of " + name + ", behind others", k.status(), by);
        good.on(k);
        due("status() of " + name + ", allowed", k.status(), 0);
        others(k);
        due("status() of " + name + ", allowed, behind others", k.status(), 0);
        k.paint(0, 0, by == -1 ? 0 : 8);
        good.on(k);
        due("status() of " + name + ", behind another one", k.status(), 0);
    }

    /** A call of each of the others, allowed and in vain. */
    private static void others(KeyholeWeave k) {
        k.end(0);
        for (int n : new int[] {0, 99}) {
            k.of(n, n);
            k.told(n, n);
            k.feed(n, n, n, n, n);
            k.end(n);
            k.lint();
            k.fault();
            k.woven(n, n, n);
            k.like(n, n);
            k.costs(n);
            k.turned(n);
            k.lost(n);
            k.look(n, n);
            k.gift(n);
            k.slips(n);
            k.could(n);
            k.meeting(n);
            k.seams(n);
            k.mend(n, 1, 2, 3, 4, n);
            k.drawn(n, n);
            k.count(n);
            k.status();
        }
        k.end(0);
    }

    private static void calls() {
        sentence = "An object is used for at most 512 calls";
        KeyholeWeave k = new KeyholeWeave();
        for (int i = 0; i < 511; i++) k.paint(0, 36, 0);
        due("count(3), the 512th call", k.count(3), 511);
        KeyholeWeave other = new KeyholeWeave();
        for (int i = 0; i < 510; i++) other.paint(0, i % 36, i % 7);
        due("image(0), the 511th call", other.image(0), 0);
        due("told(0, 35), the 512th call", other.told(0, 35), 503 % 7);
    }

    /** No call throws, and each one ends, whatever its numbers are. */
    private static void farNumbers(Start start) throws Exception {
        sentence = "No call may ever throw";
        int[] far = {LEAST, LEAST + 1, -1000000, -37, -2, -1, 0, 1, 2, 5, 6, 9, 10, 35, 36, 255, 256, 400, 401, 1000001,
            MOST - 1, MOST};
        java.util.Random random = new java.util.Random(7);
        for (Method m : KeyholeWeave.class.getDeclaredMethods()) {
            if (!Modifier.isPublic(m.getModifiers())) continue;
            KeyholeWeave k = made(start);
            for (int i = 0; i < 300 && (i == 0 || m.getParameterCount() > 0); i++) {
                Object[] args = new Object[m.getParameterCount()];
                for (int j = 0; j < args.length; j++) args[j] = far[random.nextInt(far.length)];
                int answer = (Integer) m.invoke(k, args);
                if (answer < -6) due(m.getName() + java.util.Arrays.toString(args), answer, NONE);
            }
        }
    }

    public static void main(String[] args) throws Exception {
        cells();
        rowsOfCells();
        colours();
        toldPictures();
        villages();
        keyholes();
        whatAVillageSees();
        tasteAndWool();
        prices();
        terms();
        order();
        of();
        feed();
        end();
        rowsFirstByte();
        rowsColours();
        lint();
        force();
        lawsAreFull();
        weaversSeeds();
        belowSlip();
        slipsGoOn();
        latestWeavers();
        images();
        imagesKeep();
        laterOnes();
        counts();
        statusOfEach();
        calls();
        farNumbers(BoundaryTests::nothing);
        farNumbers(BoundaryTests::rich);
        farNumbers(BoundaryTests::tenVillages);
        farNumbers(BoundaryTests::sixLaws);
        System.out.println(wrong == 0 ? "all answers are as due" : wrong + " answers are not as due");
        if (wrong != 0) System.exit(1);
    }
}
