import java.util.ArrayList;
import java.util.Arrays;
import java.util.HashSet;
import java.util.LinkedHashMap;
import java.util.List;
import java.util.Map;
import java.util.Random;
import java.util.Set;

/** Runs of drawn calls on the class and on a slow model that was written from the document by itself. */
public final class ModelTests {
    private static final int NONE = -1;

    private static final class Broken extends Exception {
        private static final long serialVersionUID = 1;
    }

    /** What a law asks, by its place among the words. */
    private static final List<String> WORDS =
        List.of("x", "y", "village", "seen", "was", "left", "above", "taste", "year");

    private interface Sum {
        long of(long[] asked) throws Broken;
    }

    private interface Test {
        boolean of(long[] asked) throws Broken;
    }

    private static final class Clause {
        Sum sum;
        Test test;
    }

    /** Where a text can't go on, by all the ways in which the grammar can go on. */
    private static final class Grammar {
        static final Map<Character, String[]> RULES = new LinkedHashMap<>();
        static {
            RULES.put('L', new String[] {"CK"});
            RULES.put('K', new String[] {"", ";CK"});
            RULES.put('C', new String[] {"wSI"});
            RULES.put('I', new String[] {"", "iT"});
            RULES.put('T', new String[] {"BU"});
            RULES.put('U', new String[] {"", "oBU"});
            RULES.put('B', new String[] {"PV"});
            RULES.put('V', new String[] {"", "aPV"});
            RULES.put('P', new String[] {"nP", "(T)", "S<S", "S>S", "S=S"});
            RULES.put('S', new String[] {"MX"});
            RULES.put('X', new String[] {"", "+MX", "-MX"});
            RULES.put('M', new String[] {"AY"});
            RULES.put('Y', new String[] {"", "*AY", "/AY"});
            RULES.put('A', new String[] {"N", "[S]"});
        }

        static void spread(String rest, Set<String> into) {
            String[] ways = rest.isEmpty() ? null : RULES.get(rest.charAt(0));
            if (ways == null) into.add(rest);
            else for (String way : ways) spread(way + rest.substring(1), into);
        }

        static int fault(String text) {
            Set<String> ways = new HashSet<>();
            spread("L", ways);
            int clauses = 0;
            int parts = 0;
            int depth = 0;
            for (Token token : Token.all(text)) {
                char sort = token.sort();
                Set<String> next = new HashSet<>();
                for (String way : ways) {
                    if (!way.isEmpty() && way.charAt(0) == sort) spread(way.substring(1), next);
                }
                if (sort == 'w') clauses++;
                if (sort == 'N') parts++;
                if (sort == '(' || sort == '[') depth++;
                if (sort == ')' || sort == ']') depth--;
                if (next.isEmpty() || clauses > 12 || parts > 50 || depth > 8) return token.at;
                ways = next;
            }
            return ways.contains("") ? NONE : text.length();
        }
    }

    private static final class Token {
        final String text;
        final int at;

        Token(String text, int at) {
            this.text = text;
            this.at = at;
        }

        static int group(char c) {
            return c >= 'a' && c <= 'z' ? 1 : c >= '0' && c <= '9' ? 2 : 0;
        }

        static List<Token> all(String text) {
            List<Token> tokens = new ArrayList<>();
            int i = 0;
            while (i < text.length()) {
                int from = i++;
                int group = group(text.charAt(from));
                if (text.charAt(from) == ' ') continue;
                while (group != 0 && i < text.length() && group(text.charAt(i)) == group) i++;
                tokens.add(new Token(text.substring(from, i), from));
            }
            return tokens;
        }

        char sort() {
            switch (text) {
                case "weaves": return 'w';
                case "if": return 'i';
                case "or": return 'o';
                case "and": return 'a';
                case "not": return 'n';
                default: break;
            }
            if (WORDS.contains(text)) return 'N';
            if (group(text.charAt(0)) == 2) return new java.math.BigInteger(text).bitLength() < 20
                && Integer.parseInt(text) <= 1000 ? 'N' : '?';
            return "()[]<>=+-*/;".contains(text) ? text.charAt(0) : '?';
        }
    }

    /** Reads a text that has no fault. */
    private static final class Meaning {
        final List<Token> tokens;
        int at = 0;

        Meaning(String text) {
            tokens = Token.all(text);
        }

        boolean take(String text) {
            boolean is = at < tokens.size() && tokens.get(at).text.equals(text);
            if (is) at++;
            return is;
        }

        List<Clause> law() {
            List<Clause> clauses = new ArrayList<>();
            do {
                Clause clause = new Clause();
                take("weaves");
                clause.sum = sum();
                if (take("if")) clause.test = test();
                clauses.add(clause);
            } while (take(";"));
            return clauses;
        }

        Test test() {
            Test one = both();
            while (take("or")) {
                Test left = one;
                Test right = both();
                one = asked -> left.of(asked) || right.of(asked);
            }
            return one;
        }

        Test both() {
            Test one = plain();
            while (take("and")) {
                Test left = one;
                Test right = plain();
                one = asked -> left.of(asked) && right.of(asked);
            }
            return one;
        }

        Test plain() {
            if (take("not")) {
                Test inner = plain();
                return asked -> !inner.of(asked);
            }
            if (take("(")) {
                Test inner = test();
                take(")");
                return inner;
            }
            Sum left = sum();
            String sign = tokens.get(at++).text;
            Sum right = sum();
            return asked -> {
                long a = left.of(asked);
                long b = right.of(asked);
                return sign.equals("<") ? a < b : sign.equals(">") ? a > b : a == b;
            };
        }

        static long kept(long value) throws Broken {
            if (Math.abs(value) > 1_000_000_000L) throw new Broken();
            return value;
        }

        Sum sum() {
            Sum one = term();
            while (true) {
                Sum left = one;
                if (take("+")) {
                    Sum right = term();
                    one = asked -> kept(left.of(asked) + right.of(asked));
                } else if (take("-")) {
                    Sum right = term();
                    one = asked -> kept(left.of(asked) - right.of(asked));
                } else {
                    return one;
                }
            }
        }

        Sum term() {
            Sum one = part();
            while (true) {
                Sum left = one;
                if (take("*")) {
                    Sum right = part();
                    one = asked -> kept(left.of(asked) * right.of(asked));
                } else if (take("/")) {
                    Sum right = part();
                    one = asked -> {
                        long a = left.of(asked);
                        long b = right.of(asked);
                        if (b == 0) throw new Broken();
                        return a / b;
                    };
                } else {
                    return one;
                }
            }
        }

        Sum part() {
            if (take("[")) {
                Sum inner = sum();
                take("]");
                return inner;
            }
            String text = tokens.get(at++).text;
            if (Character.isDigit(text.charAt(0))) {
                long value = Long.parseLong(text);
                return asked -> value;
            }
            int word = WORDS.indexOf(text);
            return asked -> asked[word];
        }
    }

    private static final class Village {
        int x, y, wide, tall, taste, wool = 255;

        Village copy() {
            Village v = new Village();
            v.x = x;
            v.y = y;
            v.wide = wide;
            v.tall = tall;
            v.taste = taste;
            v.wool = wool;
            return v;
        }
    }

    private static final class Kept {
        List<Village> villages = new ArrayList<>();
        int[][] pictures = new int[3][36];
        int[] prices = {1, 1, 1, 1, 1, 1, 1, 1};
        int[] terms = {10, 0};
        List<List<Clause>> laws = new ArrayList<>();
        int force = NONE;

        Kept copy() {
            Kept k = new Kept();
            for (Village v : villages) k.villages.add(v.copy());
            for (int i = 0; i < 3; i++) k.pictures[i] = pictures[i].clone();
            k.prices = prices.clone();
            k.terms = terms.clone();
            k.laws.addAll(laws);
            k.force = force;
            return k;
        }
    }

    private static final class Model {
        Kept k = new Kept();
        Kept[] images = new Kept[2];
        StringBuilder tape = new StringBuilder();
        int lint = 0;
        int fault = NONE;
        int status = 0;
        Map<Integer, Integer> refused = new LinkedHashMap<>();
        List<int[]> drawn = new ArrayList<>();
        List<Integer> drawnSlips = new ArrayList<>();
        long s;

        int no(int by) {
            status = by;
            refused.merge(by, 1, Integer::sum);
            return by;
        }

        int yes(int answer) {
            status = 0;
            return answer;
        }

        boolean in(int n, int from, int to) {
            return n >= from && n <= to;
        }

        boolean isVillage(int v) {
            return in(v, 0, k.villages.size() - 1);
        }

        boolean keyhole(int x, int y, int w, int t) {
            return in(x, 0, 5) && in(y, 0, 5) && in(w, 1, 6) && in(t, 1, 6) && x + w <= 6 && y + t <= 6;
        }

        int village(int x, int y, int w, int t) {
            if (!keyhole(x, y, w, t)) return no(-1);
            if (k.villages.size() == 10) return no(-5);
            k.villages.add(new Village());
            int v = k.villages.size() - 1;
            hole(v, x, y, w, t);
            return yes(v);
        }

        int put(int v, int what, int value) {
            if (!in(what, 0, 1)) return no(-1);
            if (what == 0 ? !in(value, 0, 7) : !in(value, 1, 255)) return no(-1);
            if (!isVillage(v)) return no(-2);
            Village village = k.villages.get(v);
            int old = what == 0 ? village.taste : village.wool;
            if (what == 0) village.taste = value;
            else village.wool = value;
            return yes(old);
        }

        int hole(int v, int x, int y, int w, int t) {
            if (!keyhole(x, y, w, t)) return no(-1);
            if (!isVillage(v)) return no(-2);
            Village village = k.villages.get(v);
            village.x = x;
            village.y = y;
            village.wide = w;
            village.tall = t;
            return yes(0);
        }

        int of(int v, int what) {
            if (!isVillage(v) || !in(what, 0, 5)) return NONE;
            Village o = k.villages.get(v);
            return new int[] {o.x, o.y, o.wide, o.tall, o.taste, o.wool}[what];
        }

        int paint(int which, int cell, int colour) {
            if (!in(which, 0, 2) || !in(cell, 0, 35) || !in(colour, 0, 7)) return no(-1);
            int old = k.pictures[which][cell];
            k.pictures[which][cell] = colour;
            return yes(old);
        }

        int told(int which, int cell) {
            return in(which, 0, 2) && in(cell, 0, 35) ? k.pictures[which][cell] : NONE;
        }

        int price(int colour, int price) {
            if (!in(colour, 0, 7) || !in(price, 0, 99)) return no(-1);
            int old = k.prices[colour];
            k.prices[colour] = price;
            return yes(old);
        }

        int terms(int what, int value) {
            if (!in(what, 0, 1) || !in(value, 0, what == 0 ? 100 : 99)) return no(-1);
            int old = k.terms[what];
            k.terms[what] = value;
            return yes(old);
        }

        int feed(int... five) {
            if (tape.length() + 20 > 400) return NONE;
            for (int n : five) {
                tape.append((char) (n >>> 24)).append((char) (n >>> 16 & 255));
                tape.append((char) (n >>> 8 & 255)).append((char) (n & 255));
            }
            return tape.length();
        }

        int end(int n) {
            if (!in(n, 0, tape.length())) return NONE;
            tape.setLength(n);
            return n;
        }

        int row() {
            String text = tape.toString();
            tape.setLength(0);
            if (text.isEmpty() || text.charAt(0) > 2) return no(-6);
            int told = 0;
            lint = 0;
            for (int i = 1; i < text.length(); i++) {
                if (i > 36) lint++;
                else if (text.charAt(i) < 8) {
                    k.pictures[text.charAt(0)][i - 1] = text.charAt(i);
                    told++;
                }
            }
            return yes(told);
        }

        int law() {
            String text = tape.toString();
            tape.setLength(0);
            if (k.laws.size() == 6) return no(-5);
            fault = Grammar.fault(text);
            if (fault != NONE) return no(-6);
            k.laws.add(new Meaning(text).law());
            return yes(k.laws.size() - 1);
        }

        int force(int law) {
            if (law != NONE && !in(law, 0, k.laws.size() - 1)) return no(-2);
            int old = k.force;
            k.force = law;
            return yes(old);
        }

        long wish(Kept k, int v, int cell, int[] seen, int[] out) {
            Village village = k.villages.get(v);
            int x = cell % 6;
            int y = cell / 6;
            boolean sees = x >= village.x && x < village.x + village.wide
                && y >= village.y && y < village.y + village.tall;
            Long told = null;
            if (k.force != NONE) {
                long left = x == 0 ? -1 : out[cell - 1];
                long above = y == 0 ? -1 : out[cell - 6];
                long[] asked = {x, y, v, sees ? 1 : 0, sees ? seen[cell] : -1, left, above, village.taste, k.terms[1]};
                for (Clause clause : k.laws.get(k.force)) {
                    try {
                        if (clause.test == null || clause.test.of(asked)) told = clause.sum.of(asked);
                    } catch (Broken broken) {
                        continue;
                    }
                }
            }
            return told != null ? told : sees ? seen[cell] : village.taste;
        }

        int nearest(Kept k, int v, long wish) {
            int best = NONE;
            for (int c = 7; c >= 0; c--) {
                boolean has = (k.villages.get(v).wool & 1 << c) != 0;
                if (has && (best == NONE || Math.abs(c - wish) <= Math.abs(best - wish))) best = c;
            }
            return best;
        }

        int[] weave(Kept k, int v, int[] seen, int slipCell, int slipColour) {
            int[] out = new int[36];
            for (int c = 0; c < 36; c++) {
                out[c] = c == slipCell ? slipColour : nearest(k, v, wish(k, v, c, seen, out));
            }
            return out;
        }

        /** The first picture, then what each village weaves; perhaps one slips. */
        List<int[]> road(Kept k, int slipVillage, int slipCell, int slipColour) {
            List<int[]> all = new ArrayList<>();
            all.add(k.pictures[0]);
            for (int v = 0; v < k.villages.size(); v++) {
                all.add(weave(k, v, all.get(v), v == slipVillage ? slipCell : NONE, slipColour));
            }
            return all;
        }

        List<int[]> road() {
            return road(k, NONE, NONE, 0);
        }

        int[] last(Kept k) {
            List<int[]> all = road(k, NONE, NONE, 0);
            return all.get(all.size() - 1);
        }

        int[][] backwards() {
            int n = k.villages.size();
            int[][] all = new int[n][];
            for (int v = n - 1; v >= 0; v--) all[v] = weave(k, v, v == n - 1 ? k.pictures[1] : all[v + 1], NONE, 0);
            return all;
        }

        int alike(int[] a, int[] b) {
            int n = 0;
            for (int c = 0; c < 36; c++) n += a[c] == b[c] ? 1 : 0;
            return n;
        }

        int woven(int v, int cell, int way) {
            if (!isVillage(v) || !in(cell, 0, 35) || !in(way, 0, 1)) return NONE;
            return way == 0 ? road().get(v + 1)[cell] : backwards()[v][cell];
        }

        int like(int one, int other) {
            if (one != NONE && !isVillage(one) || other != NONE && !isVillage(other)) return NONE;
            return alike(road().get(one + 1), road().get(other + 1));
        }

        int costs(int v) {
            if (v != NONE && !isVillage(v)) return NONE;
            int sum = 0;
            for (int colour : v == NONE ? last(k) : road().get(v + 1)) sum += k.prices[colour];
            return sum;
        }

        int turned(int what) {
            List<int[]> all = road();
            int best = NONE;
            int fall = 0;
            for (int v = 0; v + 1 < all.size(); v++) {
                int falls = alike(all.get(v), all.get(0)) - alike(all.get(v + 1), all.get(0));
                if (falls > fall) {
                    fall = falls;
                    best = v;
                }
            }
            return best == NONE || !in(what, 0, 1) ? NONE : what == 0 ? best : fall;
        }

        int lost(int cell) {
            if (!in(cell, 0, 35)) return NONE;
            int[] now = last(k);
            int n = 0;
            for (int c = 0; c < 8; c++) {
                Kept other = k.copy();
                other.pictures[0][cell] = c;
                if (c != k.pictures[0][cell] && Arrays.equals(last(other), now)) n++;
            }
            return n;
        }

        int look(int n, int what) {
            if (!in(n, 0, 3) || !in(what, 0, 2)) return NONE;
            int[] best = {NONE, 0, 0};
            for (int size = 0; size <= n; size++) {
                for (int bits = 0; bits < 1 << k.villages.size(); bits++) {
                    if (Integer.bitCount(bits) != size) continue;
                    Kept other = k.copy();
                    for (int v = 0; v < 10; v++) {
                        if ((bits & 1 << v) == 0) continue;
                        Village open = other.villages.get(v);
                        open.x = 0;
                        open.y = 0;
                        open.wide = 6;
                        open.tall = 6;
                    }
                    int alike = alike(last(other), k.pictures[0]);
                    if (alike > best[0]) best = new int[] {alike, bits, 1};
                    else if (alike == best[0] && size == Integer.bitCount(best[1])) best[2]++;
                }
            }
            return best[what];
        }

        int gift(int what) {
            if (!in(what, 0, 2)) return NONE;
            int[] best = {NONE, NONE, NONE};
            for (int v = 0; v < k.villages.size(); v++) {
                for (int c = 0; c < 8; c++) {
                    Kept other = k.copy();
                    if ((other.villages.get(v).wool & 1 << c) != 0) continue;
                    other.villages.get(v).wool |= 1 << c;
                    int alike = alike(last(other), k.pictures[0]);
                    if (alike > best[0]) best = new int[] {alike, v, c};
                }
            }
            return best[what];
        }

        List<Integer> allSlips() {
            List<Integer> found = new ArrayList<>();
            List<int[]> now = road();
            for (int v = 0; v < k.villages.size(); v++) {
                for (int cell = 0; cell < 36; cell++) {
                    for (int c = 0; c < 8; c++) {
                        if (c == now.get(v + 1)[cell]) continue;
                        int[] picture = weave(k, v, now.get(v), cell, c);
                        for (int u = v + 1; u < k.villages.size(); u++) picture = weave(k, u, picture, NONE, 0);
                        if (Arrays.equals(picture, k.pictures[2])) found.add(v * 288 + cell * 8 + c);
                    }
                }
            }
            return found;
        }

        int could(int cell) {
            if (!in(cell, 0, 35)) return NONE;
            int bits = 0;
            for (int c = 0; c < 8; c++) {
                Kept other = k.copy();
                other.pictures[0][cell] = c;
                if (Arrays.equals(last(other), k.pictures[2])) bits |= 1 << c;
            }
            return bits;
        }

        int meeting(int what) {
            if (!in(what, 0, 1) || k.villages.size() < 2) return NONE;
            List<int[]> road = road();
            int[][] back = backwards();
            int best = 0;
            for (int v = 0; v + 1 < k.villages.size(); v++) {
                if (alike(road.get(v + 1), back[v + 1]) > alike(road.get(best + 1), back[best + 1])) best = v;
            }
            return what == 0 ? best : alike(road.get(best + 1), back[best + 1]);
        }

        int seamsIn(int[] p) {
            int n = 0;
            for (int y = 0; y < 6; y++) {
                for (int x = 0; x < 6; x++) {
                    if (x < 5 && p[6 * y + x] != p[6 * y + x + 1]) n++;
                    if (y < 5 && p[6 * y + x] != p[6 * y + x + 6]) n++;
                }
            }
            return n;
        }

        int seams(int v) {
            return v != NONE && !isVillage(v) ? NONE : seamsIn(road().get(v + 1));
        }

        int mend(int a, int b, int c, int d, int e, int what) {
            List<Integer> cells = new ArrayList<>();
            boolean over = false;
            for (int cell : new int[] {a, b, c, d, e}) {
                if (cell == NONE) over = true;
                else if (over || !in(cell, 0, 35) || cells.contains(cell)) return NONE;
                else cells.add(cell);
            }
            if (!in(what, 0, cells.size())) return NONE;
            cells.sort(null);
            int[] picture = last(k).clone();
            int best = Integer.MAX_VALUE;
            int bestRow = 0;
            for (int row = 0; row < 1 << 3 * cells.size(); row++) {
                for (int i = 0; i < cells.size(); i++) {
                    picture[cells.get(i)] = row >> 3 * (cells.size() - 1 - i) & 7;
                }
                int n = seamsIn(picture);
                if (n < best) {
                    best = n;
                    bestRow = row;
                }
            }
            return what == 0 ? best : bestRow >> 3 * (cells.size() - what) & 7;
        }

        long draw(int n) {
            s = (s * 1103 + 12345) % 1000003;
            return s % n;
        }

        int weavers(int seed) {
            if (!in(seed, 0, 1000000)) return no(-1);
            s = seed;
            drawn.clear();
            drawnSlips.clear();
            int[] seen = k.pictures[0];
            for (int v = 0; v < k.villages.size(); v++) {
                int[] out = new int[36];
                int slips = 0;
                for (int c = 0; c < 36; c++) {
                    boolean slip = draw(100) < k.terms[0];
                    if (slip) slips++;
                    out[c] = nearest(k, v, slip ? draw(8) : wish(k, v, c, seen, out));
                }
                drawn.add(out);
                drawnSlips.add(slips);
                seen = out;
            }
            return yes(alike(seen, k.pictures[0]));
        }

        int drawn(int v, int cell) {
            if (!in(v, 0, drawn.size() - 1) || !in(cell, -1, 35)) return NONE;
            return cell == NONE ? drawnSlips.get(v) : drawn.get(v)[cell];
        }

        int image(int i) {
            if (!in(i, 0, 1)) return no(-1);
            images[i] = k.copy();
            return yes(0);
        }

        int back(int i) {
            if (!in(i, 0, 1)) return no(-1);
            if (images[i] == null) return no(-2);
            k = images[i].copy();
            return yes(0);
        }

        int count(int what) {
            switch (what) {
                case 0: return k.villages.size();
                case 1: return k.laws.size();
                case 2: return tape.length();
                case 3: return refused.getOrDefault(-1, 0);
                case 4: return refused.getOrDefault(-2, 0);
                case 5: return refused.getOrDefault(-5, 0);
                case 6: return refused.getOrDefault(-6, 0);
                case 7: return k.force;
                case 8: return k.terms[0];
                case 9: return k.terms[1];
                default: return NONE;
            }
        }
    }

    /** Laws by which a change goes far and is not soon forgotten. */
    private static final String[] MIXING = {
        "weaves [left+was+1]-[left+was+1]/8*8",
        "weaves [above*3+was+8]-[above*3+was+8]/8*8",
        "weaves above if was=left; weaves left if above>was",
        "weaves was+left-above",
        "weaves was; weaves left if x/2*2=x and village/2*2=village; weaves above if y/2*2<y",
        "weaves 7-was if seen=1; weaves left if not left=above and left>0",
        "weaves [was+above+left+x+2]-[was+above+left+x+2]/8*8 if village<2 or seen=0",
        "weaves was; weaves above if above>was and x<4; weaves left if left>above and x=5",
        "weaves above if above>0-1",
        "weaves left if left>0-1"};

    /** Draws calls, asks both, and tells where they part. */
    private static final class Run {
        final Random random;
        final long seed;
        final Model model = new Model();
        final KeyholeWeave real = new KeyholeWeave();
        final StringBuilder story = new StringBuilder();
        boolean wrong = false;
        int calls = 0;

        Run(long seed) {
            this.seed = seed;
            random = new Random(seed);
        }

        void due(String call, int got, int want) {
            calls++;
            story.append(call).append(" -> ").append(got).append('\n');
            if (got == want) return;
            wrong = true;
            System.out.println(story);
            System.out.println("run " + seed + ": " + call + " answered " + got + ", due is " + want);
        }

        /** Mostly a number from .. to, now and then one beside it or far off. */
        int some(int from, int to) {
            int kind = random.nextInt(60);
            if (kind == 0) return from - 1;
            if (kind == 1) return to + 1;
            if (kind == 2) return random.nextInt();
            if (kind == 3) return random.nextBoolean() ? Integer.MAX_VALUE : Integer.MIN_VALUE;
            return from + random.nextInt(to - from + 1);
        }

        int village() {
            return some(0, Math.max(0, model.k.villages.size() - 1));
        }

        void write(String text) {
            for (int i = 0; i < text.length() && model.tape.length() + 20 <= 400; i += 20) {
                int[] n = new int[5];
                for (int j = 0; j < 20 && i + j < text.length(); j++) {
                    n[j / 4] |= (text.charAt(i + j) & 255) << 8 * (3 - j % 4);
                }
                int before = model.tape.length();
                due("feed(" + Arrays.toString(n) + ")", real.feed(n[0], n[1], n[2], n[3], n[4]), model.feed(n));
                int size = before + Math.min(20, text.length() - i);
                due("end(" + size + ")", real.end(size), model.end(size));
            }
        }

        String word() {
            int kind = random.nextInt(14);
            if (kind < 9) return WORDS.get(kind);
            if (kind == 9) return "1000";
            return "" + random.nextInt(kind == 10 ? 1001 : 9);
        }

        String part(int deep) {
            return deep > 0 && random.nextInt(6) == 0 ? "[" + sum(deep - 1) + "]" : word();
        }

        String sum(int deep) {
            StringBuilder text = new StringBuilder(part(deep));
            while (random.nextInt(5) < 2) text.append(gap()).append("+-*/".charAt(random.nextInt(4))).append(gap()).append(part(deep));
            return text.toString();
        }

        String gap() {
            return random.nextInt(3) == 0 ? " " : "";
        }

        String plain(int deep) {
            int kind = random.nextInt(8);
            if (kind == 0) return "not " + plain(deep);
            if (kind == 1 && deep > 0) return "(" + gap() + test(deep - 1) + ")";
            return sum(deep) + gap() + "<>=".charAt(random.nextInt(3)) + gap() + sum(deep);
        }

        String test(int deep) {
            StringBuilder text = new StringBuilder(plain(deep));
            while (random.nextInt(3) == 0) text.append(random.nextBoolean() ? " or " : " and ").append(plain(deep));
            return text.toString();
        }

        String law() {
            StringBuilder text = new StringBuilder();
            int clauses = 1 + random.nextInt(random.nextInt(10) == 0 ? 14 : 4);
            for (int i = 0; i < clauses; i++) {
                if (i > 0) text.append(";").append(gap());
                text.append("weaves ").append(sum(2));
                if (random.nextInt(4) > 0) text.append(" if ").append(test(2));
            }
            int spoil = random.nextInt(12);
            if (spoil == 0) text.setCharAt(random.nextInt(text.length()), (char) random.nextInt(256));
            if (spoil == 1) text.deleteCharAt(random.nextInt(text.length()));
            if (spoil == 2) text.setLength(random.nextInt(text.length()));
            if (spoil == 3) text.insert(random.nextInt(text.length()), " ()[]<>=+-*/;1 x not or if".charAt(random.nextInt(26)));
            if (spoil == 4) deepen(text);
            if (spoil == 5) text.append(" if").append(" not".repeat(random.nextInt(90))).append(" x = x");
            return text.toString();
        }

        void deepen(StringBuilder text) {
            int deep = 7 + random.nextInt(4);
            text.setLength(0);
            if (random.nextBoolean()) {
                text.append("weaves ").append("[".repeat(deep)).append("x").append("]".repeat(deep));
            } else {
                int outer = random.nextInt(deep);
                text.append("weaves 1 if ").append("(".repeat(outer)).append("[".repeat(deep - outer)).append("was");
                text.append("]".repeat(deep - outer)).append(" > 2").append(")".repeat(outer));
            }
        }

        void change() {
            int a = some(0, 5);
            int b = some(0, 5);
            int w = random.nextInt(4) == 0 ? some(1, 6) : Math.max(1, 6 - a - random.nextInt(2));
            int t = random.nextInt(4) == 0 ? some(1, 6) : Math.max(1, 6 - b - random.nextInt(2));
            int v = village();
            switch (random.nextInt(14)) {
                case 0:
                case 1:
                    due("village(" + a + "," + b + "," + w + "," + t + ")", real.village(a, b, w, t), model.village(a, b, w, t));
                    break;
                case 2: {
                    int what = some(0, 1);
                    int value = what == 0 ? some(0, 7) : some(1, 255);
                    due("put(" + v + "," + what + "," + value + ")", real.put(v, what, value), model.put(v, what, value));
                    break;
                }
                case 3:
                    due("hole(" + v + "," + a + "," + b + "," + w + "," + t + ")", real.hole(v, a, b, w, t), model.hole(v, a, b, w, t));
                    break;
                case 4:
                case 5: {
                    int which = some(0, 2);
                    int cell = some(0, 35);
                    int colour = some(0, 7);
                    due("paint(" + which + "," + cell + "," + colour + ")", real.paint(which, cell, colour), model.paint(which, cell, colour));
                    break;
                }
                case 6: {
                    int colour = some(0, 7);
                    int price = some(0, 99);
                    due("price(" + colour + "," + price + ")", real.price(colour, price), model.price(colour, price));
                    break;
                }
                case 7: {
                    int what = some(0, 1);
                    int value = some(0, what == 0 ? 100 : 99);
                    due("terms(" + what + "," + value + ")", real.terms(what, value), model.terms(what, value));
                    break;
                }
                case 8:
                    tellRow();
                    break;
                case 9:
                case 10:
                    tellLaw();
                    break;
                case 11: {
                    int law = some(NONE, Math.max(0, model.k.laws.size() - 1));
                    due("force(" + law + ")", real.force(law), model.force(law));
                    break;
                }
                case 12: {
                    int k = some(0, 1);
                    due("image(" + k + ")", real.image(k), model.image(k));
                    break;
                }
                default: {
                    int k = some(0, 1);
                    if (random.nextInt(3) == 0) due("back(" + k + ")", real.back(k), model.back(k));
                    break;
                }
            }
        }

        void tellLaw() {
            if (random.nextInt(5) > 0) due("end(0)", real.end(0), model.end(0));
            write(law());
            due("law()", real.law(), model.law());
            due("fault()", real.fault(), model.fault);
            if (random.nextBoolean()) {
                int law = model.k.laws.size() - 1;
                due("force(" + law + ")", real.force(law), model.force(law));
            }
        }

        /** A drawn row; or the end as it would be after a slip, to be explained. */
        void tellRow() {
            StringBuilder text = new StringBuilder();
            due("end(0)", real.end(0), model.end(0));
            if (random.nextBoolean() && !model.k.villages.isEmpty()) {
                int v = random.nextInt(model.k.villages.size());
                List<int[]> all = model.road(model.k, v, random.nextInt(36), random.nextInt(8));
                text.append((char) 2);
                for (int colour : all.get(all.size() - 1)) text.append((char) colour);
            } else {
                text.append((char) (random.nextInt(12) == 0 ? random.nextInt(256) : random.nextInt(3)));
                int size = random.nextInt(60);
                int kinds = random.nextInt(10) == 0 ? 256 : 8;
                for (int i = 0; i < size; i++) text.append((char) random.nextInt(kinds));
            }
            write(text.toString());
            due("row()", real.row(), model.row());
            due("lint()", real.lint(), model.lint);
        }

        void ask() {
            int v = village();
            int w = random.nextInt(4) == 0 ? NONE : village();
            int cell = some(0, 35);
            switch (random.nextInt(20)) {
                case 0: {
                    int what = some(0, 5);
                    due("of(" + v + "," + what + ")", real.of(v, what), model.of(v, what));
                    break;
                }
                case 1: {
                    int which = some(0, 2);
                    due("told(" + which + "," + cell + ")", real.told(which, cell), model.told(which, cell));
                    break;
                }
                case 2:
                case 3: {
                    int way = some(0, 1);
                    due("woven(" + v + "," + cell + "," + way + ")", real.woven(v, cell, way), model.woven(v, cell, way));
                    break;
                }
                case 4:
                    due("like(" + v + "," + w + ")", real.like(v, w), model.like(v, w));
                    break;
                case 5:
                    due("costs(" + w + ")", real.costs(w), model.costs(w));
                    break;
                case 6: {
                    int what = some(0, 1);
                    due("turned(" + what + ")", real.turned(what), model.turned(what));
                    break;
                }
                case 7:
                    due("lost(" + cell + ")", real.lost(cell), model.lost(cell));
                    break;
                case 8:
                    due("could(" + cell + ")", real.could(cell), model.could(cell));
                    break;
                case 9: {
                    int what = some(0, 1);
                    due("meeting(" + what + ")", real.meeting(what), model.meeting(what));
                    break;
                }
                case 10:
                    due("seams(" + w + ")", real.seams(w), model.seams(w));
                    break;
                case 11:
                    askMending();
                    break;
                case 12: {
                    int seed = some(0, 1000000);
                    due("weavers(" + seed + ")", real.weavers(seed), model.weavers(seed));
                    break;
                }
                case 13:
                case 14: {
                    int c = random.nextInt(4) == 0 ? NONE : cell;
                    due("drawn(" + v + "," + c + ")", real.drawn(v, c), model.drawn(v, c));
                    break;
                }
                case 15:
                    askGuess();
                    break;
                case 16: {
                    int n = some(0, 400);
                    if (random.nextBoolean()) due("end(" + n + ")", real.end(n), model.end(n));
                    break;
                }
                default: {
                    int what = some(0, 9);
                    due("count(" + what + ")", real.count(what), model.count(what));
                    break;
                }
            }
        }

        void askMending() {
            int[] c = new int[5];
            int many = random.nextInt(6);
            int near = random.nextInt(36);
            for (int i = 0; i < 5; i++) c[i] = i >= many ? NONE : random.nextBoolean() ? some(0, 35) : near + i < 36 ? near + i : i;
            if (random.nextInt(10) == 0) c[random.nextInt(5)] = NONE;
            int what = some(0, Math.max(1, many));
            due("mend(" + Arrays.toString(c) + "," + what + ")", real.mend(c[0], c[1], c[2], c[3], c[4], what),
                model.mend(c[0], c[1], c[2], c[3], c[4], what));
        }

        void askGuess() {
            int kind = random.nextInt(6);
            if (kind < 2) {
                int n = some(0, kind == 0 ? 3 : 1);
                int what = some(0, 2);
                due("look(" + n + "," + what + ")", real.look(n, what), model.look(n, what));
            } else if (kind < 4) {
                int what = some(0, 2);
                due("gift(" + what + ")", real.gift(what), model.gift(what));
            } else if (random.nextInt(3) == 0) {
                askSlips();
            }
        }

        void askSlips() {
            List<Integer> all = model.allSlips();
            due("slips(-1)", real.slips(NONE), all.size());
            due("slips(size)", real.slips(all.size()), NONE);
            due("slips(-2)", real.slips(-2), NONE);
            for (int i = 0; i < 3 && !all.isEmpty(); i++) {
                int which = random.nextInt(all.size());
                due("slips(" + which + ")", real.slips(which), all.get(which));
            }
        }

        /** A rich road whose end was seen after a slip; then all that can be guessed of it. */
        boolean guess() {
            int villages = 1 + random.nextInt(5);
            for (int i = 0; i < villages; i++) {
                int x = random.nextInt(2);
                int y = random.nextInt(2);
                int w = 6 - x - random.nextInt(2);
                int t = 6 - y - random.nextInt(2);
                due("village(" + x + "," + y + "," + w + "," + t + ")", real.village(x, y, w, t), model.village(x, y, w, t));
                int taste = random.nextInt(8);
                due("put(" + i + ",0," + taste + ")", real.put(i, 0, taste), model.put(i, 0, taste));
                int wool = random.nextInt(3) > 0 ? 255 : 1 + random.nextInt(255);
                due("put(" + i + ",1," + wool + ")", real.put(i, 1, wool), model.put(i, 1, wool));
            }
            int colours = 2 + random.nextInt(7);
            StringBuilder first = new StringBuilder("\0");
            for (int i = 0; i < 36; i++) first.append((char) Math.min(7, random.nextInt(colours)));
            write(first.toString());
            due("row()", real.row(), model.row());
            int kind = random.nextInt(MIXING.length + 1);
            write(kind < MIXING.length ? MIXING[kind] : law());
            due("law()", real.law(), model.law());
            int force = model.k.laws.size() - 1;
            due("force(" + force + ")", real.force(force), model.force(force));
            List<int[]> all = model.road(model.k, random.nextInt(villages), random.nextInt(36), random.nextInt(8));
            StringBuilder seen = new StringBuilder("\2");
            for (int colour : all.get(all.size() - 1)) seen.append((char) colour);
            due("end(0)", real.end(0), model.end(0));
            write(seen.toString());
            due("row()", real.row(), model.row());
            List<Integer> slips = model.allSlips();
            due("slips(-1)", real.slips(NONE), slips.size());
            for (int i = 0; i < Math.min(40, slips.size()); i++) due("slips(" + i + ")", real.slips(i), slips.get(i));
            for (int i = 0; i < 36; i++) {
                due("lost(" + i + ")", real.lost(i), model.lost(i));
                due("could(" + i + ")", real.could(i), model.could(i));
            }
            for (int what = 0; what < 3; what++) {
                for (int n = 0; n < 4; n++) due("look(" + n + "," + what + ")", real.look(n, what), model.look(n, what));
                due("gift(" + what + ")", real.gift(what), model.gift(what));
            }
            return !wrong;
        }

        boolean play() {
            for (int i = 0; i < 460 && calls < 470 && !wrong; i++) {
                if (i < 20 || random.nextInt(3) == 0) change();
                else ask();
                if (random.nextBoolean()) due("status()", real.status(), model.status);
            }
            return !wrong;
        }
    }

    /** Texts alone: many more of them than the runs have. */
    private static boolean texts(int many) {
        for (int i = 0; i < many; i++) {
            Run run = new Run(1000000 + i);
            for (int j = 0; j < 5 && !run.wrong; j++) {
                readOne(run);
            }
            if (run.wrong) return false;
        }
        return true;
    }

    private static void readOne(Run run) {
        run.due("end(0)", run.real.end(0), run.model.end(0));
        run.write(run.law());
        run.due("law()", run.real.law(), run.model.law());
        run.due("fault()", run.real.fault(), run.model.fault);
    }

    public static void main(String[] args) {
        int runs = args.length > 0 ? Integer.parseInt(args[0]) : 60;
        int first = args.length > 1 ? Integer.parseInt(args[1]) : 0;
        boolean right = texts(2000);
        int calls = 0;
        for (int seed = first; seed < first + runs && right; seed++) {
            Run run = new Run(seed);
            Run guess = new Run(2000000 + seed);
            right = run.play() && guess.guess();
            calls += run.calls + guess.calls;
        }
        System.out.println(calls + " drawn calls" + (right ? " are as the model's" : ", the last one is not as the model's"));
        if (!right) System.exit(1);
    }
}
