import java.util.Arrays;

/** A tapestry woven by villages along one road, each of which sees the last one's picture through a keyhole. */
public final class KeyholeWeave {
    public static final int NONE = -1;

    private static final int SIDE = 6;
    private static final int CELLS = 36;
    // Sides between two cells: as many seams as a picture can have.
    private static final int SIDES = 60;
    private static final int COLOURS = 8;
    private static final int VILLAGES = 10;
    private static final int LAWS = 6;
    private static final int IMAGES = 2;
    private static final int TAPE_BYTES = 400;
    private static final int FED_BYTES = 20;
    private static final int MOTHS = 5;
    private static final int LOOKS = 3;

    // Which picture is told.
    private static final int FIRST = 0;
    private static final int SECOND = 1;
    private static final int SEEN = 2;
    private static final int PICTURES = 3;

    // What can be asked of a village, by the numbers of of().
    private static final int X = 0;
    private static final int Y = 1;
    private static final int WIDE = 2;
    private static final int TALL = 3;
    private static final int TASTE = 4;
    private static final int WOOL = 5;
    private static final int TRAITS = 6;

    private static final int SLIP = 0;
    private static final int YEAR = 1;
    private static final int TERMS = 2;

    // What a call is refused by.
    private static final int BAD_NUMBER = -1;
    private static final int NO_SUCH = -2;
    private static final int NO_ROOM = -5;
    private static final int BAD_TEXT = -6;

    // A law's steps: what is done in the lowest four bits, with what above them.
    private static final int NUMBER = 0;
    private static final int WORD = 1;
    private static final int ADD = 2;
    private static final int TAKE = 3;
    private static final int TIMES = 4;
    private static final int DIVIDE = 5;
    private static final int LESS = 6;
    private static final int MORE = 7;
    private static final int SAME = 8;
    private static final int NOT = 9;
    private static final int AND = 10;
    private static final int OR = 11;
    private static final int STEP_BITS = 4;
    private static final int STEP_MASK = 15;

    private static final int CLAUSES = 12;
    private static final int PARTS = 50;
    private static final int BRACKETS = 8;
    private static final int NUMBER_MOST = 1000;
    private static final long SUM_MOST = 1000000000L;

    // The words of a law that stand for a number, by their place among what is asked.
    private static final int ASK_X = 0;
    private static final int ASK_Y = 1;
    private static final int ASK_VILLAGE = 2;
    private static final int ASK_SEEN = 3;
    private static final int ASK_WAS = 4;
    private static final int ASK_LEFT = 5;
    private static final int ASK_ABOVE = 6;
    private static final int ASK_TASTE = 7;
    private static final int ASK_YEAR = 8;
    private static final int ASKS = 9;

    private final State now = new State();
    private final State[] images = new State[IMAGES];
    private final Tape tape = new Tape();
    private final Reader reader = new Reader();
    private final Road road = new Road();
    private final Guesses guesses = new Guesses(road);
    private final Mender mender = new Mender();
    private final Weavers latest = new Weavers();
    private final int[] refusals = new int[4];
    private int refusedBy = 0;
    private int latestLint = 0;
    private int latestFault = NONE;
    private boolean stale = true;

    public KeyholeWeave() {
    }

    public int village(int x, int y, int wide, int tall) {
        if (!isKeyhole(x, y, wide, tall)) return refuse(BAD_NUMBER);
        if (now.villages >= VILLAGES) return refuse(NO_ROOM);
        int village = now.villages;
        now.villages++;
        now.setKeyhole(village, x, y, wide, tall);
        now.traits[TASTE][village] = 0;
        now.traits[WOOL][village] = (1 << COLOURS) - 1;
        return changed(village);
    }

    public int put(int village, int what, int value) {
        boolean taste = what == 0 && isColour(value);
        boolean wool = what == 1 && value >= 1 && value < 1 << COLOURS;
        if (!taste && !wool) return refuse(BAD_NUMBER);
        if (!isVillage(village)) return refuse(NO_SUCH);
        int[] row = now.traits[taste ? TASTE : WOOL];
        int old = row[village];
        row[village] = value;
        return changed(old);
    }

    public int hole(int village, int x, int y, int wide, int tall) {
        if (!isKeyhole(x, y, wide, tall)) return refuse(BAD_NUMBER);
        if (!isVillage(village)) return refuse(NO_SUCH);
        now.setKeyhole(village, x, y, wide, tall);
        return changed(0);
    }

    public int of(int village, int what) {
        if (!isVillage(village) || what < 0 || what >= TRAITS) return NONE;
        return now.traits[what][village];
    }

    public int paint(int which, int cell, int colour) {
        if (!isPicture(which) || !isCell(cell) || !isColour(colour)) return refuse(BAD_NUMBER);
        int old = now.pictures[which][cell];
        now.pictures[which][cell] = colour;
        return changed(old);
    }

    public int told(int which, int cell) {
        if (!isPicture(which) || !isCell(cell)) return NONE;
        return now.pictures[which][cell];
    }

    public int price(int colour, int price) {
        if (!isColour(colour) || price < 0 || price > 99) return refuse(BAD_NUMBER);
        int old = now.prices[colour];
        now.prices[colour] = price;
        return allow(old);
    }

    public int terms(int what, int value) {
        boolean slip = what == SLIP && value >= 0 && value <= 100;
        boolean year = what == YEAR && value >= 0 && value <= 99;
        if (!slip && !year) return refuse(BAD_NUMBER);
        int old = now.terms[what];
        now.terms[what] = value;
        return changed(old);
    }

    public int feed(int a, int b, int c, int d, int e) {
        if (tape.size + FED_BYTES > TAPE_BYTES) return NONE;
        tape.add(a);
        tape.add(b);
        tape.add(c);
        tape.add(d);
        tape.add(e);
        return tape.size;
    }

    public int end(int n) {
        if (n < 0 || n > tape.size) return NONE;
        tape.size = n;
        return n;
    }

    public int row() {
        int size = tape.size;
        tape.size = 0;
        if (size == 0 || !isPicture(tape.bytes[0])) return refuse(BAD_TEXT);
        int[] picture = now.pictures[tape.bytes[0]];
        int many = 0;
        for (int cell = 0; cell < CELLS && cell + 1 < size; cell++) {
            int colour = tape.bytes[cell + 1];
            if (isColour(colour)) {
                picture[cell] = colour;
                many++;
            }
        }
        latestLint = Math.max(0, size - 1 - CELLS);
        return changed(many);
    }

    public int lint() {
        return latestLint;
    }

    public int law() {
        int size = tape.size;
        tape.size = 0;
        if (now.laws >= LAWS) return refuse(NO_ROOM);
        Law read = reader.readLaw(tape.bytes, size);
        latestFault = reader.fault;
        if (read == null) return refuse(BAD_TEXT);
        now.texts[now.laws] = read;
        now.laws++;
        return allow(now.laws - 1);
    }

    public int fault() {
        return latestFault;
    }

    public int force(int law) {
        if (law != NONE && (law < 0 || law >= now.laws)) return refuse(NO_SUCH);
        int old = now.inForce;
        now.inForce = law;
        return changed(old);
    }

    public int woven(int village, int cell, int way) {
        if (!isVillage(village) || !isCell(cell) || way < 0 || way > 1) return NONE;
        weaveIfStale();
        return way == 0 ? road.onward[village][cell] : road.backward()[village][cell];
    }

    public int like(int one, int other) {
        if (!isVillageOrNone(one) || !isVillageOrNone(other)) return NONE;
        weaveIfStale();
        return likeness(road.picture(one), road.picture(other));
    }

    public int costs(int village) {
        if (!isVillageOrNone(village)) return NONE;
        weaveIfStale();
        int[] picture = village == NONE ? road.last() : road.picture(village);
        int sum = 0;
        for (int cell = 0; cell < CELLS; cell++) sum += now.prices[picture[cell]];
        return sum;
    }

    public int turned(int what) {
        if (what < 0 || what > 1) return NONE;
        weaveIfStale();
        int where = NONE;
        int most = 0;
        int ahead = CELLS;
        for (int village = 0; village < now.villages; village++) {
            int alike = likeness(road.picture(village), now.pictures[FIRST]);
            if (ahead - alike > most) {
                most = ahead - alike;
                where = village;
            }
            ahead = alike;
        }
        return what == 0 || where == NONE ? where : most;
    }

    public int lost(int cell) {
        if (!isCell(cell)) return NONE;
        weaveIfStale();
        return Integer.bitCount(guesses.coloursFor(cell, road.last())) - 1;
    }

    public int look(int n, int what) {
        if (n < 0 || n > LOOKS || what < 0 || what > 2) return NONE;
        weaveIfStale();
        int best = 0;
        for (int size = 0; size <= n; size++) {
            guesses.findLooks(size);
            if (guesses.looks[size][0] > guesses.looks[best][0]) best = size;
        }
        return guesses.looks[best][what];
    }

    public int gift(int what) {
        if (what < 0 || what > 2) return NONE;
        weaveIfStale();
        guesses.findGift();
        return guesses.present[what];
    }

    public int slips(int i) {
        if (i < NONE) return NONE;
        weaveIfStale();
        guesses.findSlips();
        return i == NONE ? guesses.slipCount : guesses.slipAt(i);
    }

    public int could(int cell) {
        if (!isCell(cell)) return NONE;
        weaveIfStale();
        return guesses.coloursFor(cell, now.pictures[SEEN]);
    }

    public int meeting(int what) {
        if (what < 0 || what > 1 || now.villages < 2) return NONE;
        weaveIfStale();
        int[][] backward = road.backward();
        int where = 0;
        int most = NONE;
        for (int village = 0; village + 1 < now.villages; village++) {
            int alike = likeness(road.onward[village], backward[village + 1]);
            if (alike > most) {
                most = alike;
                where = village;
            }
        }
        return what == 0 ? where : most;
    }

    public int seams(int village) {
        if (!isVillageOrNone(village)) return NONE;
        weaveIfStale();
        return seamsOf(road.picture(village));
    }

    public int mend(int a, int b, int c, int d, int e, int what) {
        if (!mender.takeCells(a, b, c, d, e)) return NONE;
        if (what < 0 || what > mender.many) return NONE;
        weaveIfStale();
        mender.mendAll(road.last());
        return what == 0 ? mender.fewest : mender.best[what - 1];
    }

    public int weavers(int seed) {
        if (seed < 0 || seed > 1000000) return refuse(BAD_NUMBER);
        weaveIfStale();
        int[] last = latest.weaveAll(road.loom, now, seed);
        return allow(likeness(last, now.pictures[FIRST]));
    }

    public int drawn(int village, int cell) {
        if (village < 0 || village >= latest.villages) return NONE;
        if (cell == NONE) return latest.slipped[village];
        return isCell(cell) ? latest.pictures[village][cell] : NONE;
    }

    public int image(int k) {
        if (k < 0 || k >= IMAGES) return refuse(BAD_NUMBER);
        if (images[k] == null) images[k] = new State();
        images[k].copyFrom(now);
        return allow(0);
    }

    public int back(int k) {
        if (k < 0 || k >= IMAGES) return refuse(BAD_NUMBER);
        if (images[k] == null) return refuse(NO_SUCH);
        now.copyFrom(images[k]);
        return changed(0);
    }

    public int count(int what) {
        switch (what) {
            case 0: return now.villages;
            case 1: return now.laws;
            case 2: return tape.size;
            case 3:
            case 4:
            case 5:
            case 6: return refusals[what - 3];
            case 7: return now.inForce;
            case 8: return now.terms[SLIP];
            case 9: return now.terms[YEAR];
            default: return NONE;
        }
    }

    public int status() {
        return refusedBy;
    }

    private boolean isVillage(int village) {
        return village >= 0 && village < now.villages;
    }

    private boolean isVillageOrNone(int village) {
        return village == NONE || isVillage(village);
    }

    private static boolean isCell(int cell) {
        return cell >= 0 && cell < CELLS;
    }

    private static boolean isColour(int colour) {
        return colour >= 0 && colour < COLOURS;
    }

    private static boolean isPicture(int which) {
        return which >= 0 && which < PICTURES;
    }

    private static boolean isKeyhole(int x, int y, int wide, int tall) {
        return isStretch(x, wide) && isStretch(y, tall);
    }

    // The start is bounded ahead of the sum, so that the sum cannot wrap around.
    private static boolean isStretch(int from, int size) {
        return from >= 0 && from < SIDE && size >= 1 && size <= SIDE && from + size <= SIDE;
    }

    private int allow(int answer) {
        refusedBy = 0;
        return answer;
    }

    private int changed(int answer) {
        stale = true;
        return allow(answer);
    }

    private int refuse(int by) {
        refusedBy = by;
        if (by == BAD_NUMBER) refusals[0]++;
        else if (by == NO_SUCH) refusals[1]++;
        else if (by == NO_ROOM) refusals[2]++;
        else refusals[3]++;
        return by;
    }

    private void weaveIfStale() {
        if (!stale) return;
        road.weaveAll(now);
        guesses.forget();
        stale = false;
    }

    private static int likeness(int[] one, int[] other) {
        int alike = 0;
        for (int cell = 0; cell < CELLS; cell++) {
            if (one[cell] == other[cell]) alike++;
        }
        return alike;
    }

    private static boolean same(int[] one, int[] other) {
        for (int cell = 0; cell < CELLS; cell++) {
            if (one[cell] != other[cell]) return false;
        }
        return true;
    }

    /** Sides between cells of unlike colours; a cell without a colour (NONE) has none. */
    private static int seamsOf(int[] picture) {
        int sum = 0;
        for (int cell = 0; cell < CELLS; cell++) {
            if (picture[cell] == NONE) continue;
            if (cell % SIDE > 0) sum += seam(picture[cell], picture[cell - 1]);
            if (cell >= SIDE) sum += seam(picture[cell], picture[cell - SIDE]);
        }
        return sum;
    }

    private static int seam(int colour, int next) {
        return next != NONE && next != colour ? 1 : 0;
    }

    /** All that an image keeps. */
    private static final class State {
        private final int[][] traits = new int[TRAITS][VILLAGES];
        private final int[][] pictures = new int[PICTURES][CELLS];
        private final int[] prices = new int[COLOURS];
        private final int[] terms = new int[TERMS];
        private final Law[] texts = new Law[LAWS];
        private int villages = 0;
        private int laws = 0;
        private int inForce = NONE;

        State() {
            Arrays.fill(prices, 1);
            terms[SLIP] = 10;
        }

        void setKeyhole(int village, int x, int y, int wide, int tall) {
            traits[X][village] = x;
            traits[Y][village] = y;
            traits[WIDE][village] = wide;
            traits[TALL][village] = tall;
        }

        void copyFrom(State other) {
            for (int i = 0; i < TRAITS; i++) System.arraycopy(other.traits[i], 0, traits[i], 0, VILLAGES);
            for (int i = 0; i < PICTURES; i++) System.arraycopy(other.pictures[i], 0, pictures[i], 0, CELLS);
            System.arraycopy(other.prices, 0, prices, 0, COLOURS);
            System.arraycopy(other.terms, 0, terms, 0, TERMS);
            for (int i = 0; i < LAWS; i++) texts[i] = other.texts[i];
            villages = other.villages;
            laws = other.laws;
            inForce = other.inForce;
        }

        Law lawInForce() {
            return inForce >= 0 && inForce < laws ? texts[inForce] : null;
        }
    }

    private static final class Tape {
        private final int[] bytes = new int[TAPE_BYTES];
        private int size = 0;

        void add(int four) {
            for (int shift = 24; shift >= 0 && size < TAPE_BYTES; shift -= 8) {
                bytes[size] = four >> shift & 255;
                size++;
            }
        }
    }

    /** A law as it was read; it never changes, so images may share it. */
    private static final class Law {
        private final int clauses;
        private final int[] starts;
        private final int[] code;

        Law(int clauses, int[] starts, int[] code) {
            this.clauses = clauses;
            this.starts = starts;
            this.code = code;
        }
    }

    /** Turns a text into a law, operands ahead of what is done with them. */
    private static final class Reader {
        // Kinds of tokens beyond the single bytes; nothing may follow a fault.
        private static final int LETTERS = 256;
        private static final int DIGITS = 257;
        private static final int TEXT_END = 258;
        private static final int STUCK = 259;

        private final int[] code = new int[TAPE_BYTES];
        private final int[] starts = new int[CLAUSES + 1];
        private int[] text = code;
        private int length = 0;
        private int from = 0;
        private int to = 0;
        private int kind = STUCK;
        private int size = 0;
        private int parts = 0;
        private int fault = NONE;

        /** The law of a text; null with a fault. */
        Law readLaw(int[] bytes, int many) {
            text = bytes;
            length = Math.min(many, bytes.length);
            to = 0;
            size = 0;
            parts = 0;
            fault = NONE;
            step();
            for (int clause = 0; clause < CLAUSES; clause++) {
                starts[clause] = size;
                if (!takeWord("weaves")) stick();
                readSum(0);
                if (takeWord("if")) readTest(0);
                starts[clause + 1] = size;
                if (kind == TEXT_END) {
                    return new Law(clause + 1, Arrays.copyOf(starts, clause + 2), Arrays.copyOf(code, size));
                }
                takeSign(';');
                if (fault != NONE) return null;
            }
            stick();
            return null;
        }

        // What stands behind "or" is skipped as a whole, an "and" within it too: "and" binds closer.
        private void readTest(int depth) {
            int held = NONE;
            readPlain(depth);
            for (int i = 0; i < TAPE_BYTES; i++) {
                if (takeWord("and")) {
                    int skip = size;
                    emit(AND, 0);
                    readPlain(depth);
                    skipToHere(skip);
                } else if (isWord("or")) {
                    step();
                    skipToHere(held);
                    held = size;
                    emit(OR, 0);
                    readPlain(depth);
                } else {
                    break;
                }
            }
            skipToHere(held);
        }

        private void readPlain(int depth) {
            boolean not = false;
            for (int i = 0; i < TAPE_BYTES && takeWord("not"); i++) not = !not;
            if (kind == '(' && depth < BRACKETS) {
                step();
                readTest(depth + 1);
                takeSign(')');
            } else {
                readSum(depth);
                int compared = comparison();
                if (compared == NONE) stick();
                else step();
                readSum(depth);
                emit(compared, 0);
            }
            if (not) emit(NOT, 0);
        }

        // A + or - waits until the term behind it has been read.
        private void readSum(int depth) {
            int held = NONE;
            readPart(depth);
            for (int i = 0; i < TAPE_BYTES; i++) {
                int op = calculation();
                if (op == NONE) break;
                step();
                if (op == ADD || op == TAKE) {
                    if (held != NONE) emit(held, 0);
                    held = op;
                    readPart(depth);
                } else {
                    readPart(depth);
                    emit(op, 0);
                }
            }
            if (held != NONE) emit(held, 0);
        }

        private void readPart(int depth) {
            if (kind == '[' && depth < BRACKETS) {
                step();
                readSum(depth + 1);
                takeSign(']');
                return;
            }
            int value = kind == DIGITS ? number() : word();
            if (value == NONE || parts >= PARTS) {
                stick();
                return;
            }
            parts++;
            emit(kind == DIGITS ? NUMBER : WORD, value);
            step();
        }

        private int number() {
            int value = 0;
            for (int i = from; i < to; i++) {
                value = value * 10 + text[i] - '0';
                if (value > NUMBER_MOST) return NONE;
            }
            return value;
        }

        private int word() {
            if (isWord("x")) return ASK_X;
            if (isWord("y")) return ASK_Y;
            if (isWord("village")) return ASK_VILLAGE;
            if (isWord("seen")) return ASK_SEEN;
            if (isWord("was")) return ASK_WAS;
            if (isWord("left")) return ASK_LEFT;
            if (isWord("above")) return ASK_ABOVE;
            if (isWord("taste")) return ASK_TASTE;
            if (isWord("year")) return ASK_YEAR;
            return NONE;
        }

        private int comparison() {
            if (kind == '<') return LESS;
            if (kind == '>') return MORE;
            return kind == '=' ? SAME : NONE;
        }

        private int calculation() {
            if (kind == '+') return ADD;
            if (kind == '-') return TAKE;
            if (kind == '*') return TIMES;
            return kind == '/' ? DIVIDE : NONE;
        }

        private boolean isWord(String word) {
            if (kind != LETTERS || to - from != word.length()) return false;
            for (int i = 0; i < word.length(); i++) {
                if (text[from + i] != word.charAt(i)) return false;
            }
            return true;
        }

        private boolean takeWord(String word) {
            if (!isWord(word)) return false;
            step();
            return true;
        }

        private void takeSign(int sign) {
            if (kind == sign) step();
            else stick();
        }

        private void stick() {
            if (fault == NONE) fault = from;
            kind = STUCK;
        }

        private void step() {
            from = to;
            while (from < length && text[from] == ' ') from++;
            to = from;
            if (from >= length) {
                kind = TEXT_END;
                return;
            }
            kind = text[from];
            to++;
            if (kind >= 'a' && kind <= 'z') {
                kind = LETTERS;
                while (to < length && text[to] >= 'a' && text[to] <= 'z') to++;
            } else if (kind >= '0' && kind <= '9') {
                kind = DIGITS;
                while (to < length && text[to] >= '0' && text[to] <= '9') to++;
            }
        }

        // A step comes of a token each, so the code is never longer than the text.
        private void emit(int op, int with) {
            if (fault != NONE || size >= TAPE_BYTES) return;
            code[size] = with << STEP_BITS | op;
            size++;
        }

        private void skipToHere(int skip) {
            if (skip < 0 || skip >= size) return;
            code[skip] = size << STEP_BITS | code[skip] & STEP_MASK;
        }
    }

    /** What a village weaves, by the law in force and its wool. */
    private static final class Loom {
        private final long[] holes = new long[VILLAGES];
        private final int[] wool = new int[VILLAGES];
        private final int[] taste = new int[VILLAGES];
        private final long[] stack = new long[PARTS];
        private final int[] asked = new int[ASKS];
        private int villages = 0;
        private int open = 0;
        private Law law = null;

        void setUp(State state) {
            villages = state.villages;
            law = state.lawInForce();
            asked[ASK_YEAR] = state.terms[YEAR];
            for (int v = 0; v < villages; v++) {
                wool[v] = state.traits[WOOL][v];
                taste[v] = state.traits[TASTE][v];
                long line = (1L << state.traits[WIDE][v]) - 1 << state.traits[X][v];
                holes[v] = 0;
                for (int i = 0; i < state.traits[TALL][v]; i++) {
                    holes[v] |= line << SIDE * (state.traits[Y][v] + i);
                }
            }
        }

        boolean sees(int village, int cell) {
            return (open >> village & 1) != 0 || (holes[village] >> cell & 1) != 0;
        }

        void weave(int village, int[] seen, int[] out) {
            for (int cell = 0; cell < CELLS; cell++) out[cell] = colourIn(village, cell, seen, out);
        }

        int colourIn(int village, int cell, int[] seen, int[] out) {
            int was = sees(village, cell) ? seen[cell] : NONE;
            long wish = was == NONE ? taste[village] : was;
            if (law != null) {
                int x = cell % SIDE;
                asked[ASK_X] = x;
                asked[ASK_Y] = cell / SIDE;
                asked[ASK_VILLAGE] = village;
                asked[ASK_SEEN] = was == NONE ? 0 : 1;
                asked[ASK_WAS] = was;
                asked[ASK_LEFT] = x > 0 ? out[cell - 1] : NONE;
                asked[ASK_ABOVE] = cell >= SIDE ? out[cell - SIDE] : NONE;
                asked[ASK_TASTE] = taste[village];
                for (int clause = law.clauses - 1; clause >= 0; clause--) {
                    if (holds(clause)) {
                        wish = stack[0];
                        break;
                    }
                }
            }
            return nearest(wool[village], wish);
        }

        /** Colours lie between 0 and 7, so a wish beyond them may be moved to their edge. */
        int nearest(int wools, long wish) {
            int middle = (int) Math.max(0, Math.min(COLOURS - 1, wish));
            for (int away = 0; away < COLOURS; away++) {
                int lower = middle - away;
                int higher = middle + away;
                if (lower >= 0 && (wools >> lower & 1) != 0) return lower;
                if (higher < COLOURS && (wools >> higher & 1) != 0) return higher;
            }
            return 0;
        }

        /** Whether a clause holds; the stack's first number is what it tells then. */
        private boolean holds(int clause) {
            int end = law.starts[clause + 1];
            int top = 0;
            for (int at = law.starts[clause]; at < end; at++) {
                int op = law.code[at] & STEP_MASK;
                int with = law.code[at] >> STEP_BITS;
                if (op == NUMBER || op == WORD) {
                    if (top >= PARTS) return false;
                    stack[top] = op == NUMBER ? with : asked[with];
                    top++;
                } else if (top < 1) {
                    return false;
                } else if (op == NOT) {
                    stack[top - 1] = 1 - stack[top - 1];
                } else if (op == AND || op == OR) {
                    // What is settled already stays; a skip only ever goes forward.
                    if (stack[top - 1] == (op == OR ? 1 : 0)) at = Math.max(at, with - 1);
                    else top--;
                } else if (top < 2 || !combine(op, top)) {
                    return false;
                } else {
                    top--;
                }
            }
            return top == 1 || top == 2 && stack[1] == 1;
        }

        /** Puts what comes of the two topmost numbers into the lower one's place; false if it is broken. */
        private boolean combine(int op, int top) {
            long one = stack[top - 2];
            long other = stack[top - 1];
            if (op == DIVIDE && other == 0) return false;
            long sum;
            switch (op) {
                case ADD: sum = one + other; break;
                case TAKE: sum = one - other; break;
                case TIMES: sum = one * other; break;
                case DIVIDE: sum = one / other; break;
                case LESS: sum = one < other ? 1 : 0; break;
                case MORE: sum = one > other ? 1 : 0; break;
                default: sum = one == other ? 1 : 0; break;
            }
            stack[top - 2] = sum;
            return sum <= SUM_MOST && sum >= -SUM_MOST;
        }
    }

    /** What the villages weave on the road and backwards. */
    private static final class Road {
        private final Loom loom = new Loom();
        private final int[][] onward = new int[VILLAGES][CELLS];
        private final int[][] rearward = new int[VILLAGES][CELLS];
        private int[][] told = onward;
        private boolean rearwardKnown = false;

        void weaveAll(State state) {
            told = state.pictures;
            rearwardKnown = false;
            loom.setUp(state);
            int[] seen = told[FIRST];
            for (int v = 0; v < loom.villages; v++) {
                loom.weave(v, seen, onward[v]);
                seen = onward[v];
            }
        }

        int[][] backward() {
            if (!rearwardKnown) {
                int[] seen = told[SECOND];
                for (int v = loom.villages - 1; v >= 0; v--) {
                    loom.weave(v, seen, rearward[v]);
                    seen = rearward[v];
                }
                rearwardKnown = true;
            }
            return rearward;
        }

        /** What a village weaves on the road; the first picture for none. */
        int[] picture(int village) {
            return village >= 0 && village < loom.villages ? onward[village] : told[FIRST];
        }

        int[] last() {
            return picture(loom.villages - 1);
        }
    }

    /** What would come in the end if something on the road were otherwise. */
    private static final class Guesses {
        private final Road road;
        private final Loom loom;
        private final int[][] spare = new int[2][CELLS];
        // Cells outside of these have the colours that they have on the road.
        private int low = 0;
        private int high = NONE;

        private final int[][] looks = new int[LOOKS + 1][3];
        private final boolean[] looksKnown = new boolean[LOOKS + 1];
        private final int[] present = new int[3];
        private boolean presentKnown = false;
        private final int[] slipColours = new int[VILLAGES * CELLS];
        private int slipCount = 0;
        private boolean slipsKnown = false;

        Guesses(Road road) {
            this.road = road;
            this.loom = road.loom;
        }

        void forget() {
            for (int size = 0; size <= LOOKS; size++) looksKnown[size] = false;
            presentKnown = false;
            slipsKnown = false;
        }

        /** The colours (as bits) of a cell of the first picture with which the end is as wanted. */
        int coloursFor(int cell, int[] wanted) {
            int bits = 0;
            int[] altered = spare[1];
            for (int colour = 0; colour < COLOURS; colour++) {
                System.arraycopy(road.picture(NONE), 0, altered, 0, CELLS);
                altered[cell] = colour;
                low = cell;
                high = cell;
                if (same(endFrom(0, altered, 0), wanted)) bits |= 1 << colour;
            }
            return bits;
        }

        /** Likeness, bits and how many as good, of the looks of so many villages. */
        void findLooks(int size) {
            if (looksKnown[size]) return;
            looksKnown[size] = true;
            int[] best = looks[size];
            best[0] = NONE;
            for (int bits = 0; bits < 1 << loom.villages; bits++) {
                if (Integer.bitCount(bits) != size) continue;
                loom.open = bits;
                int alike = likenessWithout(bits);
                loom.open = 0;
                if (alike > best[0]) {
                    best[0] = alike;
                    best[1] = bits;
                    best[2] = 1;
                } else if (alike == best[0]) {
                    best[2]++;
                }
            }
        }

        /** Likeness, village and colour of the best gift. */
        void findGift() {
            if (presentKnown) return;
            presentKnown = true;
            Arrays.fill(present, NONE);
            for (int v = 0; v < loom.villages; v++) {
                int had = loom.wool[v];
                for (int colour = 0; colour < COLOURS; colour++) {
                    if ((had >> colour & 1) != 0) continue;
                    loom.wool[v] = had | 1 << colour;
                    int alike = likenessWithout(1 << v);
                    if (alike > present[0]) {
                        present[0] = alike;
                        present[1] = v;
                        present[2] = colour;
                    }
                }
                loom.wool[v] = had;
            }
        }

        void findSlips() {
            if (slipsKnown) return;
            slipsKnown = true;
            slipCount = 0;
            for (int place = 0; place < loom.villages * CELLS; place++) {
                int v = place / CELLS;
                int cell = place % CELLS;
                int bits = 0;
                for (int colour = 0; colour < COLOURS; colour++) {
                    if (colour == road.onward[v][cell]) continue;
                    if (same(endAfterSlip(v, cell, colour), road.told[SEEN])) bits |= 1 << colour;
                }
                slipColours[place] = bits;
                slipCount += Integer.bitCount(bits);
            }
        }

        int slipAt(int i) {
            int ahead = i;
            if (ahead < 0 || ahead >= slipCount) return NONE;
            for (int place = 0; place < loom.villages * CELLS; place++) {
                for (int colour = 0; colour < COLOURS; colour++) {
                    if ((slipColours[place] >> colour & 1) == 0) continue;
                    if (ahead == 0) return place * COLOURS + colour;
                    ahead--;
                }
            }
            return NONE;
        }

        private int likenessWithout(int changed) {
            low = 0;
            high = NONE;
            return likeness(endFrom(0, road.picture(NONE), changed), road.picture(NONE));
        }

        private int[] endAfterSlip(int village, int cell, int colour) {
            int[] out = spare[village & 1];
            System.arraycopy(road.onward[village], 0, out, 0, CELLS);
            out[cell] = colour;
            follow(village, road.picture(village - 1), out, cell + 1, cell + SIDE);
            low = cell;
            high = Math.max(high, cell);
            return endFrom(village + 1, out, 0);
        }

        /** The end if a village sees this picture; the changed villages (as bits) are not as on the road. */
        private int[] endFrom(int village, int[] picture, int changed) {
            int[] seen = picture;
            for (int v = village; v < loom.villages; v++) {
                int[] out = spare[v & 1];
                if ((changed >> v & 1) != 0) {
                    loom.weave(v, seen, out);
                    low = 0;
                    high = CELLS - 1;
                    seen = out;
                } else if (high < low) {
                    seen = road.onward[v];
                } else {
                    System.arraycopy(road.onward[v], 0, out, 0, CELLS);
                    follow(v, seen, out, low, high);
                    seen = out;
                }
            }
            return seen;
        }

        // A cell is woven anew only where what it asks for is not as on the road:
        // a change reaches the next cell and the one below, so six cells behind the last one nothing is left of it.
        private void follow(int village, int[] seen, int[] out, int from, int to) {
            int[] sawThen = road.picture(village - 1);
            int[] then = road.onward[village];
            int until = to;
            low = CELLS;
            high = NONE;
            for (int cell = from; cell < CELLS && cell <= until; cell++) {
                boolean asBefore = (seen[cell] == sawThen[cell] || !loom.sees(village, cell))
                    && (cell % SIDE == 0 || out[cell - 1] == then[cell - 1])
                    && (cell < SIDE || out[cell - SIDE] == then[cell - SIDE]);
                if (asBefore) continue;
                out[cell] = loom.colourIn(village, cell, seen, out);
                if (out[cell] == then[cell]) continue;
                low = Math.min(low, cell);
                high = cell;
                until = Math.max(until, cell + SIDE);
            }
        }
    }

    /** Puts colours where moths have eaten. */
    private static final class Mender {
        private final int[] given = new int[MOTHS];
        private final int[] cells = new int[MOTHS];
        private final int[] tried = new int[MOTHS];
        private final int[] best = new int[MOTHS];
        private final int[] picture = new int[CELLS];
        private int many = 0;
        private int fewest = 0;

        /** Takes the eaten cells in rising order; false if they can't be. */
        boolean takeCells(int a, int b, int c, int d, int e) {
            given[0] = a;
            given[1] = b;
            given[2] = c;
            given[3] = d;
            given[4] = e;
            many = 0;
            for (int i = 0; i < MOTHS; i++) {
                if (given[i] == NONE) continue;
                if (!isCell(given[i]) || many < i || !insert(given[i])) return false;
            }
            return true;
        }

        private boolean insert(int cell) {
            int place = many;
            for (int i = many - 1; i >= 0 && cells[i] >= cell; i--) place = i;
            if (place < many && cells[place] == cell) return false;
            for (int i = many; i > place; i--) cells[i] = cells[i - 1];
            cells[place] = cell;
            many++;
            return true;
        }

        void mendAll(int[] eaten) {
            System.arraycopy(eaten, 0, picture, 0, CELLS);
            for (int i = 0; i < many; i++) picture[cells[i]] = NONE;
            fewest = SIDES + 1;
            mendFrom(0, seamsOf(picture));
        }

        // Colours rise and only fewer seams are better, so the first row of the best ones stays.
        private void mendFrom(int i, int seams) {
            if (seams >= fewest) return;
            if (i >= many) {
                fewest = seams;
                System.arraycopy(tried, 0, best, 0, many);
                return;
            }
            int cell = cells[i];
            for (int colour = 0; colour < COLOURS; colour++) {
                tried[i] = colour;
                picture[cell] = colour;
                mendFrom(i + 1, seams + seamsAround(cell));
            }
            picture[cell] = NONE;
        }

        private int seamsAround(int cell) {
            int colour = picture[cell];
            int sum = 0;
            if (cell % SIDE > 0) sum += seam(colour, picture[cell - 1]);
            if (cell % SIDE < SIDE - 1) sum += seam(colour, picture[cell + 1]);
            if (cell >= SIDE) sum += seam(colour, picture[cell - SIDE]);
            if (cell + SIDE < CELLS) sum += seam(colour, picture[cell + SIDE]);
            return sum;
        }
    }

    /** The latest weavers, who slip by draws. */
    private static final class Weavers {
        private final int[][] pictures = new int[VILLAGES][CELLS];
        private final int[] slipped = new int[VILLAGES];
        private int villages = 0;
        private int s = 0;

        /** Weaves on the road with slips: the end. */
        int[] weaveAll(Loom loom, State state, int seed) {
            s = seed;
            villages = state.villages;
            int[] seen = state.pictures[FIRST];
            for (int v = 0; v < villages; v++) {
                int[] out = pictures[v];
                slipped[v] = 0;
                for (int cell = 0; cell < CELLS; cell++) {
                    if (draw(100) < state.terms[SLIP]) {
                        slipped[v]++;
                        out[cell] = loom.nearest(loom.wool[v], draw(COLOURS));
                    } else {
                        out[cell] = loom.colourIn(v, cell, seen, out);
                    }
                }
                seen = out;
            }
            return seen;
        }

        private int draw(int n) {
            s = (s * 1103 + 12345) % 1000003;
            return n > 0 ? s % n : 0;
        }
    }
}
