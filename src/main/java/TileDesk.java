import java.util.Arrays;

/** A desk for hands of tiles of which four groups and a pair are wanted. */
public final class TileDesk {
    public static final int BAD = -1, NO = -2, NONE = -3, FULL = -4;

    // What refuses an act with a rack; BAD, NO, NONE and FULL have the names of the face.
    private static final int NULL = -11, INDEX = -12, SIZE = -13, STORE = -14, SORT = -15, FIVE = -16, MANY = -17;
    // A place may keep any number from -32768 on, so that refusals of place() and told() stand below these.
    private static final int PLACE_BAD = -100000, PLACE_NULL = PLACE_BAD + NULL, PLACE_INDEX = PLACE_BAD + INDEX;

    private static final int RACKS = 6, HANDS = 4, DEALT = 13;
    private static final int WALL = 0, THROWN = 1, HELD = 2, OPEN = 6, PLACES = 10;
    private static final int ABOUT_SIZE = 0, ABOUT_HELD = 1, ABOUT_OPEN = 2, ABOUT_CODES = 3, ABOUTS = 7;
    private static final int SEVEN = 0, OUTER = 1;

    private final Rack[] racks = new Rack[RACKS];
    private final Hand[] hands = new Hand[HANDS];
    private final int[] wall = new int[Sorts.ALL];
    private final int[] thrown = new int[Sorts.ALL];
    /** How many of each sort the hand that is asked about has not seen; filled anew by each call that needs it. */
    private final int[] hidden = new int[Sorts.ALL];
    private final Others others = new Others();
    private final Lacks lacks = new Lacks(others);
    private final Judge judge = new Judge(others);
    private int seedNow = 1;

    public TileDesk() {
        for (int r = 0; r < RACKS; r++) {
            racks[r] = new Rack();
        }
        for (int h = 0; h < HANDS; h++) {
            hands[h] = new Hand();
        }
        Arrays.fill(wall, Sorts.OF_EACH);
    }

    // ---- racks

    public int rack(int r, int kind, int n) {
        if (!isRack(r) || kind < Rack.NO_KIND || kind > Rack.SHORTS) {
            return BAD;
        }
        if (kind == Rack.NO_KIND) {
            racks[r].become(kind, 0);
            return 0;
        }
        if (n < 0) {
            return SIZE;
        }
        if (n > Rack.MOST) {
            return FULL;
        }
        racks[r].become(kind, n);
        return 0;
    }

    public int place(int r, int i, int v) {
        int refusal = refusalOfPlace(r, i);
        return refusal != 0 ? refusal : racks[r].keep(i, v);
    }

    public int copy(int r, int i, int t, int j, int n) {
        if (!isRack(r) || !isRack(t)) {
            return BAD;
        }
        Rack from = racks[r];
        Rack to = racks[t];
        if (from.isMissing() || to.isMissing()) {
            return NULL;
        }
        if (from.kind != to.kind) {
            return STORE;
        }
        if (!from.reaches(i, n) || !to.reaches(j, n)) {
            return INDEX;
        }
        System.arraycopy(from.cells, i, to.cells, j, n);
        return 0;
    }

    public int told(int r, int i) {
        int refusal = refusalOfPlace(r, i);
        return refusal != 0 ? refusal : racks[r].cells[i];
    }

    public int read(int h, int r, int i, int n) {
        if (!isHand(h) || !isRack(r)) {
            return BAD;
        }
        Rack rack = racks[r];
        Hand hand = hands[h];
        if (rack.isMissing()) {
            return NULL;
        }
        if (n < 0) {
            return SIZE;
        }
        if (!rack.reaches(i, n)) {
            return INDEX;
        }
        if (hand.size() + n > Hand.FULL_SIZE) {
            return MANY;
        }
        return readAll(hand, rack, i, n);
    }

    // ---- tiles

    public int take(int h, int sort) {
        if (!isHand(h) || !Sorts.isSort(sort)) {
            return BAD;
        }
        if (hands[h].isFull()) {
            return NO;
        }
        if (wall[sort] == 0) {
            return FIVE;
        }
        wall[sort]--;
        hands[h].gain(sort);
        return hands[h].size();
    }

    public int seed(int v) {
        if (v < 0) {
            return BAD;
        }
        seedNow = v;
        return 0;
    }

    public int draw(int h) {
        if (!isHand(h)) {
            return BAD;
        }
        if (hands[h].isFull()) {
            return NO;
        }
        return drawNext(hands[h]);
    }

    public int deal(int v) {
        if (v < 0) {
            return BAD;
        }
        seedNow = v;
        for (int h = 0; h < HANDS; h++) {
            hands[h].giveBack(wall);
        }
        Arrays.fill(wall, Sorts.OF_EACH);
        Arrays.fill(thrown, 0);
        for (int h = 0; h < HANDS; h++) {
            for (int n = 0; n < DEALT; n++) {
                drawNext(hands[h]);
            }
        }
        return 0;
    }

    public int discard(int h, int sort) {
        if (!isHand(h) || !Sorts.isSort(sort)) {
            return BAD;
        }
        if (hands[h].held[sort] == 0) {
            return NO;
        }
        hands[h].lose(sort);
        thrown[sort]++;
        return hands[h].size();
    }

    public int open(int h, int kind, int sort) {
        if (!isHand(h) || !Sorts.isSort(sort) || kind < Groups.RUN || kind > Groups.FOUR) {
            return BAD;
        }
        if (kind == Groups.RUN && !Sorts.startsRun(sort)) {
            return BAD;
        }
        if (!hands[h].canLay(kind, sort)) {
            return NO;
        }
        hands[h].lay(kind, sort);
        return hands[h].groups;
    }

    public int clear(int h) {
        return isHand(h) ? hands[h].giveBack(wall) : BAD;
    }

    public int tiles(int sort, int place) {
        if (!Sorts.isSort(sort) || place < 0 || place >= PLACES) {
            return BAD;
        }
        if (place == WALL) {
            return wall[sort];
        }
        if (place == THROWN) {
            return thrown[sort];
        }
        return place < OPEN ? hands[place - HELD].held[sort] : hands[place - OPEN].laid[sort];
    }

    public int about(int h, int what) {
        if (!isHand(h) || what < 0 || what >= ABOUTS) {
            return BAD;
        }
        Hand hand = hands[h];
        if (what == ABOUT_SIZE) {
            return hand.size();
        }
        if (what == ABOUT_HELD) {
            return hand.tilesHeld;
        }
        if (what == ABOUT_OPEN) {
            return hand.groups;
        }
        int k = what - ABOUT_CODES;
        return k < hand.groups ? hand.codes[k] : NONE;
    }

    // ---- hands

    public int count(int what, boolean is) {
        if (what != SEVEN && what != OUTER) {
            return BAD;
        }
        boolean was = what == SEVEN ? others.sevenCounts : others.outerCounts;
        if (what == SEVEN) {
            others.sevenCounts = is;
        } else {
            others.outerCounts = is;
        }
        return was ? 1 : 0;
    }

    public int done(int h) {
        return isHand(h) ? judge.howDone(hands[h]) : BAD;
    }

    public int ways(int h) {
        if (!isHand(h)) {
            return BAD;
        }
        if (!hands[h].isFull()) {
            return NO;
        }
        judge.ways.find(hands[h]);
        return judge.ways.size;
    }

    public int way(int h, int i, int k) {
        if (!isHand(h) || k < 0 || k >= Ways.GROUPS) {
            return BAD;
        }
        if (!hands[h].isFull()) {
            return NO;
        }
        judge.ways.find(hands[h]);
        return i >= 0 && i < judge.ways.size ? judge.ways.codeAt(i, k) : NONE;
    }

    public int distance(int h) {
        if (!isHand(h)) {
            return BAD;
        }
        if (!hands[h].isFull() && !hands[h].rests()) {
            return NO;
        }
        lacks.reckon(hands[h], Lacks.NO_LIMIT);
        // A full hand that lacks nothing lacks one tile without any of its own.
        return Math.max(lacks.lack, 1) - 1;
    }

    public int waits(int h, int i) {
        if (!isHand(h) || i < 0) {
            return BAD;
        }
        if (!hands[h].rests()) {
            return NO;
        }
        lacks.reckon(hands[h], 1);
        return lacks.lack == 1 ? lacks.helper(i) : NONE;
    }

    public int helps(int h, int i) {
        if (!isHand(h) || i < 0) {
            return BAD;
        }
        if (!hands[h].rests()) {
            return NO;
        }
        lacks.reckon(hands[h], Lacks.NO_LIMIT);
        return lacks.helper(i);
    }

    public int without(int h, int sort) {
        int refusal = refusalOfThrow(h, sort);
        if (refusal != 0) {
            return refusal;
        }
        reckonWithout(hands[h], sort);
        return lacks.lack - 1;
    }

    public int more(int h, int sort) {
        int refusal = refusalOfThrow(h, sort);
        if (refusal != 0) {
            return refusal;
        }
        countHidden(hands[h]);
        reckonWithout(hands[h], sort);
        return lacks.helpingOf(hidden);
    }

    public int best(int h) {
        if (!isHand(h)) {
            return BAD;
        }
        if (!hands[h].isFull()) {
            return NO;
        }
        return bestThrow(hands[h]);
    }

    public int lack(int h, int row, int g, int p) {
        if (!isHand(h) || row < 0 || row >= Sorts.ROWS || g < 0 || g > Hand.WANTED || p < 0 || p > 1) {
            return BAD;
        }
        return lacks.ofRow(hands[h], row, g, p);
    }

    public int odds(int h, int d) {
        if (!isHand(h) || d < 1 || d > 2) {
            return BAD;
        }
        if (!hands[h].rests()) {
            return NO;
        }
        int left = countHidden(hands[h]) - 1;
        lacks.reckon(hands[h], d);
        if (lacks.lack > d) {
            return 0;
        }
        if (d == 1) {
            return lacks.helpingOf(hidden);
        }
        lacks.reckon(hands[h], 1);
        int rows = 0;
        for (int first = 0; first < Sorts.ALL; first++) {
            if (hidden[first] > 0) {
                lacks.change(first, 1);
                lacks.total();
                rows += hidden[first] * (lacks.lack == 0 ? left : secondTiles(first));
                lacks.change(first, -1);
            }
        }
        return rows;
    }

    public int unseen(int h) {
        return isHand(h) ? countHidden(hands[h]) : BAD;
    }

    public int alike(int h, int g) {
        if (!isHand(h) || !isHand(g)) {
            return BAD;
        }
        return Shapes.same(hands[h].held, hands[g].held) ? 1 : 0;
    }

    // ---- worth

    public int rule(int condition, int points, int out) {
        if (!Rules.isCondition(condition) || points < 0 || points > Rules.MOST_POINTS) {
            return BAD;
        }
        if (out != Rules.NOTHING_OUT && !Rules.isCondition(out)) {
            return BAD;
        }
        if (judge.rules.size >= Rules.MOST) {
            return FULL;
        }
        return judge.rules.add(condition, points, out);
    }

    public int clearRules() {
        int had = judge.rules.size;
        judge.rules.size = 0;
        return had;
    }

    public int worth(int h) {
        if (!isHand(h)) {
            return BAD;
        }
        return judge.weigh(hands[h]) ? judge.sum : NO;
    }

    public int by(int h) {
        if (!isHand(h)) {
            return BAD;
        }
        return judge.weigh(hands[h]) ? judge.source : NO;
    }

    public int holds(int h, int condition) {
        if (!isHand(h) || !Rules.isCondition(condition)) {
            return BAD;
        }
        if (!judge.weigh(hands[h])) {
            return NO;
        }
        return Rules.isIn(condition, judge.conditions) ? 1 : 0;
    }

    // ---- what the calls share

    private static boolean isRack(int r) {
        return r >= 0 && r < RACKS;
    }

    private static boolean isHand(int h) {
        return h >= 0 && h < HANDS;
    }

    private int refusalOfPlace(int r, int i) {
        if (!isRack(r)) {
            return PLACE_BAD;
        }
        if (racks[r].isMissing()) {
            return PLACE_NULL;
        }
        return i < 0 || i >= racks[r].length ? PLACE_INDEX : 0;
    }

    private int refusalOfThrow(int h, int sort) {
        if (!isHand(h) || !Sorts.isSort(sort)) {
            return BAD;
        }
        return !hands[h].isFull() || hands[h].held[sort] == 0 ? NO : 0;
    }

    /** Takes place by place; what came ahead of a refusal goes back, so that all come, or none. */
    private int readAll(Hand hand, Rack rack, int from, int n) {
        for (int k = 0; k < n; k++) {
            int sort = rack.cells[from + k];
            if (!Sorts.isSort(sort) || wall[sort] == 0) {
                unread(hand, rack, from, k);
                return Sorts.isSort(sort) ? FIVE : SORT;
            }
            wall[sort]--;
            hand.gain(sort);
        }
        return hand.size();
    }

    private void unread(Hand hand, Rack rack, int from, int n) {
        for (int k = 0; k < n; k++) {
            int sort = rack.cells[from + k];
            hand.lose(sort);
            wall[sort]++;
        }
    }

    private int drawNext(Hand hand) {
        int left = Sorts.sum(wall);
        if (left == 0) {
            return NONE;
        }
        seedNow = (int) ((seedNow * 48271L + 11) & 0x7fffffffL);
        int number = seedNow / 64 % left;
        for (int sort = 0; sort < Sorts.ALL; sort++) {
            if (number < wall[sort]) {
                wall[sort]--;
                hand.gain(sort);
                return sort;
            }
            number -= wall[sort];
        }
        return NONE;
    }

    private int countHidden(Hand hand) {
        for (int sort = 0; sort < Sorts.ALL; sort++) {
            int seen = hand.held[sort] + thrown[sort];
            for (int h = 0; h < HANDS; h++) {
                seen += hands[h].laid[sort];
            }
            hidden[sort] = Sorts.OF_EACH - seen;
        }
        return Sorts.sum(hidden);
    }

    private void reckonWithout(Hand hand, int sort) {
        lacks.reckon(hand, Lacks.NO_LIMIT);
        lacks.change(sort, -1);
        lacks.total();
    }

    private int bestThrow(Hand hand) {
        lacks.reckon(hand, Lacks.NO_LIMIT);
        int least = Math.max(lacks.lack, 1);
        countHidden(hand);
        lacks.reckon(hand, least);
        int best = NONE;
        int most = -1;
        for (int sort = 0; sort < Sorts.ALL; sort++) {
            if (hand.held[sort] > 0) {
                lacks.change(sort, -1);
                lacks.total();
                int helping = lacks.lack == least ? lacks.helpingOf(hidden) : -1;
                if (helping > most) {
                    most = helping;
                    best = sort;
                }
                lacks.change(sort, 1);
            }
        }
        return best;
    }

    /** Behind a first tile that did not make it done: how many may come second that do, the best one being thrown. */
    private int secondTiles(int first) {
        if (lacks.lack > 1) {
            return 0;
        }
        int most = 0;
        hidden[first]--;
        for (int sort = 0; sort < Sorts.ALL; sort++) {
            if (lacks.held[sort] > 0) {
                lacks.change(sort, -1);
                lacks.total();
                if (lacks.lack == 1) {
                    most = Math.max(most, lacks.helpingOf(hidden));
                }
                lacks.change(sort, 1);
            }
        }
        hidden[first]++;
        return most;
    }

    /** What the number of a sort says. */
    private static final class Sorts {
        static final int ALL = 34, OF_EACH = 4, ROWS = 4, ROW_LENGTH = 9, LAST_ROW = 3, LAST_ROW_LENGTH = 7;
        static final int OUTER_ONES = 13;

        static boolean isSort(int sort) {
            return sort >= 0 && sort < ALL;
        }

        static int rowOf(int sort) {
            return sort / ROW_LENGTH;
        }

        static int lengthOf(int row) {
            return row < LAST_ROW ? ROW_LENGTH : LAST_ROW_LENGTH;
        }

        static boolean startsRun(int sort) {
            return sort < LAST_ROW * ROW_LENGTH && sort % ROW_LENGTH <= ROW_LENGTH - 3;
        }

        static boolean isOuter(int sort) {
            int at = sort % ROW_LENGTH;
            return sort >= LAST_ROW * ROW_LENGTH || at == 0 || at == ROW_LENGTH - 1;
        }

        static int sum(int[] counts) {
            int sum = 0;
            for (int n : counts) {
                sum += n;
            }
            return sum;
        }
    }

    /** Groups and their codes. */
    private static final class Groups {
        static final int PAIR = 0, RUN = 1, THREE = 2, FOUR = 3;
        static final int CODE = 100;

        static int code(int kind, int sort) {
            return CODE * kind + sort;
        }

        static int kindOf(int code) {
            return code / CODE;
        }

        static int sortOf(int code) {
            return code % CODE;
        }

        /** How many tiles a three or a four has. */
        static int tilesAlike(int kind) {
            return kind + 1;
        }

        static boolean hasOuter(int code) {
            int sort = sortOf(code);
            return Sorts.isOuter(sort) || kindOf(code) == RUN && Sorts.isOuter(sort + 2);
        }
    }

    /** A row of bytes, chars or shorts, or none. */
    private static final class Rack {
        static final int NO_KIND = -1, BYTES = 0, CHARS = 1, SHORTS = 2, MOST = 40;

        final int[] cells = new int[MOST];
        int kind = NO_KIND;
        int length = 0;

        void become(int newKind, int n) {
            kind = newKind;
            length = n;
            Arrays.fill(cells, 0);
        }

        boolean isMissing() {
            return kind == NO_KIND;
        }

        boolean reaches(int from, int n) {
            return from >= 0 && n >= 0 && from <= length - n;
        }

        int keep(int i, int v) {
            cells[i] = kind == BYTES ? (byte) v : kind == CHARS ? (char) v : (short) v;
            return cells[i];
        }
    }

    /** What a hand holds and has laid open. */
    private static final class Hand {
        static final int FULL_SIZE = 14, WANTED = 4;

        final int[] held = new int[Sorts.ALL];
        final int[] laid = new int[Sorts.ALL];
        final int[] codes = new int[WANTED];
        int tilesHeld = 0;
        int groups = 0;

        int size() {
            return tilesHeld + 3 * groups;
        }

        boolean isFull() {
            return size() == FULL_SIZE;
        }

        boolean rests() {
            return size() == FULL_SIZE - 1;
        }

        void gain(int sort) {
            held[sort]++;
            tilesHeld++;
        }

        void lose(int sort) {
            held[sort]--;
            tilesHeld--;
        }

        boolean canLay(int kind, int sort) {
            if (groups >= WANTED) {
                return false;
            }
            if (kind == Groups.RUN) {
                return held[sort] > 0 && held[sort + 1] > 0 && held[sort + 2] > 0;
            }
            return held[sort] >= Groups.tilesAlike(kind);
        }

        void lay(int kind, int sort) {
            int tiles = kind == Groups.RUN ? 3 : Groups.tilesAlike(kind);
            for (int k = 0; k < tiles; k++) {
                int of = kind == Groups.RUN ? sort + k : sort;
                lose(of);
                laid[of]++;
            }
            codes[groups] = Groups.code(kind, sort);
            groups++;
        }

        int giveBack(int[] wall) {
            int given = Sorts.sum(held) + Sorts.sum(laid);
            for (int sort = 0; sort < Sorts.ALL; sort++) {
                wall[sort] += held[sort] + laid[sort];
            }
            Arrays.fill(held, 0);
            Arrays.fill(laid, 0);
            tilesHeld = 0;
            groups = 0;
            return given;
        }
    }

    /** Every way to take apart what a full hand holds, in order. */
    private static final class Ways {
        static final int GROUPS = 5, MOST = 8; // no hand has more than four ways

        private final int[] left = new int[Sorts.ALL];
        private final int[] path = new int[GROUPS];
        private final int[] codes = new int[GROUPS * MOST];
        private int wanted = 0;
        int size = 0;

        void find(Hand hand) {
            size = 0;
            wanted = Hand.WANTED - hand.groups;
            System.arraycopy(hand.held, 0, left, 0, Sorts.ALL);
            for (int k = 0; k < hand.groups; k++) {
                path[1 + wanted + k] = hand.codes[k];
            }
            for (int sort = 0; sort < Sorts.ALL; sort++) {
                if (left[sort] >= 2) {
                    left[sort] -= 2;
                    path[0] = Groups.code(Groups.PAIR, sort);
                    seek(this, 1, 0, -1);
                    left[sort] += 2;
                }
            }
        }

        /** A sort from which a run was taken is in no three after that: that way came ahead. */
        private static void seek(Ways ways, int depth, int from, int runFrom) {
            if (depth > ways.wanted) {
                ways.keepPath();
                return;
            }
            int[] left = ways.left;
            int sort = from;
            while (sort < Sorts.ALL && left[sort] == 0) {
                sort++;
            }
            if (sort >= Sorts.ALL) {
                return;
            }
            if (left[sort] >= 3 && sort != runFrom) {
                left[sort] -= 3;
                ways.path[depth] = Groups.code(Groups.THREE, sort);
                seek(ways, depth + 1, sort, runFrom);
                left[sort] += 3;
            }
            if (Sorts.startsRun(sort) && left[sort + 1] > 0 && left[sort + 2] > 0) {
                ways.shiftRun(sort, -1);
                ways.path[depth] = Groups.code(Groups.RUN, sort);
                seek(ways, depth + 1, sort, sort);
                ways.shiftRun(sort, 1);
            }
        }

        private void shiftRun(int sort, int by) {
            left[sort] += by;
            left[sort + 1] += by;
            left[sort + 2] += by;
        }

        private void keepPath() {
            if (size < MOST) {
                System.arraycopy(path, 0, codes, GROUPS * size, GROUPS);
                size++;
            }
        }

        int codeAt(int i, int k) {
            return codes[GROUPS * i + k];
        }

        /** The conditions that hold of the i-th way, a bit each; groups from place 1 + wanted on are open. */
        int conditionsOf(int i) {
            int runs = 0;
            int threes = 0;
            boolean twins = false;
            boolean outer = true;
            boolean oneRow = true;
            int pair = Groups.sortOf(codeAt(i, 0));
            for (int k = 0; k < GROUPS; k++) {
                int code = codeAt(i, k);
                int kind = Groups.kindOf(code);
                if (kind == Groups.RUN) {
                    runs++;
                    twins = twins || stoodAhead(i, k);
                }
                if (kind == Groups.THREE && k <= wanted) {
                    threes++;
                }
                outer = outer && Groups.hasOuter(code);
                oneRow = oneRow && Sorts.rowOf(Groups.sortOf(code)) == Sorts.rowOf(pair);
            }
            return Rules.bit(Rules.ALL_RUNS, runs == Hand.WANTED)
                | Rules.bit(Rules.NO_RUN, runs == 0)
                | Rules.bit(Rules.OUTER_PAIR, Sorts.isOuter(pair))
                | Rules.bit(Rules.OUTER_EACH, outer)
                | Rules.bit(Rules.ONE_ROW, oneRow)
                | Rules.bit(Rules.NONE_OPEN, wanted == Hand.WANTED)
                | Rules.bit(Rules.TWIN_RUNS, twins)
                | Rules.bit(Rules.THREE_THREES, threes >= 3);
        }

        private boolean stoodAhead(int i, int k) {
            for (int j = 1; j < k; j++) {
                if (codeAt(i, j) == codeAt(i, k)) {
                    return true;
                }
            }
            return false;
        }
    }

    /** The rules of worth; sets of conditions are bits of an int. */
    private static final class Rules {
        static final int ALL_RUNS = 0, NO_RUN = 1, OUTER_PAIR = 2, OUTER_EACH = 3, ONE_ROW = 4, NONE_OPEN = 5;
        static final int TWIN_RUNS = 6, THREE_THREES = 7, IS_SEVEN = 8, IS_OUTER = 9, CONDITIONS = 10;
        static final int MOST = 20, MOST_POINTS = 1000, NOTHING_OUT = -1;

        private final int[] conditions = new int[MOST];
        private final int[] points = new int[MOST];
        private final int[] outs = new int[MOST];
        int size = 0;

        static boolean isCondition(int condition) {
            return condition >= 0 && condition < CONDITIONS;
        }

        static int bit(int condition, boolean is) {
            return is ? 1 << condition : 0;
        }

        static boolean isIn(int condition, int set) {
            return (set >> condition & 1) == 1;
        }

        int add(int condition, int worth, int out) {
            conditions[size] = condition;
            points[size] = worth;
            outs[size] = out;
            size++;
            return size - 1;
        }

        int sumOf(int set) {
            int sum = 0;
            for (int i = 0; i < size; i++) {
                if (isIn(conditions[i], set) && !isPutOut(i, set)) {
                    sum += points[i];
                }
            }
            return sum;
        }

        private boolean isPutOut(int rule, int set) {
            for (int i = 0; i < size; i++) {
                if (i != rule && outs[i] == conditions[rule] && isIn(conditions[i], set)) {
                    return true;
                }
            }
            return false;
        }
    }

    /** Tells how a hand is done, and what that is worth. */
    private static final class Judge {
        static final int NOT_DONE = 0, BY_WAY = 1, BY_SEVEN = 2, BY_OUTER = 3;
        static final int SEVEN_SOURCE = 1000, OUTER_SOURCE = 1001;

        final Ways ways = new Ways();
        final Rules rules = new Rules();
        private final Others others;
        /** What weigh() found last. */
        int sum = 0;
        int source = 0;
        int conditions = 0;

        Judge(Others told) {
            others = told;
        }

        int howDone(Hand hand) {
            if (!hand.isFull()) {
                return NO;
            }
            ways.find(hand);
            if (ways.size > 0) {
                return BY_WAY;
            }
            if (isSeven(hand)) {
                return BY_SEVEN;
            }
            return isOuterOnes(hand) ? BY_OUTER : NOT_DONE;
        }

        /** Finds the greatest sum and where it comes from first; false: the hand is not done. */
        boolean weigh(Hand hand) {
            if (howDone(hand) <= NOT_DONE) {
                return false;
            }
            sum = -1;
            for (int i = 0; i < ways.size; i++) {
                consider(ways.conditionsOf(i), i);
            }
            if (isSeven(hand)) {
                consider(conditionsOfSeven(hand.held), SEVEN_SOURCE);
            }
            if (isOuterOnes(hand)) {
                consider(Rules.bit(Rules.OUTER_EACH, true) | Rules.bit(Rules.NONE_OPEN, true)
                    | Rules.bit(Rules.IS_OUTER, true), OUTER_SOURCE);
            }
            return true;
        }

        private void consider(int set, int from) {
            int worth = rules.sumOf(set);
            if (worth > sum) {
                sum = worth;
                source = from;
                conditions = set;
            }
        }

        private boolean isSeven(Hand hand) {
            return others.sevenCounts && hand.groups == 0 && Others.lackOfSeven(hand.held) == 0;
        }

        private boolean isOuterOnes(Hand hand) {
            return others.outerCounts && hand.groups == 0 && Others.lackOfOuter(hand.held) == 0;
        }

        private static int conditionsOfSeven(int[] held) {
            boolean outer = true;
            boolean oneRow = true;
            int row = -1;
            for (int sort = 0; sort < Sorts.ALL; sort++) {
                if (held[sort] > 0) {
                    outer = outer && Sorts.isOuter(sort);
                    oneRow = oneRow && (row < 0 || row == Sorts.rowOf(sort));
                    row = Sorts.rowOf(sort);
                }
            }
            return Rules.bit(Rules.OUTER_PAIR, outer)
                | Rules.bit(Rules.OUTER_EACH, outer)
                | Rules.bit(Rules.ONE_ROW, oneRow)
                | Rules.bit(Rules.NONE_OPEN, true)
                | Rules.bit(Rules.IS_SEVEN, true);
        }
    }

    /** The two other done hands, if they count: what a hand that has none open lacks of them, and what helps. */
    private static final class Others {
        static final int PAIRS = 7;

        boolean sevenCounts = false;
        boolean outerCounts = false;

        static int lackOfSeven(int[] held) {
            int pairs = 0;
            int unlike = 0;
            for (int n : held) {
                pairs += n >= 2 ? 1 : 0;
                unlike += n >= 1 ? 1 : 0;
            }
            return 2 * PAIRS - Math.min(pairs, PAIRS) - Math.min(unlike, PAIRS);
        }

        /** Sorts that make the lack of seven pairs less by one, a bit each. */
        static long helpersOfSeven(int[] held) {
            int unlike = 0;
            for (int n : held) {
                unlike += n >= 1 ? 1 : 0;
            }
            long helpers = 0;
            for (int sort = 0; sort < Sorts.ALL; sort++) {
                if (held[sort] == 1 || held[sort] == 0 && unlike < PAIRS) {
                    helpers |= 1L << sort;
                }
            }
            return helpers;
        }

        static int lackOfOuter(int[] held) {
            int unlike = 0;
            for (int sort = 0; sort < Sorts.ALL; sort++) {
                if (Sorts.isOuter(sort) && held[sort] > 0) {
                    unlike++;
                }
            }
            return Sorts.OUTER_ONES - unlike + (hasOuterPair(held) ? 0 : 1);
        }

        static long helpersOfOuter(int[] held) {
            int enough = hasOuterPair(held) ? 1 : 2;
            long helpers = 0;
            for (int sort = 0; sort < Sorts.ALL; sort++) {
                if (Sorts.isOuter(sort) && held[sort] < enough) {
                    helpers |= 1L << sort;
                }
            }
            return helpers;
        }

        private static boolean hasOuterPair(int[] held) {
            for (int sort = 0; sort < Sorts.ALL; sort++) {
                if (Sorts.isOuter(sort) && held[sort] >= 2) {
                    return true;
                }
            }
            return false;
        }
    }

    /**
     * The lack of a hand, and which sorts make it less. Each row is worked out by itself: for g groups and p pairs (a
     * lane, 2 g + p) the fewest tiles that are to come, and the sorts of those that may be among them. Then the lanes
     * of the rows are added up, those of one row last, so that this row may change and the sums of the others stand.
     * A lane's value is a number: the tiles above, a bit for each of the sorts below.
     */
    private static final class Lacks {
        static final int NO_LIMIT = 14;
        private static final int LANES = 10, SHAPES = 9, ROW_BITS = 9, SORT_BITS = 34;
        private static final long NOWHERE = 1L << 40, SORT_MASK = (1L << SORT_BITS) - 1;
        private static final int KEPT_BITS = 9, KEPT = 1 << KEPT_BITS;
        private static final long SPREADER = 0x9E3779B97F4A7C15L;
        private static final int UNREACHED = 99;

        private final Others others;
        final int[] held = new int[Sorts.ALL];
        private final int[] laid = new int[Sorts.ALL];
        private final long[] lanes = new long[Sorts.ROWS * LANES];
        private final long[] now = new long[SHAPES * LANES];
        private final long[] next = new long[SHAPES * LANES];
        private final long[] sums = new long[LANES];
        // Rows are asked for again and again, so that what was worked out is kept, by all that it hangs on.
        private final long[] keptKeys = new long[KEPT];
        private final long[] keptLanes = new long[KEPT * LANES];
        private int limit = NO_LIMIT;
        private int wanted = 0;
        /** The row that may change: it is not among the sums, and total() adds it. */
        private int changing = Sorts.LAST_ROW;
        /** What total() found last; a lack above the limit is not told. */
        int lack = 0;
        private long helpers = 0;

        Lacks(Others told) {
            others = told;
            Arrays.fill(keptKeys, -1L);
        }

        /** Takes a hand to work on, and its lack; lacks above the limit are of no interest. */
        void reckon(Hand hand, int most) {
            look(hand, most);
            for (int row = 0; row < Sorts.ROWS; row++) {
                workOut(row);
            }
            addAllBut(Sorts.LAST_ROW);
            total();
        }

        /** One tile more or less of a sort; total() tells the lack then. */
        void change(int sort, int by) {
            int row = Sorts.rowOf(sort);
            held[sort] += by;
            workOut(row);
            if (row != changing) {
                addAllBut(row);
            }
        }

        int ofRow(Hand hand, int row, int g, int p) {
            look(hand, NO_LIMIT);
            workOut(row);
            long value = lanes[row * LANES + 2 * g + p];
            return value == NOWHERE ? NONE : tilesOf(value);
        }

        private void look(Hand hand, int most) {
            System.arraycopy(hand.held, 0, held, 0, Sorts.ALL);
            System.arraycopy(hand.laid, 0, laid, 0, Sorts.ALL);
            wanted = Hand.WANTED - hand.groups;
            limit = most;
        }

        /** Adds the row that may change to the others, and takes the other hands that count into account. */
        void total() {
            long found = leastWith(changing, 2 * wanted + 1);
            lack = UNREACHED;
            helpers = 0;
            if (found != NOWHERE) {
                offer(tilesOf(found), found & SORT_MASK);
            }
            boolean noneOpen = wanted == Hand.WANTED;
            if (noneOpen && others.sevenCounts) {
                offer(Others.lackOfSeven(held), Others.helpersOfSeven(held));
            }
            if (noneOpen && others.outerCounts) {
                offer(Others.lackOfOuter(held), Others.helpersOfOuter(held));
            }
        }

        /** The i-th sort that makes the lack less. */
        int helper(int i) {
            int left = i;
            for (int sort = 0; sort < Sorts.ALL; sort++) {
                if (isHelper(sort)) {
                    if (left == 0) {
                        return sort;
                    }
                    left--;
                }
            }
            return NONE;
        }

        int helpingOf(int[] counts) {
            int sum = 0;
            for (int sort = 0; sort < Sorts.ALL; sort++) {
                if (isHelper(sort)) {
                    sum += counts[sort];
                }
            }
            return sum;
        }

        private boolean isHelper(int sort) {
            return (helpers >> sort & 1) == 1;
        }

        private void offer(int tiles, long sorts) {
            if (tiles < lack) {
                lack = tiles;
                helpers = sorts;
            } else if (tiles == lack) {
                helpers |= sorts;
            }
        }

        private static int tilesOf(long value) {
            return (int) (value >> SORT_BITS);
        }

        /** The one with fewer tiles; of values alike in tiles the sorts of both may be among these. */
        private long less(long one, long other) {
            long more = (other >> SORT_BITS) - (one >> SORT_BITS);
            if (more > 0 || other >> SORT_BITS > limit) {
                return one;
            }
            return more < 0 ? other : one | other;
        }

        private void addAllBut(int changingRow) {
            changing = changingRow;
            Arrays.fill(sums, NOWHERE);
            sums[0] = 0;
            for (int row = 0; row < Sorts.ROWS; row++) {
                if (row != changingRow) {
                    addRow(row);
                }
            }
        }

        /** Goes from the highest lane down, as each is made of itself and of lower ones. */
        private void addRow(int row) {
            for (int to = 2 * wanted + 1; to > 0; to--) {
                sums[to] = leastWith(row, to);
            }
        }

        /** What a lane of the sums becomes with a row added; its lane 0 adds nothing. */
        private long leastWith(int row, int to) {
            long least = sums[to];
            for (int lane = 1; lane <= to; lane++) {
                long value = lanes[row * LANES + lane];
                boolean twoPairs = (to - lane & lane & 1) == 1;
                if (value != NOWHERE && !twoPairs) {
                    long sorts = (value & SORT_MASK) << ROW_BITS * row;
                    least = less(least, sums[to - lane] + (value & ~SORT_MASK) + sorts);
                }
            }
            return least;
        }

        private void workOut(int row) {
            long key = keyOf(row);
            int at = (int) (key * SPREADER >>> 64 - KEPT_BITS);
            if (keptKeys[at] != key) {
                goThrough(row);
                keptKeys[at] = key;
                System.arraycopy(now, 0, keptLanes, at * LANES, LANES);
            }
            System.arraycopy(keptLanes, at * LANES, lanes, row * LANES, LANES);
        }

        /** A key of the last row has two places less, so that it is none of another row. */
        private long keyOf(int row) {
            long key = limit;
            for (int i = 0; i < Sorts.lengthOf(row); i++) {
                int sort = row * Sorts.ROW_LENGTH + i;
                key = key * 25 + held[sort] * 5 + laid[sort];
            }
            return key;
        }

        /**
         * Goes through a row sort by sort. A shape, 3 a + b, tells how many runs began at the sort before and at the
         * one before that; more than two alike are as good as threes, so that 2 is the most.
         */
        private void goThrough(int row) {
            Arrays.fill(now, NOWHERE);
            now[0] = 0;
            for (int i = 0; i < Sorts.lengthOf(row); i++) {
                Arrays.fill(next, NOWHERE);
                int sort = row * Sorts.ROW_LENGTH + i;
                for (int at = 0; at < SHAPES * LANES; at++) {
                    if (now[at] != NOWHERE) {
                        spread(at / LANES, at % LANES, now[at], sort);
                    }
                }
                System.arraycopy(next, 0, now, 0, SHAPES * LANES);
            }
        }

        /** Goes on from a lane by every use of a sort: runs from it, and a pair (1), a three (2) or neither (0). */
        private void spread(int shape, int lane, long value, int sort) {
            int begun = shape / 3 + shape % 3;
            int room = Sorts.OF_EACH - laid[sort];
            int mostRuns = Sorts.startsRun(sort) ? 2 : 0;
            for (int runs = 0; runs <= mostRuns; runs++) {
                for (int extra = 0; extra <= 2; extra++) {
                    int use = begun + runs + (extra == 0 ? 0 : extra + 1);
                    int to = lane + 2 * runs + extra;
                    boolean twoPairs = (lane & extra & 1) == 1;
                    if (use <= room && to < LANES && !twoPairs) {
                        int come = Math.max(0, use - held[sort]);
                        long bit = come > 0 ? 1L << sort % Sorts.ROW_LENGTH : 0;
                        int at = (3 * runs + shape / 3) * LANES + to;
                        next[at] = less(next[at], value + ((long) come << SORT_BITS) | bit);
                    }
                }
            }
        }
    }

    /** Whether two hands hold the same but for the order and the turn of their rows. */
    private static final class Shapes {
        static boolean same(int[] held, int[] other) {
            int a = rowKey(held, 0);
            int b = rowKey(held, 1);
            int c = rowKey(held, 2);
            int d = rowKey(other, 0);
            int e = rowKey(other, 1);
            int f = rowKey(other, 2);
            // Three numbers are the same in some order when their least, their greatest and their sum are.
            return Math.min(a, Math.min(b, c)) == Math.min(d, Math.min(e, f))
                && Math.max(a, Math.max(b, c)) == Math.max(d, Math.max(e, f))
                && a + b + c == d + e + f
                && lastRowKey(held) == lastRowKey(other);
        }

        /** The same for a row and for that row turned end for end. */
        private static int rowKey(int[] held, int row) {
            int forth = 0;
            int back = 0;
            int first = row * Sorts.ROW_LENGTH;
            for (int i = 0; i < Sorts.ROW_LENGTH; i++) {
                forth = forth * 5 + held[first + i];
                back = back * 5 + held[first + Sorts.ROW_LENGTH - 1 - i];
            }
            return Math.max(forth, back);
        }

        /** How many sorts there are none of, one of, and so on: a digit each. */
        private static int lastRowKey(int[] held) {
            int key = 0;
            for (int i = 0; i < Sorts.LAST_ROW_LENGTH; i++) {
                key += 1 << 3 * held[Sorts.LAST_ROW * Sorts.ROW_LENGTH + i];
            }
            return key;
        }
    }
}
