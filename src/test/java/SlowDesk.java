import java.util.ArrayList;
import java.util.Arrays;
import java.util.HashMap;
import java.util.List;
import java.util.Map;
import java.util.TreeSet;

/**
 * The document once more, word by word and without regard to speed: what TileDesk answers is compared with this.
 * It shares no code and no way of reckoning with TileDesk: rows are looked up in a list of all that may be wanted.
 */
final class SlowDesk {
    static final int BAD = -1, NO = -2, NONE = -3, FULL = -4;
    private static final Map<String, int[]> ROWS = new HashMap<>();
    private static final List<List<int[]>> SUITED = wantedOfRow(true);
    private static final List<List<int[]>> LAST = wantedOfRow(false);

    private static final class Hand {
        List<Integer> held = new ArrayList<>();
        List<Integer> laid = new ArrayList<>();
        List<Integer> codes = new ArrayList<>();

        int size() {
            return held.size() + 3 * codes.size();
        }

        Hand changed(int less, int more) {
            Hand other = new Hand();
            other.held.addAll(held);
            other.laid.addAll(laid);
            other.codes.addAll(codes);
            if (less >= 0) {
                other.held.remove((Integer) less);
            }
            if (more >= 0) {
                other.held.add(more);
            }
            return other;
        }

        int holds(int sort) {
            return times(held, sort);
        }
    }

    private final int[][] racks = new int[6][];
    private final int[] kinds = {-1, -1, -1, -1, -1, -1};
    private final Hand[] hands = {new Hand(), new Hand(), new Hand(), new Hand()};
    private List<Integer> wall = allTiles();
    private final List<Integer> thrown = new ArrayList<>();
    private final boolean[] counts = new boolean[2];
    private final List<int[]> rules = new ArrayList<>();
    private long seed = 1;

    private static List<Integer> allTiles() {
        List<Integer> all = new ArrayList<>();
        for (int t = 0; t < 136; t++) {
            all.add(t / 4);
        }
        return all;
    }

    private static int times(List<Integer> list, int sort) {
        int n = 0;
        for (int s : list) {
            n += s == sort ? 1 : 0;
        }
        return n;
    }

    // ---- racks

    int rack(int r, int kind, int n) {
        if (r < 0 || r > 5 || kind < -1 || kind > 2) {
            return BAD;
        }
        if (kind == -1) {
            racks[r] = null;
            kinds[r] = -1;
            return 0;
        }
        if (n < 0) {
            return -13;
        }
        if (n > 40) {
            return FULL;
        }
        racks[r] = new int[n];
        kinds[r] = kind;
        return 0;
    }

    int place(int r, int i, int v) {
        int now = told(r, i);
        if (now <= -100000) {
            return now;
        }
        int low = v & (kinds[r] == 0 ? 255 : 65535);
        if (kinds[r] == 0 && low > 127) {
            low -= 256;
        }
        if (kinds[r] == 2 && low > 32767) {
            low -= 65536;
        }
        racks[r][i] = low;
        return low;
    }

    int told(int r, int i) {
        if (r < 0 || r > 5) {
            return -100000;
        }
        if (racks[r] == null) {
            return -100011;
        }
        if (i < 0 || i >= racks[r].length) {
            return -100012;
        }
        return racks[r][i];
    }

    int copy(int r, int i, int t, int j, int n) {
        if (r < 0 || r > 5 || t < 0 || t > 5) {
            return BAD;
        }
        if (racks[r] == null || racks[t] == null) {
            return -11;
        }
        if (kinds[r] != kinds[t]) {
            return -14;
        }
        if (n < 0 || i < 0 || j < 0 || (long) i + n > racks[r].length || (long) j + n > racks[t].length) {
            return -12;
        }
        int[] before = racks[r].clone();
        for (int k = 0; k < n; k++) {
            racks[t][j + k] = before[i + k];
        }
        return 0;
    }

    int read(int h, int r, int i, int n) {
        if (h < 0 || h > 3 || r < 0 || r > 5) {
            return BAD;
        }
        if (racks[r] == null) {
            return -11;
        }
        if (n < 0) {
            return -13;
        }
        if (i < 0 || (long) i + n > racks[r].length) {
            return -12;
        }
        if (hands[h].size() + n > 14) {
            return -17;
        }
        List<Integer> left = new ArrayList<>(wall);
        List<Integer> come = new ArrayList<>();
        for (int k = i; k < i + n; k++) {
            int sort = racks[r][k];
            if (sort < 0 || sort > 33) {
                return -15;
            }
            if (!left.remove((Integer) sort)) {
                return -16;
            }
            come.add(sort);
        }
        wall = left;
        hands[h].held.addAll(come);
        return hands[h].size();
    }

    // ---- tiles

    int take(int h, int sort) {
        if (h < 0 || h > 3 || sort < 0 || sort > 33) {
            return BAD;
        }
        if (hands[h].size() == 14) {
            return NO;
        }
        if (!wall.remove((Integer) sort)) {
            return -16;
        }
        hands[h].held.add(sort);
        return hands[h].size();
    }

    int seed(int v) {
        if (v < 0) {
            return BAD;
        }
        seed = v;
        return 0;
    }

    int draw(int h) {
        if (h < 0 || h > 3) {
            return BAD;
        }
        if (hands[h].size() == 14) {
            return NO;
        }
        if (wall.isEmpty()) {
            return NONE;
        }
        seed = (seed * 48271 + 11) % 2147483648L;
        wall.sort(null);
        int sort = wall.remove((int) (seed / 64 % wall.size()));
        hands[h].held.add(sort);
        return sort;
    }

    int deal(int v) {
        if (v < 0) {
            return BAD;
        }
        wall = allTiles();
        thrown.clear();
        seed = v;
        for (int h = 0; h < 4; h++) {
            hands[h] = new Hand();
            for (int n = 0; n < 13; n++) {
                draw(h);
            }
        }
        return 0;
    }

    int discard(int h, int sort) {
        if (h < 0 || h > 3 || sort < 0 || sort > 33) {
            return BAD;
        }
        if (!hands[h].held.remove((Integer) sort)) {
            return NO;
        }
        thrown.add(sort);
        return hands[h].size();
    }

    int open(int h, int kind, int sort) {
        if (h < 0 || h > 3 || sort < 0 || sort > 33 || kind < 1 || kind > 3
                || kind == 1 && (sort > 26 || sort % 9 > 6)) {
            return BAD;
        }
        List<Integer> want = tilesOf(100 * kind + sort);
        List<Integer> left = new ArrayList<>(hands[h].held);
        for (Integer tile : want) {
            if (!left.remove(tile)) {
                return NO;
            }
        }
        hands[h].held = left;
        hands[h].laid.addAll(want);
        hands[h].codes.add(100 * kind + sort);
        return hands[h].codes.size();
    }

    private static List<Integer> tilesOf(int code) {
        int sort = code % 100;
        switch (code / 100) {
            case 0: return List.of(sort, sort);
            case 1: return List.of(sort, sort + 1, sort + 2);
            case 2: return List.of(sort, sort, sort);
            default: return List.of(sort, sort, sort, sort);
        }
    }

    int clear(int h) {
        if (h < 0 || h > 3) {
            return BAD;
        }
        int n = hands[h].held.size() + hands[h].laid.size();
        wall.addAll(hands[h].held);
        wall.addAll(hands[h].laid);
        hands[h] = new Hand();
        return n;
    }

    int tiles(int sort, int place) {
        if (sort < 0 || sort > 33 || place < 0 || place > 9) {
            return BAD;
        }
        if (place == 0) {
            return times(wall, sort);
        }
        if (place == 1) {
            return times(thrown, sort);
        }
        return place < 6 ? hands[place - 2].holds(sort) : times(hands[place - 6].laid, sort);
    }

    int about(int h, int what) {
        if (h < 0 || h > 3 || what < 0 || what > 6) {
            return BAD;
        }
        Hand hand = hands[h];
        switch (what) {
            case 0: return hand.size();
            case 1: return hand.held.size();
            case 2: return hand.codes.size();
            default: return what - 3 < hand.codes.size() ? hand.codes.get(what - 3) : NONE;
        }
    }

    // ---- hands

    int count(int what, boolean is) {
        if (what < 0 || what > 1) {
            return BAD;
        }
        int was = counts[what] ? 1 : 0;
        counts[what] = is;
        return was;
    }

    int done(int h) {
        if (h < 0 || h > 3) {
            return BAD;
        }
        return hands[h].size() == 14 ? doneOf(hands[h]) : NO;
    }

    private int doneOf(Hand hand) {
        if (!waysOf(hand).isEmpty()) {
            return 1;
        }
        if (isSeven(hand)) {
            return 2;
        }
        return isOuterOnes(hand) ? 3 : 0;
    }

    private boolean isSeven(Hand hand) {
        if (!counts[0] || !hand.codes.isEmpty()) {
            return false;
        }
        for (int sort : hand.held) {
            if (hand.holds(sort) != 2) {
                return false;
            }
        }
        return hand.held.size() == 14;
    }

    private boolean isOuterOnes(Hand hand) {
        if (!counts[1] || !hand.codes.isEmpty() || hand.held.size() != 14) {
            return false;
        }
        for (int sort : hand.held) {
            if (!isOuter(sort)) {
                return false;
            }
        }
        return new TreeSet<>(hand.held).size() == 13;
    }

    private static boolean isOuter(int sort) {
        return List.of(0, 8, 9, 17, 18, 26, 27, 28, 29, 30, 31, 32, 33).contains(sort);
    }

    /** Each way as a row of codes; found in any order, then put in the order of the document. */
    private List<List<Integer>> waysOf(Hand hand) {
        TreeSet<List<Integer>> found = new TreeSet<>(SlowDesk::orderOfWays);
        for (int pair = 0; pair < 34; pair++) {
            if (hand.holds(pair) >= 2) {
                List<Integer> left = new ArrayList<>(hand.held);
                left.remove((Integer) pair);
                left.remove((Integer) pair);
                takeApart(left, new ArrayList<>(), pair, found);
            }
        }
        List<List<Integer>> ways = new ArrayList<>();
        for (List<Integer> way : found) {
            List<Integer> whole = new ArrayList<>(way);
            whole.addAll(hand.codes);
            ways.add(whole);
        }
        return ways;
    }

    private static void takeApart(List<Integer> left, List<Integer> groups, int pair, TreeSet<List<Integer>> found) {
        if (left.isEmpty()) {
            List<Integer> way = new ArrayList<>(groups);
            way.sort((a, b) -> orderOfGroup(a) - orderOfGroup(b));
            way.add(0, pair);
            found.add(way);
            return;
        }
        int any = left.get(left.size() / 2);
        for (int code : groupsWith(any)) {
            List<Integer> less = new ArrayList<>(left);
            boolean all = true;
            for (Integer tile : tilesOf(code)) {
                all = all && less.remove(tile);
            }
            if (all) {
                List<Integer> more = new ArrayList<>(groups);
                more.add(code);
                takeApart(less, more, pair, found);
            }
        }
    }

    private static List<Integer> groupsWith(int tile) {
        List<Integer> codes = new ArrayList<>();
        codes.add(200 + tile);
        for (int from = Math.max(0, tile - 2); from <= tile; from++) {
            if (from <= 26 && from / 9 == tile / 9 && from % 9 <= 6) {
                codes.add(100 + from);
            }
        }
        return codes;
    }

    private static int orderOfGroup(int code) {
        return code % 100 * 10 - code / 100;
    }

    private static int orderOfWays(List<Integer> a, List<Integer> b) {
        if (!a.get(0).equals(b.get(0))) {
            return a.get(0) - b.get(0);
        }
        for (int k = 1; k < a.size(); k++) {
            if (!a.get(k).equals(b.get(k))) {
                return orderOfGroup(a.get(k)) - orderOfGroup(b.get(k));
            }
        }
        return 0;
    }

    int ways(int h) {
        if (h < 0 || h > 3) {
            return BAD;
        }
        return hands[h].size() == 14 ? waysOf(hands[h]).size() : NO;
    }

    int way(int h, int i, int k) {
        if (h < 0 || h > 3 || k < 0 || k > 4) {
            return BAD;
        }
        if (hands[h].size() != 14) {
            return NO;
        }
        List<List<Integer>> ways = waysOf(hands[h]);
        return i < 0 || i >= ways.size() ? NONE : ways.get(i).get(k);
    }

    /** All that g groups and p pairs of one row may be, at place 2 g + p. */
    private static List<List<int[]>> wantedOfRow(boolean suited) {
        List<List<int[]>> wanted = new ArrayList<>();
        List<Map<String, int[]>> found = new ArrayList<>();
        for (int lane = 0; lane < 10; lane++) {
            found.add(new HashMap<>());
        }
        collect(suited, new int[9], 0, 0, found);
        for (Map<String, int[]> some : found) {
            wanted.add(new ArrayList<>(some.values()));
        }
        return wanted;
    }

    private static void collect(boolean suited, int[] row, int from, int groups, List<Map<String, int[]>> found) {
        int length = suited ? 9 : 7;
        found.get(2 * groups).putIfAbsent(Arrays.toString(row), row.clone());
        for (int pair = 0; pair < length; pair++) {
            int[] more = row.clone();
            more[pair] += 2;
            if (more[pair] <= 4) {
                found.get(2 * groups + 1).putIfAbsent(Arrays.toString(more), more);
            }
        }
        for (int group = from; groups < 4 && group < 2 * length; group++) {
            int sort = group / 2;
            int[] more = row.clone();
            if (group % 2 == 0) {
                more[sort] += 3;
            } else if (suited && sort <= 6) {
                more[sort]++;
                more[sort + 1]++;
                more[sort + 2]++;
            } else {
                continue;
            }
            if (Arrays.stream(more).max().getAsInt() <= 4) {
                collect(suited, more, group, groups + 1, found);
            }
        }
    }

    private static int[] lackOfRow(Hand hand, int row) {
        int[] held = new int[9];
        int[] laid = new int[9];
        for (int i = 0; i < (row < 3 ? 9 : 7); i++) {
            held[i] = hand.holds(9 * row + i);
            laid[i] = times(hand.laid, 9 * row + i);
        }
        String key = (row < 3) + Arrays.toString(held) + Arrays.toString(laid);
        return ROWS.computeIfAbsent(key, k -> lackOfCounts(held, laid, row < 3 ? SUITED : LAST));
    }

    private static int[] lackOfCounts(int[] held, int[] laid, List<List<int[]>> wanted) {
        int[] least = new int[10];
        for (int lane = 0; lane < 10; lane++) {
            least[lane] = 99;
            for (int[] want : wanted.get(lane)) {
                int come = 0;
                for (int i = 0; i < 9; i++) {
                    come += want[i] + laid[i] > 4 ? 99 : Math.max(0, want[i] - held[i]);
                }
                least[lane] = Math.min(least[lane], come);
            }
        }
        return least;
    }

    private int lackOf(Hand hand) {
        int least = 99;
        int groups = 4 - hand.codes.size();
        int[][] rows = {lackOfRow(hand, 0), lackOfRow(hand, 1), lackOfRow(hand, 2), lackOfRow(hand, 3)};
        for (int pairIn = 0; pairIn < 4; pairIn++) {
            for (int a = 0; a <= groups; a++) {
                for (int b = 0; a + b <= groups; b++) {
                    for (int c = 0; a + b + c <= groups; c++) {
                        int[] each = {a, b, c, groups - a - b - c};
                        int come = 0;
                        for (int row = 0; row < 4; row++) {
                            come += rows[row][2 * each[row] + (row == pairIn ? 1 : 0)];
                        }
                        least = Math.min(least, come);
                    }
                }
            }
        }
        if (hand.codes.isEmpty() && counts[0]) {
            least = Math.min(least, lackOfPairs(hand));
        }
        if (hand.codes.isEmpty() && counts[1]) {
            for (int twice = 0; twice < 34; twice++) {
                if (isOuter(twice)) {
                    int come = hand.holds(twice) >= 2 ? 0 : 1;
                    for (int sort = 0; sort < 34; sort++) {
                        come += isOuter(sort) && hand.holds(sort) == 0 ? 1 : 0;
                    }
                    least = Math.min(least, come);
                }
            }
        }
        return least;
    }

    /** The seven sorts of which it holds most, two at most. */
    private static int lackOfPairs(Hand hand) {
        List<Integer> kept = new ArrayList<>();
        for (int sort = 0; sort < 34; sort++) {
            kept.add(-Math.min(2, hand.holds(sort)));
        }
        kept.sort(null);
        int come = 14;
        for (int n : kept.subList(0, 7)) {
            come += n;
        }
        return come;
    }

    private int distanceOf(Hand hand) {
        if (hand.size() == 13) {
            return lackOf(hand) - 1;
        }
        int least = 99;
        for (int sort : new TreeSet<>(hand.held)) {
            least = Math.min(least, distanceOf(hand.changed(sort, -1)));
        }
        return least;
    }

    int distance(int h) {
        if (h < 0 || h > 3) {
            return BAD;
        }
        return hands[h].size() < 13 ? NO : distanceOf(hands[h]);
    }

    private List<Integer> waitsOf(Hand hand) {
        List<Integer> sorts = new ArrayList<>();
        for (int sort = 0; sort < 34; sort++) {
            if (hand.holds(sort) + times(hand.laid, sort) < 4 && doneOf(hand.changed(-1, sort)) > 0) {
                sorts.add(sort);
            }
        }
        return sorts;
    }

    private List<Integer> helpsOf(Hand hand) {
        int distance = distanceOf(hand);
        if (distance == 0) {
            return waitsOf(hand);
        }
        List<Integer> sorts = new ArrayList<>();
        for (int sort = 0; sort < 34; sort++) {
            if (hand.holds(sort) + times(hand.laid, sort) < 4
                    && distanceOf(hand.changed(-1, sort)) == distance - 1) {
                sorts.add(sort);
            }
        }
        return sorts;
    }

    private int pick(int h, int i, boolean onlyWaits) {
        if (h < 0 || h > 3 || i < 0) {
            return BAD;
        }
        if (hands[h].size() != 13) {
            return NO;
        }
        List<Integer> sorts = onlyWaits ? waitsOf(hands[h]) : helpsOf(hands[h]);
        return i < sorts.size() ? sorts.get(i) : NONE;
    }

    int waits(int h, int i) {
        return pick(h, i, true);
    }

    int helps(int h, int i) {
        return pick(h, i, false);
    }

    int without(int h, int sort) {
        if (h < 0 || h > 3 || sort < 0 || sort > 33) {
            return BAD;
        }
        if (hands[h].size() != 14 || hands[h].holds(sort) == 0) {
            return NO;
        }
        return distanceOf(hands[h].changed(sort, -1));
    }

    private int notSeen(int h, int sort) {
        int seen = hands[h].holds(sort) + times(thrown, sort);
        for (Hand hand : hands) {
            seen += times(hand.laid, sort);
        }
        return 4 - seen;
    }

    int more(int h, int sort) {
        int distance = without(h, sort);
        if (distance < 0) {
            return distance;
        }
        int n = 0;
        for (int helping : helpsOf(hands[h].changed(sort, -1))) {
            n += notSeen(h, helping);
        }
        return n;
    }

    int best(int h) {
        if (h < 0 || h > 3) {
            return BAD;
        }
        if (hands[h].size() != 14) {
            return NO;
        }
        int best = -1;
        for (int sort : new TreeSet<>(hands[h].held)) {
            if (best < 0 || without(h, sort) < without(h, best)
                    || without(h, sort) == without(h, best) && more(h, sort) > more(h, best)) {
                best = sort;
            }
        }
        return best;
    }

    int lack(int h, int row, int g, int p) {
        if (h < 0 || h > 3 || row < 0 || row > 3 || g < 0 || g > 4 || p < 0 || p > 1) {
            return BAD;
        }
        int come = lackOfRow(hands[h], row)[2 * g + p];
        return come >= 99 ? NONE : come;
    }

    int odds(int h, int d) {
        if (h < 0 || h > 3 || d < 1 || d > 2) {
            return BAD;
        }
        if (hands[h].size() != 13) {
            return NO;
        }
        if (d == 1) {
            return comingOf(h, hands[h], -1);
        }
        int rows = 0;
        for (int first = 0; first < 34; first++) {
            if (notSeen(h, first) > 0) {
                Hand full = hands[h].changed(-1, first);
                int second = 0;
                if (doneOf(full) > 0) {
                    second = unseen(h) - 1;
                } else {
                    for (int out : new TreeSet<>(full.held)) {
                        second = Math.max(second, comingOf(h, full.changed(out, -1), first));
                    }
                }
                rows += notSeen(h, first) * second;
            }
        }
        return rows;
    }

    /** How many of the tiles not seen make it done, when one of the sort come has come ahead. */
    private int comingOf(int h, Hand hand, int come) {
        int n = 0;
        for (int sort = 0; sort < 34; sort++) {
            int left = notSeen(h, sort) - (sort == come ? 1 : 0);
            if (left > 0 && doneOf(hand.changed(-1, sort)) > 0) {
                n += left;
            }
        }
        return n;
    }

    int unseen(int h) {
        if (h < 0 || h > 3) {
            return BAD;
        }
        int n = 0;
        for (int sort = 0; sort < 34; sort++) {
            n += notSeen(h, sort);
        }
        return n;
    }

    int alike(int h, int g) {
        if (h < 0 || h > 3 || g < 0 || g > 3) {
            return BAD;
        }
        int[][] orders = {{0, 1, 2}, {0, 2, 1}, {1, 0, 2}, {1, 2, 0}, {2, 0, 1}, {2, 1, 0}};
        int[] lastOne = new int[7];
        int[] lastOther = new int[7];
        for (int i = 0; i < 7; i++) {
            lastOne[i] = hands[h].holds(27 + i);
            lastOther[i] = hands[g].holds(27 + i);
        }
        Arrays.sort(lastOne);
        Arrays.sort(lastOther);
        if (!Arrays.equals(lastOne, lastOther)) {
            return 0;
        }
        for (int[] order : orders) {
            for (int turned = 0; turned < 8; turned++) {
                boolean same = true;
                for (int sort = 0; sort < 27; sort++) {
                    int at = (turned >> sort / 9 & 1) == 1 ? 8 - sort % 9 : sort % 9;
                    same = same && hands[h].holds(9 * order[sort / 9] + at) == hands[g].holds(sort);
                }
                if (same) {
                    return 1;
                }
            }
        }
        return 0;
    }

    // ---- worth

    int rule(int condition, int points, int out) {
        if (condition < 0 || condition > 9 || points < 0 || points > 1000 || out < -1 || out > 9) {
            return BAD;
        }
        if (rules.size() == 20) {
            return FULL;
        }
        rules.add(new int[] {condition, points, out});
        return rules.size() - 1;
    }

    int clearRules() {
        int n = rules.size();
        rules.clear();
        return n;
    }

    /** What a hand is worth by each source: the sources, and the sets of the conditions that hold. */
    private Map<Integer, TreeSet<Integer>> sourcesOf(Hand hand) {
        Map<Integer, TreeSet<Integer>> sources = new java.util.TreeMap<>();
        if (hand.size() != 14) {
            return sources;
        }
        List<List<Integer>> ways = waysOf(hand);
        for (int i = 0; i < ways.size(); i++) {
            sources.put(i, conditionsOf(ways.get(i), hand));
        }
        if (isSeven(hand)) {
            TreeSet<Integer> hold = new TreeSet<>(List.of(5, 8));
            if (hand.held.stream().allMatch(SlowDesk::isOuter)) {
                hold.addAll(List.of(2, 3));
            }
            if (hand.held.stream().allMatch(s -> s / 9 == hand.held.get(0) / 9)) {
                hold.add(4);
            }
            sources.put(1000, hold);
        }
        if (isOuterOnes(hand)) {
            sources.put(1001, new TreeSet<>(List.of(3, 5, 9)));
        }
        return sources;
    }

    private static TreeSet<Integer> conditionsOf(List<Integer> way, Hand hand) {
        TreeSet<Integer> hold = new TreeSet<>();
        List<Integer> groups = way.subList(1, 5);
        List<Integer> runs = new ArrayList<>(groups);
        runs.removeIf(code -> code / 100 != 1);
        List<Integer> closed = new ArrayList<>(groups.subList(0, 4 - hand.codes.size()));
        closed.removeIf(code -> code / 100 != 2);
        if (runs.size() == 4) {
            hold.add(0);
        }
        if (runs.isEmpty()) {
            hold.add(1);
        }
        if (isOuter(way.get(0))) {
            hold.add(2);
        }
        if (way.stream().allMatch(code -> tilesOf(code).stream().anyMatch(SlowDesk::isOuter))) {
            hold.add(3);
        }
        if (way.stream().allMatch(code -> tilesOf(code).stream().allMatch(s -> s / 9 == way.get(0) / 9))) {
            hold.add(4);
        }
        if (hand.codes.isEmpty()) {
            hold.add(5);
        }
        if (new TreeSet<>(runs).size() < runs.size()) {
            hold.add(6);
        }
        if (closed.size() >= 3) {
            hold.add(7);
        }
        return hold;
    }

    private int sumOf(TreeSet<Integer> hold) {
        int sum = 0;
        for (int[] rule : rules) {
            boolean out = !hold.contains(rule[0]);
            for (int[] other : rules) {
                out = out || other != rule && hold.contains(other[0]) && other[2] == rule[0];
            }
            sum += out ? 0 : rule[1];
        }
        return sum;
    }

    private int sourceOf(Hand hand) {
        int best = NO;
        int most = -1;
        for (Map.Entry<Integer, TreeSet<Integer>> source : sourcesOf(hand).entrySet()) {
            if (sumOf(source.getValue()) > most) {
                most = sumOf(source.getValue());
                best = source.getKey();
            }
        }
        return best;
    }

    int worth(int h) {
        int by = by(h);
        return by < 0 ? by : sumOf(sourcesOf(hands[h]).get(by));
    }

    int by(int h) {
        return h < 0 || h > 3 ? BAD : sourceOf(hands[h]);
    }

    int holds(int h, int condition) {
        if (h < 0 || h > 3 || condition < 0 || condition > 9) {
            return BAD;
        }
        int by = by(h);
        return by < 0 ? by : sourcesOf(hands[h]).get(by).contains(condition) ? 1 : 0;
    }
}
