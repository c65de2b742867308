/** Promises 16 to 29. */
public final class HandsTest {
    private static final Due due = new Due("HandsTest");
    private static final int BAD = Due.BAD, NO = Due.NO, NONE = Due.NONE;
    private static final int SEVEN = 0, OUTER = 1;
    /** A hand of thirteen that waits for sort 33 alone, and nothing else in it is near. */
    private static final int[] WAITS_FOR_33 = {0, 0, 0, 9, 9, 9, 18, 18, 18, 27, 27, 27, 33};
    private static final int[] SIX_PAIRS_AND_33 = {1, 1, 4, 4, 7, 7, 10, 10, 13, 13, 16, 16, 33};
    private static final int[] THIRTEEN_OUTER = {0, 8, 9, 17, 18, 26, 27, 28, 29, 30, 31, 32, 33};
    private static final int[] NINE_GATES = {0, 0, 0, 1, 2, 3, 4, 5, 6, 7, 8, 8, 8};
    private static final int[] NOTHING_NEAR = {1, 4, 7, 10, 13, 16, 19, 22, 25, 27, 28, 29, 30};

    public static void main(String[] args) {
        promise16();
        promise17();
        promise17Others();
        promise18();
        promise19();
        promise20();
        promise20OfFour();
        promise21();
        promise22();
        promise23();
        promise24();
        promise25();
        promise26();
        promise26None();
        promise26OfRowsOneAfterTheOther();
        promise27();
        promise27OfTwo();
        promise28();
        promise29();
        noSuchHand();
        due.end();
    }

    private static TileDesk with(int[] sorts, int... more) {
        TileDesk desk = Due.holding(sorts);
        Due.hold(desk, 0, more);
        return desk;
    }

    private static TileDesk laid(int... codes) {
        TileDesk desk = new TileDesk();
        for (int code : codes) {
            Due.lay(desk, 0, code);
        }
        return desk;
    }

    private static void promise16() {
        TileDesk desk = new TileDesk();
        for (int what = SEVEN; what <= OUTER; what++) {
            due.is("count at first", desk.count(what, false), 0);
            due.is("count on", desk.count(what, true), 0);
            due.is("count on again", desk.count(what, true), 1);
            due.is("count off", desk.count(what, false), 1);
            due.is("count off again", desk.count(what, false), 0);
        }
        desk.count(SEVEN, true);
        due.is("each by itself", desk.count(OUTER, false), 0);
        due.is("count 2", desk.count(2, true), BAD);
        for (int none : Due.NOWHERE) {
            due.is("count none", desk.count(none, false), BAD);
        }
        due.is("as it was", desk.count(SEVEN, true), 1);
    }

    private static void promise17() {
        int[][] done = {
            {0, 1, 2, 9, 10, 11, 18, 19, 20, 27, 27, 27, 33, 33},
            {6, 7, 8, 15, 16, 17, 24, 25, 26, 30, 30, 30, 0, 0},
            {0, 0, 1, 1, 1, 1, 2, 2, 2, 2, 3, 3, 3, 3},
            {0, 0, 0, 0, 1, 2, 3, 4, 5, 6, 7, 8, 33, 33},
        };
        int[][] notDone = {
            {7, 8, 9, 16, 17, 18, 25, 26, 27, 30, 30, 30, 0, 0},
            {27, 28, 29, 30, 31, 32, 0, 0, 0, 1, 1, 1, 2, 2},
            {0, 0, 0, 0, 9, 9, 9, 9, 18, 18, 18, 18, 27, 27},
            {0, 1, 2, 9, 10, 11, 18, 19, 20, 27, 27, 27, 33, 32},
            {0, 0, 0, 1, 1, 1, 2, 2, 2, 9, 9, 9, 10, 12},
            {0, 0, 1, 1, 1, 3, 3, 3, 5, 5, 5, 7, 7, 8},
        };
        for (int[] hand : done) {
            due.is("done", Due.holding(hand).done(0), 1);
        }
        for (int[] hand : notDone) {
            due.is("not done", Due.holding(hand).done(0), 0);
        }
        due.is("thirteen", Due.holding(NINE_GATES).done(0), NO);
        due.is("none", new TileDesk().done(0), NO);
        TileDesk open = laid(200, 309, 118, 333);
        Due.hold(open, 0, 30);
        due.is("one tile behind four open", open.done(0), NO);
        Due.hold(open, 0, 30);
        due.is("a pair behind four open", open.done(0), 1);
        open.discard(0, 30);
        Due.hold(open, 0, 31);
        due.is("no pair behind four open", open.done(0), 0);
    }

    private static void promise17Others() {
        TileDesk seven = with(SIX_PAIRS_AND_33, 33);
        due.is("seven pairs that do not count", seven.done(0), 0);
        seven.count(OUTER, true);
        due.is("seven pairs that do not count", seven.done(0), 0);
        seven.count(SEVEN, true);
        due.is("seven pairs", seven.done(0), 2);
        seven.discard(0, 33);
        Due.hold(seven, 0, 32);
        due.is("six pairs", seven.done(0), 0);
        TileDesk alike = Due.holding(1, 1, 1, 1, 7, 7, 10, 10, 13, 13, 16, 16, 33, 33);
        alike.count(SEVEN, true);
        due.is("two pairs alike", alike.done(0), 0);
        TileDesk open = laid(201);
        Due.hold(open, 0, 7, 7, 10, 10, 13, 13, 16, 16, 33, 33, 31);
        open.count(SEVEN, true);
        open.count(OUTER, true);
        due.is("an open group and pairs", open.done(0), 0);
        TileDesk both = Due.holding(1, 1, 2, 2, 3, 3, 4, 4, 5, 5, 6, 6, 7, 7);
        both.count(SEVEN, true);
        due.is("a way ahead of seven", both.done(0), 1);
        for (int twice : THIRTEEN_OUTER) {
            TileDesk outer = with(THIRTEEN_OUTER, twice);
            due.is("outer ones that do not count", outer.done(0), 0);
            outer.count(SEVEN, true);
            due.is("outer ones that do not count", outer.done(0), 0);
            outer.count(OUTER, true);
            due.is("outer ones", outer.done(0), 3);
        }
        TileDesk other = with(THIRTEEN_OUTER, 1);
        other.count(OUTER, true);
        due.is("one more that is not outer", other.done(0), 0);
        TileDesk twelve = Due.holding(0, 8, 9, 17, 18, 26, 27, 28, 29, 30, 31, 32, 32, 32);
        twelve.count(OUTER, true);
        due.is("twelve outer ones", twelve.done(0), 0);
    }

    private static void promise18() {
        due.is("one way", with(NINE_GATES, 0).ways(0), 1);
        due.is("two ways", Due.holding(0, 0, 0, 1, 1, 1, 2, 2, 2, 9, 10, 11, 33, 33).ways(0), 2);
        due.is("three ways", Due.holding(1, 1, 2, 2, 3, 3, 4, 4, 5, 5, 6, 6, 7, 7).ways(0), 3);
        due.is("four ways", Due.holding(5, 5, 5, 6, 6, 6, 6, 7, 7, 7, 7, 8, 8, 8).ways(0), 4);
        due.is("no way", with(WAITS_FOR_33, 1).ways(0), 0);
        TileDesk seven = with(SIX_PAIRS_AND_33, 33);
        seven.count(SEVEN, true);
        due.is("seven pairs are no way", seven.ways(0), 0);
        due.is("thirteen", Due.holding(WAITS_FOR_33).ways(0), NO);
        due.is("none", new TileDesk().ways(0), NO);
        TileDesk open = laid(318, 109);
        due.is("six and none held", open.ways(0), NO);
        Due.hold(open, 0, 0, 0, 1, 1, 2, 2, 3, 3);
        due.is("behind open ones", open.ways(0), 2);
    }

    private static void way(TileDesk desk, int i, int... codes) {
        for (int k = 0; k < codes.length; k++) {
            due.is("way " + i + ", group " + k, desk.way(0, i, k), codes[k]);
        }
    }

    private static void promise19() {
        TileDesk four = Due.holding(5, 5, 5, 6, 6, 6, 6, 7, 7, 7, 7, 8, 8, 8);
        way(four, 0, 5, 105, 206, 207, 208);
        way(four, 1, 5, 105, 106, 106, 106);
        way(four, 2, 8, 205, 206, 106, 207);
        way(four, 3, 8, 105, 105, 105, 106);
        way(four, 4, NONE, NONE, NONE, NONE, NONE);
        TileDesk rows = Due.holding(33, 33, 27, 27, 27, 24, 25, 26, 2, 2, 2, 2, 3, 4);
        way(rows, 0, 33, 202, 102, 124, 227);
        TileDesk open = laid(330, 109);
        Due.hold(open, 0, 0, 0, 0, 1, 1, 1, 2, 2);
        way(open, 0, 2, 200, 201, 330, 109);
        way(open, 1, NONE);
        open.clear(0);
        Due.lay(open, 0, 109);
        Due.lay(open, 0, 330);
        Due.lay(open, 0, 109);
        Due.lay(open, 0, 205);
        Due.hold(open, 0, 8, 8);
        way(open, 0, 8, 109, 330, 109, 205);
        due.is("way i below 0", open.way(0, -1, 0), NONE);
        due.is("way i far", open.way(0, Integer.MAX_VALUE, 4), NONE);
        due.is("way i far below", open.way(0, Integer.MIN_VALUE, 4), NONE);
        due.is("way k 5", open.way(0, 0, 5), BAD);
        due.is("way k 5 of none", open.way(0, 9, 5), BAD);
        for (int none : Due.NOWHERE) {
            due.is("way k of none", open.way(0, 0, none), BAD);
            due.is("way of no hand", open.way(none, 0, 0), BAD);
        }
        due.is("way of a hand that is not full", open.way(1, 0, 0), NO);
        due.is("way k ahead of it", open.way(1, 0, 5), BAD);
        TileDesk seven = with(SIX_PAIRS_AND_33, 33);
        seven.count(SEVEN, true);
        way(seven, 0, NONE, NONE);
    }

    private static void promise20() {
        TileDesk far = Due.holding(NOTHING_NEAR);
        due.is("nothing near", far.distance(0), 8);
        far.count(SEVEN, true);
        due.is("nothing near of seven pairs", far.distance(0), 6);
        far.count(SEVEN, false);
        far.count(OUTER, true);
        due.is("four outer ones", far.distance(0), 8);
        TileDesk outer = Due.holding(THIRTEEN_OUTER);
        due.is("outer ones that do not count", outer.distance(0), 8);
        outer.count(OUTER, true);
        due.is("outer ones", outer.distance(0), 0);
        Due.hold(outer, 0, 5);
        due.is("outer ones and another", outer.distance(0), 0);
        TileDesk pairs = Due.holding(SIX_PAIRS_AND_33);
        due.is("six pairs that do not count", pairs.distance(0), 3);
        pairs.count(SEVEN, true);
        due.is("six pairs", pairs.distance(0), 0);
        due.is("done", with(NINE_GATES, 4).distance(0), 0);
        due.is("waits", Due.holding(WAITS_FOR_33).distance(0), 0);
        due.is("waits, and one more", with(WAITS_FOR_33, 31).distance(0), 0);
        TileDesk five = Due.holding(0, 0, 0, 0, 7, 7, 7, 7, 11, 11, 11, 11, 27);
        due.is("twelve are none", new TileDesk().distance(0), NO);
        five.discard(0, 27);
        due.is("twelve", five.distance(0), NO);
        Due.hold(five, 0, 28);
        five.count(SEVEN, true);
        due.is("threes of fours", five.distance(0), 2);
    }

    /** Four of a sort at most: those that are open count too. */
    private static void promise20OfFour() {
        TileDesk four = Due.holding(0, 1, 2, 9, 10, 11, 18, 19, 20, 27, 27, 27, 27);
        due.is("a fifth is none to wait for", four.distance(0), 1);
        due.is("a fifth is none to wait for", four.waits(0, 0), NONE);
        TileDesk open = laid(205, 300, 118, 227);
        Due.hold(open, 0, 5);
        due.is("the last one behind an open three", open.distance(0), 1);
        due.is("it waits for none", open.waits(0, 0), NONE);
        open.discard(0, 5);
        Due.hold(open, 0, 18);
        due.is("a second one beside an open run", open.distance(0), 0);
        due.is("it waits for it", open.waits(0, 0), 18);
        TileDesk runs = laid(227, 228, 229);
        Due.hold(runs, 0, 30, 30, 0, 1);
        due.is("a run wants one that is there", runs.distance(0), 0);
        TileDesk gone = laid(227, 228, 302);
        Due.hold(gone, 0, 30, 30, 0, 1);
        due.is("a run wants one of which four are open", gone.distance(0), 1);
        TileDesk others = laid(227, 228, 229);
        Due.lay(others, 1, 302);
        Due.hold(others, 0, 30, 30, 0, 1);
        due.is("four open in another hand are not its own", others.distance(0), 0);
        TileDesk pairs = laid(201);
        Due.hold(pairs, 0, 4, 4, 7, 7, 10, 10, 13, 13, 16, 16);
        pairs.count(SEVEN, true);
        due.is("seven pairs are out behind an open one", pairs.distance(0), 2);
        due.is("far behind an open one", laidAndFar().distance(0), 6);
    }

    private static TileDesk laidAndFar() {
        TileDesk desk = laid(231);
        Due.hold(desk, 0, 1, 4, 7, 10, 13, 16, 19, 22, 25, 27);
        return desk;
    }

    private static void sorts(String call, int[] got, int... want) {
        for (int i = 0; i < got.length; i++) {
            due.is(call + " " + i, got[i], i < want.length ? want[i] : NONE);
        }
    }

    private static int[] waiting(TileDesk desk, int n) {
        int[] sorts = new int[n + 1];
        for (int i = 0; i <= n; i++) {
            sorts[i] = desk.waits(0, i);
        }
        return sorts;
    }

    private static int[] helping(TileDesk desk, int n) {
        int[] sorts = new int[n + 1];
        for (int i = 0; i <= n; i++) {
            sorts[i] = desk.helps(0, i);
        }
        return sorts;
    }

    private static int isAmong(int sort, int[] sorts) {
        for (int one : sorts) {
            if (one == sort) {
                return 1;
            }
        }
        return 0;
    }

    private static void promise21() {
        sorts("nine gates", waiting(Due.holding(NINE_GATES), 9), 0, 1, 2, 3, 4, 5, 6, 7, 8);
        sorts("one", waiting(Due.holding(WAITS_FOR_33), 1), 33);
        TileDesk three = Due.holding(1, 2, 3, 4, 5, 6, 7, 27, 27, 27, 28, 28, 28);
        sorts("pairs at three places", waiting(three, 3), 1, 4, 7);
        TileDesk sides = Due.holding(9, 10, 11, 20, 21, 27, 27, 27, 28, 28, 28, 30, 30);
        sorts("two sides", waiting(sides, 2), 19, 22);
        TileDesk held = Due.holding(1, 1, 1, 1, 2, 3, 27, 27, 27, 28, 28, 28, 30);
        sorts("a pair", waiting(held, 1), 30);
        TileDesk four = Due.holding(0, 0, 0, 0, 1, 27, 27, 27, 28, 28, 28, 29, 29);
        sorts("a run or a pair", waiting(four, 1), 2);
        TileDesk outer = Due.holding(THIRTEEN_OUTER);
        sorts("outer ones that do not count", waiting(outer, 1));
        outer.count(OUTER, true);
        sorts("outer ones", waiting(outer, 13), THIRTEEN_OUTER);
        outer.discard(0, 33);
        Due.hold(outer, 0, 0);
        sorts("outer ones with a pair", waiting(outer, 1), 33);
        TileDesk pairs = Due.holding(SIX_PAIRS_AND_33);
        pairs.count(SEVEN, true);
        sorts("seven pairs", waiting(pairs, 1), 33);
        TileDesk both = Due.holding(1, 1, 2, 2, 3, 3, 27, 27, 28, 28, 29, 29, 30);
        both.count(SEVEN, true);
        sorts("seven pairs", waiting(both, 1), 30);
        TileDesk more = Due.holding(1, 1, 2, 2, 3, 3, 4, 4, 5, 5, 6, 6, 7);
        sorts("by ways", waiting(more, 3), 1, 4, 7);
        more.count(SEVEN, true);
        sorts("by ways and seven pairs", waiting(more, 3), 1, 4, 7);
        sorts("not near", waiting(Due.holding(NOTHING_NEAR), 1));
        waitsRefusals();
    }

    private static void waitsRefusals() {
        TileDesk desk = Due.holding(WAITS_FOR_33);
        due.is("waits i far", desk.waits(0, Integer.MAX_VALUE), NONE);
        due.is("helps i far", desk.helps(0, Integer.MAX_VALUE), NONE);
        for (int i : new int[] {-1, Integer.MIN_VALUE}) {
            due.is("waits i below 0", desk.waits(0, i), BAD);
            due.is("helps i below 0", desk.helps(0, i), BAD);
            due.is("waits i below 0 of a hand at no rest", desk.waits(1, i), BAD);
            due.is("helps i below 0 of a hand at no rest", desk.helps(1, i), BAD);
        }
        due.is("waits of none", desk.waits(1, 0), NO);
        due.is("helps of none", desk.helps(1, 0), NO);
        Due.hold(desk, 0, 30);
        due.is("waits of a full one", desk.waits(0, 0), NO);
        due.is("helps of a full one", desk.helps(0, 0), NO);
    }

    private static void promise22() {
        sorts("at 0", helping(Due.holding(NINE_GATES), 9), 0, 1, 2, 3, 4, 5, 6, 7, 8);
        TileDesk one = Due.holding(9, 10, 11, 20, 21, 27, 27, 27, 28, 28, 28, 30, 31);
        due.is("at 1", one.distance(0), 1);
        sorts("at 1: the run's ends and the singles", helping(one, 4), 19, 22, 30, 31);
        sorts("at 1 it waits for none", waiting(one, 1));
        TileDesk open = laid(205, 300, 118, 227);
        Due.hold(open, 0, 5);
        for (int i = 0, sort = 0; sort < 34; sort++) {
            if (sort != 0 && sort != 5 && sort != 27) {
                due.is("any pair", open.helps(0, i++), sort);
            }
        }
        due.is("any pair", open.helps(0, 31), NONE);
        TileDesk four = Due.holding(0, 1, 2, 9, 10, 11, 18, 19, 20, 27, 27, 27, 27);
        for (int sort = 0; sort < 27; sort++) {
            due.is("all but the one of which it has four", four.helps(0, sort), sort);
        }
        due.is("all but the one of which it has four", four.helps(0, 27), 28);
        due.is("all but the one of which it has four", four.helps(0, 33), NONE);
        TileDesk pairs = Due.holding(1, 1, 4, 4, 10, 10, 13, 13, 16, 16, 31, 31, 31);
        pairs.count(SEVEN, true);
        due.is("five pairs and a three", pairs.distance(0), 1);
        int[] helping = helping(pairs, 34);
        for (int i = 0; i < 27; i++) {
            boolean held = pairs.tiles(i, 2) > 0;
            due.is("one that is unlike, sort " + i, isAmong(i, helping), held ? 0 : 1);
        }
        TileDesk three = Due.holding(0, 0, 0, 4, 4, 4, 10, 10, 20, 20, 30, 30, 33);
        sorts("two of three pairs are to be threes", helping(three, 3), 10, 20, 30);
        TileDesk waits = Due.holding(WAITS_FOR_33);
        waits.count(SEVEN, true);
        waits.count(OUTER, true);
        sorts("others that count are farther", helping(waits, 1), 33);
        TileDesk either = Due.holding(1, 1, 2, 2, 3, 3, 10, 10, 12, 15, 16, 22, 33);
        for (int counts = 0; counts <= 1; counts++) {
            either.count(SEVEN, counts == 1);
            due.is("as far by ways as by seven pairs", either.distance(0), 2);
            due.is("helps by ways", isAmong(14, helping(either, 34)), 1);
            due.is("helps by seven pairs alone", isAmong(15, helping(either, 34)), counts);
            due.is("helps by neither", isAmong(31, helping(either, 34)), 0);
        }
        TileDesk outer = Due.holding(0, 8, 9, 17, 18, 26, 27, 28, 29, 30, 31, 5, 14);
        outer.count(OUTER, true);
        due.is("eleven outer ones", outer.distance(0), 2);
        sorts("eleven outer ones", helping(outer, 13), THIRTEEN_OUTER);
        TileDesk twice = Due.holding(0, 0, 8, 9, 17, 18, 26, 27, 28, 29, 30, 5, 14);
        twice.count(OUTER, true);
        sorts("ten outer ones and a pair", helping(twice, 3), 31, 32, 33);
    }

    private static void promise23() {
        TileDesk desk = Due.holding(0, 0, 0, 1, 2, 3, 27, 27, 27, 28, 28, 28, 30, 31);
        due.is("full", desk.distance(0), 0);
        due.is("without a single", desk.without(0, 30), 0);
        due.is("without another", desk.without(0, 31), 0);
        due.is("without one of a three", desk.without(0, 27), 1);
        due.is("without one of a run", desk.without(0, 2), 1);
        due.is("without one it does not hold", desk.without(0, 29), NO);
        due.is("sort 34", desk.without(0, 34), BAD);
        due.is("hand 4", desk.without(4, 0), BAD);
        for (int none : Due.NOWHERE) {
            due.is("without of no hand", desk.without(none, 0), BAD);
            due.is("without of no sort", desk.without(0, none), BAD);
            due.is("more of no hand", desk.more(none, 0), BAD);
            due.is("more of no sort", desk.more(0, none), BAD);
        }
        due.is("as it was", desk.tiles(30, 2), 1);
        TileDesk done = with(NINE_GATES, 4);
        due.is("of a done one", done.without(0, 4), 0);
        due.is("of a done one", done.without(0, 0), 0);
        TileDesk open = laid(205);
        Due.hold(open, 0, 0, 1, 2, 27, 27, 27, 28, 28, 28, 30, 31);
        due.is("one that is open alone", open.without(0, 5), NO);
        due.is("without a single", open.without(0, 30), 0);
        open.discard(0, 31);
        due.is("without, at rest", open.without(0, 30), NO);
        due.is("more, at rest", open.more(0, 30), NO);
        due.is("without, none", new TileDesk().without(0, 0), NO);
    }

    private static void promise24() {
        TileDesk desk = Due.holding(0, 0, 0, 1, 2, 3, 27, 27, 27, 28, 28, 28, 30, 31);
        due.is("more without 30", desk.more(0, 30), 3);
        due.is("more without 29", desk.more(0, 29), NO);
        due.is("more without 31", desk.more(0, 31), 3);
        Due.hold(desk, 1, 31);
        due.is("held by another is not seen", desk.more(0, 30), 3);
        desk.discard(1, 31);
        due.is("thrown is seen", desk.more(0, 30), 2);
        Due.hold(desk, 1, 31, 31);
        desk.discard(1, 31);
        due.is("thrown is seen", desk.more(0, 30), 1);
        TileDesk sides = Due.holding(9, 10, 11, 20, 21, 27, 27, 27, 28, 28, 28, 30, 30, 33);
        due.is("both ends", sides.more(0, 33), 8);
        Due.lay(sides, 2, 119);
        due.is("open in another is seen", sides.more(0, 33), 7);
        TileDesk done = Due.holding(0, 0, 0, 9, 9, 9, 18, 18, 18, 27, 27, 27, 33, 33);
        due.is("the one that is thrown is seen", done.more(0, 33), 2);
        due.is("the one that is thrown is seen", done.more(0, 0), 2 + 1);
    }

    private static void promise25() {
        TileDesk desk = Due.holding(0, 0, 0, 1, 2, 3, 27, 27, 27, 28, 28, 28, 30, 31);
        due.is("both alike: the least", desk.best(0), 30);
        Due.hold(desk, 1, 30);
        desk.discard(1, 30);
        due.is("by which more help: 31 being kept three may come, 30 being kept two", desk.best(0), 30);
        Due.hold(desk, 1, 31, 31);
        desk.discard(1, 31);
        desk.discard(1, 31);
        due.is("by which more help", desk.best(0), 31);
        TileDesk sides = Due.holding(9, 10, 11, 20, 21, 24, 25, 27, 27, 27, 30, 30, 32, 33);
        due.is("the distance first", sides.best(0), 32);
        due.is("done", Due.holding(0, 0, 0, 1, 1, 1, 2, 2, 2, 9, 10, 11, 33, 33).best(0), 0);
        due.is("at rest", Due.holding(WAITS_FOR_33).best(0), NO);
        due.is("none", new TileDesk().best(0), NO);
        TileDesk open = laid(205, 300, 118, 227);
        Due.hold(open, 0, 5, 33);
        due.is("the last one is thrown", open.best(0), 5);
        TileDesk seven = with(SIX_PAIRS_AND_33, 8);
        seven.count(SEVEN, true);
        due.is("seven pairs: three to come either way", seven.best(0), 8);
    }

    private static void promise26() {
        TileDesk desk = Due.holding(0, 0, 0, 1, 2, 3, 4, 4, 4, 27, 27, 28, 10);
        int[][] lacks = {{0, 0}, {0, 0}, {0, 0}, {0, 2}, {3, 5}};
        for (int g = 0; g <= 4; g++) {
            for (int p = 0; p <= 1; p++) {
                due.is("row 0, " + g + " groups, " + p + " pairs", desk.lack(0, 0, g, p), lacks[g][p]);
                due.is("row 2, " + g + " groups, " + p + " pairs", desk.lack(0, 2, g, p), 3 * g + 2 * p);
            }
        }
        due.is("row 1, a pair", desk.lack(0, 1, 0, 1), 1);
        due.is("row 1, a group", desk.lack(0, 1, 1, 0), 2);
        due.is("row 1, a group and a pair", desk.lack(0, 1, 1, 1), 4);
        due.is("row 3 has no runs", desk.lack(0, 3, 1, 0), 1);
        due.is("row 3, a pair", desk.lack(0, 3, 0, 1), 0);
        due.is("row 3, both", desk.lack(0, 3, 1, 1), 2);
        due.is("row 3, all", desk.lack(0, 3, 4, 1), 14 - 3);
        due.is("of another hand", desk.lack(3, 0, 4, 1), 14);
        TileDesk full = Due.holding(0, 0, 0, 0, 4, 4, 4, 4, 8, 8, 8, 8);
        due.is("no fifth", full.lack(0, 0, 3, 1), 2);
        due.is("pair of a four", full.lack(0, 0, 2, 1), 0);
        for (int bad : Due.NOWHERE) {
            due.is("no hand", desk.lack(bad, 0, 0, 0), BAD);
            due.is("no row", desk.lack(0, bad, 0, 0), BAD);
            due.is("no number of groups", desk.lack(0, 0, bad, 0), BAD);
            due.is("no number of pairs", desk.lack(0, 0, 0, bad), BAD);
        }
        due.is("hand 4", desk.lack(4, 0, 0, 0), BAD);
        due.is("row 4", desk.lack(0, 4, 0, 0), BAD);
        due.is("five groups", desk.lack(0, 0, 5, 0), BAD);
        due.is("two pairs", desk.lack(0, 0, 0, 2), BAD);
    }

    private static void promise26None() {
        TileDesk desk = laid(227, 228, 229, 230);
        due.is("threes of three sorts", desk.lack(0, 3, 3, 0), 9);
        due.is("a fourth", desk.lack(0, 3, 4, 0), NONE);
        due.is("three and a pair", desk.lack(0, 3, 3, 1), NONE);
        due.is("two and a pair", desk.lack(0, 3, 2, 1), 8);
        due.is("another hand's are not in the way", desk.lack(1, 3, 4, 1), 14);
        TileDesk runs = laid(302, 305, 106);
        due.is("runs past fours", runs.lack(0, 0, 1, 0), 3);
        Due.hold(runs, 0, 0, 1);
        due.is("two of a run whose third is gone", runs.lack(0, 0, 1, 0), 2);
        Due.hold(runs, 1, 8);
        due.is("two threes", runs.lack(0, 0, 2, 0), 4);
        Due.hold(runs, 0, 6, 6, 6);
        due.is("a three beside an open run", runs.lack(0, 0, 1, 0), 0);
    }

    /** Rows that differ but in what is held and what is open, of one desk, one after the other. */
    private static void promise26OfRowsOneAfterTheOther() {
        TileDesk desk = Due.holding(5, 5, 5, 24);
        Due.lay(desk, 1, 214);
        Due.lay(desk, 2, 315);
        due.is("three held", desk.lack(0, 0, 1, 0), 0);
        due.is("three open", desk.lack(1, 1, 1, 0), 3);
        due.is("one held", desk.lack(0, 2, 0, 1), 1);
        due.is("four open", desk.lack(2, 1, 0, 1), 2);
        due.is("none held", desk.lack(3, 0, 1, 0), 3);
        due.is("three held again", desk.lack(0, 0, 1, 0), 0);
        Due.lay(desk, 1, 327);
        due.is("row 3, none held", desk.lack(0, 3, 4, 0), 12);
        due.is("row 3, a four open", desk.lack(1, 3, 4, 0), 12);
        due.is("row 0 then", desk.lack(1, 0, 4, 1), 14);
    }

    private static void promise27() {
        TileDesk desk = Due.holding(WAITS_FOR_33);
        due.is("odds of 1", desk.odds(0, 1), 3);
        Due.hold(desk, 1, 33);
        due.is("held by another", desk.odds(0, 1), 3);
        desk.discard(1, 33);
        due.is("thrown", desk.odds(0, 1), 2);
        due.is("nine gates", Due.holding(NINE_GATES).odds(0, 1), 2 * 1 + 7 * 3);
        due.is("nothing near", Due.holding(NOTHING_NEAR).odds(0, 1), 0);
        due.is("nothing near", Due.holding(NOTHING_NEAR).odds(0, 2), 0);
        TileDesk one = Due.holding(9, 10, 11, 20, 21, 27, 27, 27, 28, 28, 28, 30, 31);
        due.is("at 1", one.odds(0, 1), 0);
        TileDesk outer = Due.holding(THIRTEEN_OUTER);
        due.is("outer ones that do not count", outer.odds(0, 1), 0);
        outer.count(OUTER, true);
        due.is("outer ones", outer.odds(0, 1), 39);
        due.is("odds of 0", desk.odds(0, 0), BAD);
        due.is("odds of 3", desk.odds(0, 3), BAD);
        due.is("hand 4", desk.odds(4, 1), BAD);
        for (int none : Due.NOWHERE) {
            due.is("odds of no number", desk.odds(0, none), BAD);
            due.is("odds of no hand", desk.odds(none, 1), BAD);
        }
        for (int d = 1; d <= 2; d++) {
            due.is("none", desk.odds(2, d), NO);
            Due.hold(desk, 0, 5);
            due.is("full", desk.odds(0, d), NO);
            desk.discard(0, 5);
        }
    }

    private static void promise27OfTwo() {
        // 3 of 33, any then: 3 by 122. Else 120 others, then 3: any of them kept for a pair has 3 left at most.
        TileDesk open = laid(200, 209, 218, 227);
        Due.hold(open, 0, 33);
        due.is("a pair", open.odds(0, 2), 3 * 122 + 120 * 3);
        // At 33, one left: kept for a pair is what came first, when of it more are left.
        Due.hold(open, 1, 33, 33);
        open.discard(1, 33);
        open.discard(1, 33);
        // 121 not seen. 33 first: 120. A sort of which 4 are left (29 of these: not 33, not the four open ones): then 3.
        // One of which 1 is left (4 sorts): then the 33.
        due.is("the best one is kept", open.odds(0, 2), 120 + 116 * 3 + 4);
        // None left of 33: behind one of the four sorts nothing is left to come of either.
        Due.hold(open, 1, 33);
        open.discard(1, 33);
        due.is("none is left to wait for", open.odds(0, 2), 116 * 3);
        // 19 or 22 (8 tiles), then for a pair 30 or 31, whichever is kept (3 left); or 30, 31 (6 tiles), then 19 or 22.
        TileDesk one = Due.holding(9, 10, 11, 20, 21, 27, 27, 27, 28, 28, 28, 30, 31);
        due.is("at 1", one.odds(0, 2), 8 * 3 + 6 * 8);
        TileDesk two = Due.holding(9, 10, 11, 20, 22, 27, 27, 27, 28, 28, 31, 32, 33);
        due.is("at 2", two.distance(0), 2);
        due.is("at 2", two.odds(0, 2), 0);
    }

    private static void promise28() {
        TileDesk desk = new TileDesk();
        due.is("all", desk.unseen(0), 136);
        Due.hold(desk, 0, 1, 2, 3);
        due.is("held", desk.unseen(0), 133);
        due.is("held by another", desk.unseen(1), 136);
        Due.lay(desk, 1, 330);
        Due.lay(desk, 2, 105);
        due.is("open in all", desk.unseen(0), 126);
        due.is("open in all", desk.unseen(1), 129);
        due.is("open in all", desk.unseen(3), 129);
        desk.discard(0, 2);
        due.is("thrown, that it held", desk.unseen(0), 126);
        due.is("thrown", desk.unseen(3), 128);
        desk.clear(1);
        due.is("gone back", desk.unseen(3), 132);
        due.is("hand 4", desk.unseen(4), BAD);
        for (int none : Due.NOWHERE) {
            due.is("no hand", desk.unseen(none), BAD);
        }
    }

    private static int alike(int[] one, int[] other) {
        TileDesk desk = Due.holding(one);
        Due.hold(desk, 1, other);
        int there = desk.alike(0, 1);
        due.is("alike, either way round", desk.alike(1, 0), there);
        due.is("alike itself", desk.alike(0, 0), 1);
        return there;
    }

    private static void promise29() {
        int[] one = {0, 1, 3, 9, 9, 19, 19, 27, 27, 28};
        due.is("the same", alike(one, one), 1);
        due.is("rows in another order", alike(one, new int[] {9, 10, 12, 18, 18, 1, 1, 27, 27, 28}), 1);
        due.is("rows in another order", alike(one, new int[] {18, 19, 21, 0, 0, 10, 10, 27, 27, 28}), 1);
        due.is("two rows changed", alike(one, new int[] {0, 1, 3, 10, 10, 18, 18, 27, 27, 28}), 1);
        due.is("a row turned", alike(one, new int[] {8, 7, 5, 9, 9, 19, 19, 27, 27, 28}), 1);
        due.is("each turned, in another order", alike(one, new int[] {17, 16, 14, 26, 26, 7, 7, 27, 27, 28}), 1);
        due.is("row 3 in another order", alike(one, new int[] {0, 1, 3, 9, 9, 19, 19, 33, 31, 33}), 1);
        due.is("row 3 not alike", alike(one, new int[] {0, 1, 3, 9, 9, 19, 19, 27, 28, 29}), 0);
        due.is("row 3 is no other row", alike(new int[] {0, 0}, new int[] {27, 27}), 0);
        due.is("a row not turned whole", alike(one, new int[] {8, 1, 3, 9, 9, 19, 19, 27, 27, 28}), 0);
        due.is("a row moved by one", alike(one, new int[] {1, 2, 4, 9, 9, 19, 19, 27, 27, 28}), 0);
        due.is("one more", alike(one, new int[] {0, 1, 3, 9, 9, 19, 19, 27, 27, 28, 29}), 0);
        due.is("of two rows one", alike(new int[] {0, 1, 9, 11}, new int[] {0, 1, 9, 10}), 0);
        due.is("in one row or two", alike(new int[] {0, 8}, new int[] {0, 17}), 0);
        due.is("none held", alike(new int[0], new int[0]), 1);
        due.is("both ends or one", alike(new int[] {0, 8}, new int[] {0}), 0);
        due.is("three of row 3, or two", alike(new int[] {27, 28, 29}, new int[] {30, 30}), 0);
        due.is("six of row 3, or three", alike(new int[] {27, 28, 29, 30, 31, 32}, new int[] {27, 28, 28}), 0);
        due.is("a four and a pair of row 3, or two threes",
            alike(new int[] {27, 27, 27, 27, 33, 33}, new int[] {28, 28, 28, 29, 29, 29}), 0);
        due.is("a row twice", alike(new int[] {0, 9, 19}, new int[] {1, 9, 19}), 0);
        TileDesk open = Due.holding(5);
        Due.lay(open, 0, 101);
        Due.hold(open, 3, 12);
        due.is("open ones are not held", open.alike(0, 3), 1);
        due.is("hand 4", open.alike(0, 4), BAD);
        due.is("hand 4", open.alike(4, 0), BAD);
        for (int none : Due.NOWHERE) {
            due.is("no hand", open.alike(none, 0), BAD);
            due.is("no other hand", open.alike(0, none), BAD);
        }
    }

    private static void noSuchHand() {
        TileDesk desk = new TileDesk();
        for (int h : new int[] {4, -1, Integer.MIN_VALUE, Integer.MAX_VALUE}) {
            due.is("done", desk.done(h), BAD);
            due.is("ways", desk.ways(h), BAD);
            due.is("way", desk.way(h, 0, 0), BAD);
            due.is("distance", desk.distance(h), BAD);
            due.is("waits", desk.waits(h, 0), BAD);
            due.is("helps", desk.helps(h, 0), BAD);
            due.is("best", desk.best(h), BAD);
            due.is("worth", desk.worth(h), BAD);
            due.is("by", desk.by(h), BAD);
        }
    }
}
