/** The boundary cases of the terms about hands and of promises 16 to 25, sentence by sentence of the document. */
public final class EdgesOfHandsTest {
    private static final Due due = new Due("EdgesOfHandsTest");
    private static final int BAD = Due.BAD, NO = Due.NO, NONE = Due.NONE, LEAST = Due.LEAST, GREATEST = Due.GREATEST;
    private static final int SEVEN = 0, OUTER = 1;
    private static final int[] THIRTEEN = {0, 8, 9, 17, 18, 26, 27, 28, 29, 30, 31, 32, 33};
    private static final int[] NINE_GATES = {9, 9, 9, 10, 11, 12, 13, 14, 15, 16, 17, 17, 17};
    private static final int[] FAR = {1, 4, 7, 10, 13, 16, 19, 22, 25, 27, 28, 29, 30};

    public static void main(String[] args) {
        runsDoNotGoAround();
        outerAreThirteen();
        countEdges();
        countBad();
        doneOfEachSize();
        doneByWaysAtTheEnds();
        doneTheFirstThatHolds();
        doneSevenUnlike();
        doneOthersWithOneOpen();
        doneOuterOneMore();
        doneBad();
        waysFromNoneToFour();
        waysOfOpenGroupsAlone();
        waysNo();
        wayOrder();
        wayFoursAreOpenAlone();
        wayNoneSuch();
        wayBad();
        distanceOfEachSize();
        distanceLeastAndGreatest();
        distanceOfOthers();
        distanceNoMoreThanFour();
        waitsFromNoneToThirteen();
        waitsNotOfFour();
        waitsBadAndNo();
        helpsAtZeroAndFar();
        helpsOfSeven();
        helpsOfOuter();
        helpsNotOfFour();
        helpsBadAndNo();
        withoutEdges();
        withoutRefusals();
        moreEdges();
        moreStillSeen();
        bestEdges();
        bestWhenNothingHelps();
        bestRefusals();
        due.end();
    }

    private static TileDesk with(int[] sorts, int... more) {
        TileDesk desk = Due.holding(sorts);
        Due.hold(desk, 0, more);
        return desk;
    }

    private static void waits(String call, TileDesk desk, int... sorts) {
        for (int i = 0; i <= sorts.length; i++) {
            due.is(call + ", waits " + i, desk.waits(0, i), i < sorts.length ? sorts[i] : NONE);
        }
    }

    private static void helps(String call, TileDesk desk, int... sorts) {
        for (int i = 0; i <= sorts.length; i++) {
            due.is(call + ", helps " + i, desk.helps(0, i), i < sorts.length ? sorts[i] : NONE);
        }
    }

    // ---- terms

    private static void runsDoNotGoAround() {
        due.sentence("27 to 33 are ROW 3, and stand by themselves.");
        int[][] none = {{7, 8, 9}, {8, 9, 10}, {16, 17, 18}, {17, 18, 19}, {25, 26, 27}, {26, 27, 28}, {27, 28, 29},
            {31, 32, 33}, {32, 33, 0}, {33, 0, 1}, {8, 0, 1}, {7, 8, 0}, {17, 9, 10}, {26, 18, 19}};
        for (int[] tiles : none) {
            TileDesk desk = with(tiles, 3, 3, 3, 12, 12, 12, 21, 21, 21, 5, 5);
            due.is("done by " + tiles[0] + ", " + tiles[1] + ", " + tiles[2], desk.done(0), 0);
            due.is("ways", desk.ways(0), 0);
        }
        for (int from : new int[] {0, 6, 9, 15, 18, 24}) {
            TileDesk desk = with(new int[] {from, from + 1, from + 2}, 3, 3, 3, 12, 12, 12, 21, 21, 21, 5, 5);
            due.is("done by a run from " + from, desk.done(0), 1);
        }
        waits("7 and 8 at the end of a row", with(new int[] {7, 8}, 3, 3, 3, 12, 12, 12, 21, 21, 21, 31, 31), 6);
        waits("9 and 10 at its beginning", with(new int[] {9, 10}, 3, 3, 3, 13, 13, 13, 21, 21, 21, 31, 31), 11);
        waits("8 and 0", with(new int[] {8, 0, 0}, 3, 3, 3, 12, 12, 12, 21, 21, 21, 31));
        waits("27 and 28", with(new int[] {27, 28}, 3, 3, 3, 12, 12, 12, 21, 21, 21, 31, 31));
    }

    private static void outerAreThirteen() {
        due.sentence("OUTER are the first and the last one of ROWS 0 to 2, and those of ROW 3: thirteen.");
        int n = 0;
        for (int sort = 0; sort < 34; sort++) {
            int other = sort < 10 ? 12 : 3;
            TileDesk desk = with(new int[] {sort, sort}, 20, 21, 22, 22, 23, 24, 13, 14, 15, other, other + 1, other + 2);
            int want = sort % 9 == 0 || sort % 9 == 8 || sort > 26 ? 1 : 0;
            due.is("is a pair of " + sort + " outer", desk.holds(0, 2), want);
            n += want;
        }
        due.is("as many as that", n, 13);
    }

    // ---- promise 16

    private static void countEdges() {
        due.sentence("SEVEN PAIRS (0), OUTER ones (1) count, or not: 1 if they did, 0. BAD.");
        TileDesk desk = new TileDesk();
        for (int what = SEVEN; what <= OUTER; what++) {
            due.is("not at first", desk.count(what, true), 0);
            due.is("then", desk.count(what, true), 1);
            due.is("the other not", desk.count(1 - what, false), 0);
            due.is("still", desk.count(what, false), 1);
            due.is("no more", desk.count(what, false), 0);
        }
    }

    private static void countBad() {
        due.sentence("SEVEN PAIRS (0), OUTER ones (1) count, or not: 1 if they did, 0. BAD.");
        TileDesk desk = new TileDesk();
        desk.count(OUTER, true);
        for (int what : new int[] {-1, 2, 3, LEAST, GREATEST}) {
            due.is("count " + what, desk.count(what, true), BAD);
            due.is("count " + what, desk.count(what, false), BAD);
        }
        due.is("as it was", desk.count(SEVEN, false), 0);
        due.is("as it was", desk.count(OUTER, false), 1);
    }

    // ---- promise 17

    private static void doneOfEachSize() {
        due.sentence("0 it is not. BAD; NO: it is not FULL.");
        TileDesk desk = new TileDesk();
        int[] tiles = {0, 0, 9, 9, 9, 1, 1, 1, 2, 2, 2, 3, 3, 3};
        for (int n = 0; n < 14; n++) {
            due.is("done at size " + n, desk.done(0), NO);
            due.is("ways at size " + n, desk.ways(0), NO);
            due.is("way at size " + n, desk.way(0, 0, 0), NO);
            due.is("best at size " + n, desk.best(0), NO);
            due.is("worth at size " + n, desk.worth(0), NO);
            due.is("by at size " + n, desk.by(0), NO);
            due.is("holds at size " + n, desk.holds(0, 5), NO);
            Due.hold(desk, 0, tiles[n]);
        }
        due.is("done at 14", desk.done(0), 1);
        due.is("another hand", desk.done(1), NO);
        TileDesk four = Due.laid(new int[] {300, 301, 302, 303}, 5);
        due.is("17 tiles, but of the size 13", four.done(0), NO);
        Due.hold(four, 0, 5);
        due.is("18 tiles of the size 14", four.done(0), 1);
        TileDesk not = Due.laid(new int[] {300, 301, 302, 303}, 5, 6);
        due.is("18 tiles, and no pair", not.done(0), 0);
    }

    private static void doneByWaysAtTheEnds() {
        due.sentence("DONE is a FULL HAND of which what it HOLDS is a PAIR and RUNS, THREES (a WAY; OPEN ones are the others)");
        for (int pair = 0; pair < 34; pair++) {
            TileDesk desk = Due.laid(new int[] {309, 310, 311, 312}, 33);
            if (pair < 9 || pair > 12) {
                desk.clear(0);
                desk = Due.laid(new int[] {309, 310, 311, 312}, pair, pair);
                due.is("a pair of " + pair, desk.done(0), 1);
                due.is("it is the way", desk.way(0, 0, 0), pair);
            }
        }
        for (int three = 0; three < 34; three++) {
            int pair = three == 33 ? 0 : three + 1;
            TileDesk desk = Due.laid(new int[] {}, three, three, three, pair, pair);
            for (int code = 0, laid = 0; laid < 3; code++) {
                if (code != three && code != pair) {
                    Due.lay(desk, 0, 200 + code);
                    laid++;
                }
            }
            due.is("a three of " + three, desk.done(0), 1);
        }
        due.is("five pairs are no way", Due.laid(new int[] {200}, 1, 1, 3, 3, 5, 5, 7, 7, 9, 9, 11).done(0), 0);
        due.is("no pair", Due.holding(0, 0, 0, 9, 9, 9, 18, 18, 18, 27, 27, 27, 30, 31).done(0), 0);
        due.is("two pairs, and three groups", Due.holding(0, 0, 0, 9, 9, 9, 18, 18, 18, 27, 27, 28, 28, 31).done(0), 0);
    }

    private static void doneTheFirstThatHolds() {
        due.sentence("How a HAND is DONE: 1 by a WAY; 2 SEVEN; 3 OUTER (the first that holds)");
        TileDesk both = Due.holding(1, 1, 2, 2, 3, 3, 4, 4, 5, 5, 6, 6, 7, 7);
        both.count(SEVEN, true);
        both.count(OUTER, true);
        due.is("a way ahead of seven", both.done(0), 1);
        due.is("ways", both.ways(0), 3);
        TileDesk seven = Due.holding(0, 0, 8, 8, 9, 9, 17, 17, 18, 18, 26, 26, 33, 33);
        seven.count(SEVEN, true);
        seven.count(OUTER, true);
        due.is("seven outer pairs", seven.done(0), 2);
        seven.count(SEVEN, false);
        due.is("are no outer ones", seven.done(0), 0);
    }

    private static void doneSevenUnlike() {
        due.sentence("or, told to count, none being OPEN: SEVEN unlike PAIRS");
        int[][] hands = {
            {0, 0, 2, 2, 4, 4, 6, 6, 8, 8, 10, 10, 33, 33}, {27, 27, 28, 28, 29, 29, 30, 30, 31, 31, 32, 32, 33, 33},
            {0, 0, 0, 0, 4, 4, 6, 6, 8, 8, 10, 10, 33, 33}, {0, 0, 2, 2, 4, 4, 6, 6, 8, 8, 33, 33, 33, 33},
            {0, 0, 0, 2, 4, 4, 6, 6, 8, 8, 10, 10, 33, 33}, {0, 0, 2, 2, 4, 4, 6, 6, 8, 8, 10, 10, 32, 33},
            {0, 0, 0, 2, 2, 2, 4, 4, 6, 6, 8, 8, 10, 10}, {0, 0, 0, 0, 2, 2, 2, 2, 4, 4, 4, 4, 6, 6},
        };
        for (int n = 0; n < hands.length; n++) {
            TileDesk desk = Due.holding(hands[n]);
            due.is("pairs " + n + ", not told to count", desk.done(0), 0);
            desk.count(SEVEN, true);
            due.is("pairs " + n, desk.done(0), n < 2 ? 2 : 0);
            due.is("pairs " + n + ", worth", desk.worth(0), n < 2 ? 0 : NO);
            desk.count(SEVEN, false);
            due.is("pairs " + n + ", no longer", desk.done(0), 0);
        }
    }

    private static void doneOthersWithOneOpen() {
        due.sentence("or, told to count, none being OPEN: SEVEN unlike PAIRS");
        TileDesk desk = Due.laid(new int[] {333}, 0, 0, 2, 2, 4, 4, 6, 6, 8, 8, 10);
        desk.count(SEVEN, true);
        desk.count(OUTER, true);
        due.is("pairs beside an open four", desk.done(0), 0);
        due.is("how far it is", desk.distance(0) > 0 ? 1 : 0, 1);
        TileDesk outer = Due.laid(new int[] {227}, 0, 8, 9, 17, 18, 26, 28, 29, 30, 31, 32);
        outer.count(OUTER, true);
        due.is("outer ones beside an open three", outer.done(0), 0);
        due.is("how far it is: three groups, a pair, of single ones", outer.distance(0), 3 * 2 + 1 - 1);
        outer.discard(0, 32);
        outer.discard(0, 31);
        due.is("cleared", outer.clear(0), 12);
        Due.hold(outer, 0, 0, 8, 9, 17, 18, 26, 27, 28, 29, 30, 33);
        Due.hold(outer, 0, 31, 32, 33);
        due.is("none being open", outer.done(0), 3);
    }

    private static void doneOuterOneMore() {
        due.sentence("or OUTER ones: each of the thirteen, and one more of them.");
        for (int sort = 0; sort < 34; sort++) {
            TileDesk desk = with(THIRTEEN, sort);
            boolean outer = sort % 9 == 0 || sort % 9 == 8 || sort > 26;
            due.is("not told to count, and " + sort, desk.done(0), 0);
            desk.count(OUTER, true);
            due.is("thirteen and " + sort, desk.done(0), outer ? 3 : 0);
            due.is("its distance", desk.distance(0), 0);
        }
        for (int missing : THIRTEEN) {
            TileDesk desk = new TileDesk();
            desk.count(OUTER, true);
            int twice = missing == 0 ? 8 : 0;
            for (int sort : THIRTEEN) {
                Due.hold(desk, 0, sort == missing ? twice : sort);
            }
            Due.hold(desk, 0, twice);
            due.is("all but " + missing, desk.done(0), 0);
        }
    }

    private static void doneBad() {
        due.sentence("BAD: a number is none that is told, there is no such thing.");
        TileDesk desk = with(NINE_GATES, 9);
        for (int h : Due.NO_HANDS) {
            due.is("done of hand " + h, desk.done(h), BAD);
            due.is("ways of hand " + h, desk.ways(h), BAD);
            due.is("way of hand " + h, desk.way(h, 0, 0), BAD);
            due.is("distance of hand " + h, desk.distance(h), BAD);
            due.is("waits of hand " + h, desk.waits(h, 0), BAD);
            due.is("helps of hand " + h, desk.helps(h, 0), BAD);
            due.is("without of hand " + h, desk.without(h, 9), BAD);
            due.is("more of hand " + h, desk.more(h, 9), BAD);
            due.is("best of hand " + h, desk.best(h), BAD);
        }
        due.is("hand 3", desk.done(3), NO);
        due.is("hand 0", desk.done(0), 1);
    }

    // ---- promises 18 and 19

    private static void waysFromNoneToFour() {
        due.sentence("How many WAYS it has.");
        due.is("none", with(FAR, 31).ways(0), 0);
        due.is("one", with(NINE_GATES, 9).ways(0), 1);
        due.is("two", Due.holding(24, 24, 24, 25, 25, 25, 26, 26, 26, 9, 9, 9, 33, 33).ways(0), 2);
        due.is("three", Due.holding(9, 9, 10, 10, 11, 11, 12, 12, 13, 13, 14, 14, 15, 15).ways(0), 3);
        due.is("four", Due.holding(0, 0, 0, 1, 1, 1, 1, 2, 2, 2, 2, 3, 3, 3).ways(0), 4);
        TileDesk seven = Due.holding(0, 0, 2, 2, 4, 4, 6, 6, 8, 8, 10, 10, 33, 33);
        seven.count(SEVEN, true);
        due.is("seven pairs are no way", seven.ways(0), 0);
        TileDesk outer = with(THIRTEEN, 0);
        outer.count(OUTER, true);
        due.is("outer ones are no way", outer.ways(0), 0);
    }

    private static void waysOfOpenGroupsAlone() {
        due.sentence("The GROUPS of a WAY: the PAIR, then those so found, then OPEN ones as they were laid.");
        TileDesk desk = Due.laid(new int[] {333, 124, 200, 106}, 17, 17);
        due.is("one", desk.ways(0), 1);
        int[] codes = {17, 333, 124, 200, 106};
        for (int k = 0; k < 5; k++) {
            due.is("group " + k, desk.way(0, 0, k), codes[k]);
            due.is("group " + k + " of a second one", desk.way(0, 1, k), NONE);
        }
        desk.discard(0, 17);
        Due.hold(desk, 0, 16);
        due.is("none without a pair", desk.ways(0), 0);
        TileDesk three = Due.laid(new int[] {331, 124, 202}, 3, 4, 5, 5, 5);
        int[] order = {5, 103, 331, 124, 202};
        for (int k = 0; k < 5; k++) {
            due.is("group " + k, three.way(0, 0, k), order[k]);
        }
    }

    private static void waysNo() {
        due.sentence("How many WAYS it has. BAD; NO: it is not FULL.");
        TileDesk desk = Due.holding(NINE_GATES);
        due.is("at rest", desk.ways(0), NO);
        Due.hold(desk, 0, 10);
        due.is("full", desk.ways(0), 1);
        desk.discard(0, 10);
        due.is("at rest again", desk.ways(0), NO);
        due.is("empty", desk.ways(3), NO);
        TileDesk four = Due.holding(9, 9, 9, 9, 10, 10, 10, 11, 11, 11, 12, 12, 12, 33);
        four.open(0, 3, 9);
        due.is("a four laid open makes it rest", four.ways(0), NO);
    }

    private static void wayOrder() {
        due.sentence("which is in a THREE, ahead of a RUN (its THREE stands ahead of RUNS from it: each WAY comes once).");
        TileDesk desk = Due.holding(0, 0, 0, 1, 1, 1, 1, 2, 2, 2, 2, 3, 3, 3);
        int[][] ways = {
            {0, 100, 201, 202, 203}, {0, 100, 101, 101, 101}, {3, 200, 201, 101, 202}, {3, 100, 100, 100, 101},
        };
        for (int i = 0; i < 4; i++) {
            for (int k = 0; k < 5; k++) {
                due.is("way " + i + ", group " + k, desk.way(0, i, k), ways[i][k]);
            }
        }
        TileDesk four = Due.holding(24, 24, 24, 24, 25, 26, 0, 1, 2, 0, 1, 2, 33, 33);
        int[] once = {33, 100, 100, 224, 124};
        due.is("each way comes once", four.ways(0), 1);
        for (int k = 0; k < 5; k++) {
            due.is("group " + k, four.way(0, 0, k), once[k]);
        }
        TileDesk pairs = Due.holding(0, 0, 1, 1, 2, 2, 3, 3, 4, 4, 5, 5, 6, 6);
        int[][] byPair = {{0, 101, 101, 104, 104}, {3, 100, 100, 104, 104}, {6, 100, 100, 103, 103}};
        for (int i = 0; i < 3; i++) {
            for (int k = 0; k < 5; k++) {
                due.is("by the sort of the pair, way " + i + ", group " + k, pairs.way(0, i, k), byPair[i][k]);
            }
        }
    }

    private static void wayFoursAreOpenAlone() {
        due.sentence("(FOURS are OPEN alone.)");
        TileDesk held = Due.holding(0, 0, 0, 0, 9, 9, 9, 18, 18, 18, 27, 27, 27, 33);
        due.is("a held four is no group", held.done(0), 0);
        held.open(0, 3, 0);
        Due.hold(held, 0, 33);
        due.is("an open one is", held.done(0), 1);
        due.is("the last of the way", held.way(0, 0, 4), 300);
        due.is("ahead of it a three", held.way(0, 0, 3), 227);
        TileDesk pairs = Due.holding(5, 5, 5, 5, 9, 9, 9, 18, 18, 18, 27, 27, 27, 4);
        due.is("two pairs of a four", pairs.done(0), 0);
    }

    private static void wayNoneSuch() {
        due.sentence("The CODE of GROUP k (0 to 4) of its i-th WAY. NONE: none such.");
        TileDesk desk = with(NINE_GATES, 17);
        for (int k = 0; k < 5; k++) {
            for (int i : new int[] {1, 2, 4, 8, 100, GREATEST, -1, LEAST}) {
                due.is("way " + i + ", group " + k, desk.way(0, i, k), NONE);
            }
        }
        due.is("the last group of the last way", desk.way(0, 0, 4), 217);
        TileDesk four = Due.holding(0, 0, 0, 1, 1, 1, 1, 2, 2, 2, 2, 3, 3, 3);
        due.is("the fourth way", four.way(0, 3, 4), 101);
        due.is("a fifth way", four.way(0, 4, 0), NONE);
        TileDesk not = with(FAR, 31);
        due.is("of a hand that is not done", not.way(0, 0, 0), NONE);
        due.is("after one that is", with(NINE_GATES, 9).way(0, 0, 0), 17);
    }

    private static void wayBad() {
        due.sentence("BAD: k; NO.");
        TileDesk desk = with(NINE_GATES, 17);
        for (int k : new int[] {-1, 5, 6, LEAST, GREATEST}) {
            due.is("k " + k, desk.way(0, 0, k), BAD);
            due.is("k " + k + " of no such way", desk.way(0, 9, k), BAD);
            due.is("k " + k + " of a hand that is not full", desk.way(1, 0, k), BAD);
        }
        due.is("not full ahead of none such", desk.way(1, 9, 4), NO);
    }

    // ---- promise 20

    private static void distanceOfEachSize() {
        due.sentence("THE DISTANCE. BAD; NO: it neither RESTS nor is FULL.");
        TileDesk desk = new TileDesk();
        for (int n = 0; n < 13; n++) {
            due.is("size " + n, desk.distance(0), NO);
            Due.hold(desk, 0, NINE_GATES[n]);
        }
        due.is("at rest", desk.distance(0), 0);
        Due.hold(desk, 0, 33);
        due.is("full", desk.distance(0), 0);
        TileDesk open = Due.laid(new int[] {300, 301, 302, 303});
        due.is("16 tiles of the size 12", open.distance(0), NO);
        Due.hold(open, 0, 33);
        due.is("17 tiles of the size 13", open.distance(0), 0);
        Due.hold(open, 0, 32);
        due.is("18 tiles of the size 14", open.distance(0), 0);
    }

    private static void distanceLeastAndGreatest() {
        due.sentence("THE DISTANCE of one that RESTS is THE LACK, less 1; of a FULL one the least of those without one tile that it HOLDS.");
        due.is("thirteen unlike ones, far from each other", Due.holding(FAR).distance(0), 8);
        due.is("and one more", with(FAR, 31).distance(0), 8);
        due.is("and a second of one", with(FAR, 30).distance(0), 7);
        due.is("done", with(NINE_GATES, 13).distance(0), 0);
        due.is("done without any tile of it", with(NINE_GATES, 13).without(0, 13), 0);
        due.is("behind one open", Due.laid(new int[] {231}, 1, 4, 7, 10, 13, 16, 19, 22, 25, 27).distance(0), 6);
        due.is("behind two open", Due.laid(new int[] {231, 232}, 1, 4, 7, 10, 13, 16, 19).distance(0), 4);
        due.is("behind three open", Due.laid(new int[] {231, 232, 230}, 1, 4, 7, 10).distance(0), 2);
        due.is("behind four open", Due.laid(new int[] {231, 232, 230, 229}, 1).distance(0), 0);
        due.is("behind four open, full", Due.laid(new int[] {231, 232, 230, 229}, 1, 4).distance(0), 0);
    }

    private static void distanceOfOthers() {
        due.sentence("or, told to count, none being OPEN: SEVEN unlike PAIRS");
        TileDesk fours = Due.holding(0, 0, 0, 0, 2, 2, 2, 2, 4, 4, 4, 4, 20);
        fours.count(SEVEN, true);
        due.is("three fours: by ways, a pair of 20 and a group", fours.distance(0), 1);
        TileDesk pairs = Due.holding(1, 1, 4, 4, 7, 7, 10, 10, 13, 13, 16, 16, 16);
        pairs.count(SEVEN, true);
        due.is("six pairs and a third one", pairs.distance(0), 1);
        pairs.discard(0, 16);
        Due.hold(pairs, 0, 33);
        due.is("six pairs and another", pairs.distance(0), 0);
        Due.hold(pairs, 0, 33);
        due.is("seven pairs", pairs.distance(0), 0);
        TileDesk far = Due.holding(FAR);
        far.count(SEVEN, true);
        due.is("seven single ones", far.distance(0), 6);
        far.count(OUTER, true);
        due.is("nearer than four outer ones", far.distance(0), 6);
        TileDesk outer = Due.holding(THIRTEEN);
        outer.count(SEVEN, true);
        due.is("thirteen outer ones as pairs", outer.distance(0), 6);
        outer.count(OUTER, true);
        due.is("thirteen outer ones", outer.distance(0), 0);
        outer.discard(0, 33);
        Due.hold(outer, 0, 1);
        due.is("twelve outer ones and no pair", outer.distance(0), 1);
        outer.discard(0, 1);
        Due.hold(outer, 0, 32);
        due.is("twelve outer ones and a pair", outer.distance(0), 0);
        outer.discard(0, 0);
        Due.hold(outer, 0, 32);
        due.is("eleven outer ones and a pair", outer.distance(0), 1);
    }

    private static void distanceNoMoreThanFour() {
        due.sentence("so that it would be DONE, with no more than four of a SORT among these and its OPEN ones.");
        due.is("a four, and three groups", Due.holding(0, 1, 2, 9, 10, 11, 18, 19, 20, 30, 30, 30, 30).distance(0), 1);
        due.is("a three, and three groups", Due.holding(0, 1, 2, 9, 10, 11, 18, 19, 20, 30, 30, 30, 31).distance(0), 0);
        due.is("single behind its open three", Due.laid(new int[] {200, 201, 202, 203}, 3).distance(0), 1);
        due.is("two behind their open threes", Due.laid(new int[] {200, 201, 202, 203}, 3, 2).distance(0), 1);
        due.is("single behind an open run", Due.laid(new int[] {100, 201, 202, 203}, 0).distance(0), 0);
        due.is("a pair behind open runs", Due.laid(new int[] {100, 100, 205, 206}, 0).distance(0), 0);
        due.is("the last one of four", Due.laid(new int[] {100, 100, 100, 206}, 0).distance(0), 1);
        due.is("a run's side of which four are open", Due.laid(new int[] {302}, 0, 1, 5, 5, 5, 6, 6, 6, 33, 33).distance(0), 1);
        due.is("a run's side of which three are open", Due.laid(new int[] {202}, 0, 1, 5, 5, 5, 6, 6, 6, 33, 33).distance(0), 0);
        TileDesk others = Due.laid(new int[] {200}, 3, 4, 20, 20, 20, 31, 31, 31, 33, 33);
        Due.lay(others, 1, 302);
        Due.lay(others, 2, 305);
        due.is("fours open in other hands do not count", others.distance(0), 0);
        waits("what is open in other hands may be waited for", others, 2, 5);
    }

    // ---- promise 21

    private static void waitsFromNoneToThirteen() {
        due.sentence("The i-th SORT for which it WAITS, rising; NONE. BAD: i below 0; NO: it does not REST.");
        TileDesk outer = Due.holding(THIRTEEN);
        waits("none", outer);
        outer.count(OUTER, true);
        waits("thirteen", outer, THIRTEEN);
        due.is("i far", outer.waits(0, GREATEST), NONE);
        due.is("i far", outer.waits(0, 34), NONE);
        waits("nine", Due.holding(NINE_GATES), 9, 10, 11, 12, 13, 14, 15, 16, 17);
        waits("sort 0 alone", Due.laid(new int[] {208, 217, 226, 233}, 0), 0);
        waits("sort 33 alone", Due.laid(new int[] {208, 217, 226, 200}, 33), 33);
        waits("the first and the last sort", Due.holding(0, 0, 33, 33, 4, 4, 4, 13, 13, 13, 22, 22, 22), 0, 33);
        TileDesk one = Due.holding(9, 10, 11, 20, 21, 27, 27, 27, 28, 28, 28, 30, 31);
        due.is("at the distance 1", one.distance(0), 1);
        waits("at the distance 1", one);
    }

    private static void waitsNotOfFour() {
        due.sentence("but none of which it has four, HELD and OPEN.");
        waits("four held: a fifth would be 012, 012 and 000", Due.holding(0, 0, 0, 0, 1, 1, 2, 2, 9, 9, 9, 33, 33), 3, 33);
        waits("four open", Due.laid(new int[] {302}, 3, 4, 20, 20, 20, 31, 31, 31, 33, 33), 5);
        waits("three open, one held", Due.laid(new int[] {205}, 3, 4, 5, 6, 7, 27, 27, 27, 33, 33), 2, 8);
        waits("two open, two held", Due.laid(new int[] {105, 105}, 3, 4, 5, 5, 33, 33, 33), 2);
        waits("three open, none held", Due.laid(new int[] {205}, 3, 4, 20, 20, 20, 31, 31, 31, 33, 33), 2, 5);
        waits("its last one of four held and open", Due.laid(new int[] {100, 100, 100, 233}, 0));
    }

    private static void waitsBadAndNo() {
        due.sentence("The i-th SORT for which it WAITS, rising; NONE. BAD: i below 0; NO: it does not REST.");
        TileDesk desk = Due.holding(NINE_GATES);
        Due.hold(desk, 2, 0);
        for (int h : new int[] {0, 1, 2, -1, 4}) {
            due.is("i -1 of hand " + h, desk.waits(h, -1), BAD);
            due.is("i far below of hand " + h, desk.waits(h, LEAST), BAD);
        }
        due.is("empty", desk.waits(1, 0), NO);
        due.is("of one tile", desk.waits(2, GREATEST), NO);
        due.is("at rest", desk.waits(0, 0), 9);
        Due.hold(desk, 0, 33);
        due.is("full", desk.waits(0, 0), NO);
        desk.discard(0, 33);
        desk.discard(0, 9);
        due.is("twelve", desk.waits(0, 0), NO);
        due.is("twelve by open fours", Due.laid(new int[] {300, 301, 302, 303}).waits(0, 0), NO);
    }

    // ---- promise 22

    private static void helpsAtZeroAndFar() {
        due.sentence("SORTS HELP that would make THE DISTANCE of the FULL one less by one (at 0: those for which it WAITS)");
        helps("at 0", Due.holding(NINE_GATES), 9, 10, 11, 12, 13, 14, 15, 16, 17);
        TileDesk outer = Due.holding(THIRTEEN);
        outer.count(OUTER, true);
        helps("at 0, outer ones", outer, THIRTEEN);
        TileDesk far = Due.holding(FAR);
        due.is("far", far.distance(0), 8);
        // Runs can be made of two sides of any single one of rows 0 to 2: all sorts of these, and those held of row 3.
        for (int i = 0; i < 31; i++) {
            due.is("far, helps " + i, far.helps(0, i), i);
        }
        due.is("far, helps no more", far.helps(0, 31), NONE);
        due.is("i far", far.helps(0, GREATEST), NONE);
        TileDesk all = Due.holding(0, 1, 2, 9, 10, 11, 18, 19, 20, 30, 30, 30, 30);
        due.is("at 1", all.distance(0), 1);
        for (int i = 0; i < 33; i++) {
            due.is("all but the four, helps " + i, all.helps(0, i), i < 30 ? i : i + 1);
        }
        due.is("and no more", all.helps(0, 33), NONE);
    }

    private static void helpsOfSeven() {
        due.sentence("or, told to count, none being OPEN: SEVEN unlike PAIRS");
        int[] sixSorts = {1, 1, 4, 4, 7, 7, 10, 10, 13, 13, 16, 16, 16};
        TileDesk six = Due.holding(sixSorts);
        six.count(SEVEN, true);
        due.is("six sorts, at the distance", six.distance(0), 1);
        for (int sort = 0, i = 0; sort < 34; sort++) {
            if (six.tiles(sort, 2) == 0) {
                due.is("six sorts: any other", six.helps(0, i), sort);
                i++;
            }
        }
        due.is("six sorts, and no more", six.helps(0, 28), NONE);
        TileDesk seven = Due.holding(1, 1, 1, 4, 4, 7, 7, 10, 10, 13, 13, 16, 33);
        seven.count(SEVEN, true);
        due.is("seven sorts, at the distance", seven.distance(0), 1);
        helps("seven sorts: the single ones", seven, 16, 33);
        TileDesk eight = Due.holding(0, 4, 4, 7, 7, 10, 10, 13, 13, 16, 16, 30, 33);
        eight.count(SEVEN, true);
        due.is("eight sorts, at the distance", eight.distance(0), 1);
        helps("eight sorts: the single ones", eight, 0, 30, 33);
        TileDesk far = Due.holding(1, 1, 1, 1, 10, 10, 10, 10, 22, 22, 22, 25, 33);
        far.count(SEVEN, true);
        due.is("five sorts: nearer by ways", far.distance(0), 2);
    }

    private static void helpsOfOuter() {
        due.sentence("or OUTER ones: each of the thirteen, and one more of them.");
        TileDesk twelve = Due.holding(0, 8, 9, 17, 18, 26, 27, 28, 29, 30, 31, 32, 13);
        twelve.count(OUTER, true);
        due.is("twelve and no pair, at the distance", twelve.distance(0), 1);
        helps("twelve and no pair: any of the thirteen", twelve, THIRTEEN);
        twelve.discard(0, 13);
        Due.hold(twelve, 0, 32);
        helps("twelve and a pair: the one that is missing", twelve, 33);
        TileDesk last = Due.holding(33, 33, 8, 9, 17, 18, 26, 27, 28, 29, 30, 31, 13);
        last.count(OUTER, true);
        due.is("eleven and a pair, at the distance", last.distance(0), 1);
        helps("eleven and a pair: those that are missing", last, 0, 32);
        TileDesk three = Due.holding(33, 33, 33, 8, 9, 17, 18, 26, 27, 28, 29, 30, 31);
        three.count(OUTER, true);
        due.is("eleven and a three, at the distance", three.distance(0), 1);
        helps("eleven and a three: those that are missing", three, 0, 32);
    }

    private static void helpsNotOfFour() {
        due.sentence("but none of which it has four, HELD and OPEN.");
        TileDesk four = Due.laid(new int[] {302}, 0, 1, 5, 5, 5, 6, 6, 6, 33, 33);
        due.is("at 1, as 2 cannot come", four.distance(0), 1);
        for (int i = 0; i < 34; i++) {
            due.is("2 helps not, " + i, four.helps(0, i) == 2 ? 1 : 0, 0);
        }
        TileDesk single = Due.laid(new int[] {200, 201, 202, 203}, 3);
        for (int i = 0, sort = 4; sort < 34; sort++, i++) {
            due.is("any for a pair but those of which three are open", single.helps(0, i), sort);
        }
        due.is("no more", single.helps(0, 30), NONE);
        helps("at 0", Due.holding(0, 0, 0, 0, 1, 1, 2, 2, 9, 9, 9, 33, 33), 3, 33);
    }

    private static void helpsBadAndNo() {
        due.sentence("The i-th SORT that HELPS, rising; NONE. BAD: i below 0; NO: it does not REST.");
        TileDesk desk = Due.holding(FAR);
        Due.hold(desk, 2, 0);
        for (int h : new int[] {0, 1, 2, -1, 4}) {
            due.is("i -1 of hand " + h, desk.helps(h, -1), BAD);
            due.is("i far below of hand " + h, desk.helps(h, LEAST), BAD);
        }
        due.is("empty", desk.helps(1, 0), NO);
        due.is("of one tile", desk.helps(2, GREATEST), NO);
        due.is("at rest", desk.helps(0, 0), 0);
        Due.hold(desk, 0, 33);
        due.is("full", desk.helps(0, 0), NO);
        desk.discard(0, 33);
        desk.discard(0, 30);
        due.is("twelve", desk.helps(0, 0), NO);
        due.is("twelve by open fours", Due.laid(new int[] {300, 301, 302, 303}).helps(0, 0), NO);
    }

    // ---- promises 23 and 24

    private static void withoutEdges() {
        due.sentence("THE DISTANCE of a FULL HAND without a tile of a SORT.");
        TileDesk desk = with(NINE_GATES, 13);
        for (int sort = 0; sort < 34; sort++) {
            due.is("done, without " + sort, desk.without(0, sort), sort >= 9 && sort <= 17 ? 0 : NO);
        }
        TileDesk ends = Due.holding(0, 0, 0, 4, 4, 4, 13, 13, 13, 22, 22, 22, 32, 33);
        due.is("without the first sort", ends.without(0, 0), 1);
        due.is("without the last sort", ends.without(0, 33), 0);
        TileDesk far = with(FAR, 31);
        for (int sort : FAR) {
            due.is("far, without " + sort, far.without(0, sort), 8);
        }
        TileDesk open = Due.laid(new int[] {200, 201, 202, 203}, 3, 33);
        due.is("without the single that may be a pair", open.without(0, 33), 1);
        due.is("without the one whose others are open", open.without(0, 3), 0);
        due.is("without one that is open alone", open.without(0, 0), NO);
    }

    private static void withoutRefusals() {
        due.sentence("BAD; NO: it is not FULL, or HOLDS none.");
        TileDesk desk = with(NINE_GATES, 13);
        Due.hold(desk, 1, 0, 1, 2, 3, 4, 5, 6, 7, 8, 18, 19, 20, 21);
        for (int sort : Due.NO_SORTS) {
            due.is("without " + sort, desk.without(0, sort), BAD);
            due.is("more, without " + sort, desk.more(0, sort), BAD);
            due.is("without " + sort + ", at rest", desk.without(1, sort), BAD);
            due.is("more, without " + sort + ", at rest", desk.more(2, sort), BAD);
        }
        due.is("at rest", desk.without(1, 0), NO);
        due.is("more, at rest", desk.more(1, 0), NO);
        due.is("empty", desk.without(2, 0), NO);
        due.is("more, empty", desk.more(2, 0), NO);
        due.is("it holds none", desk.without(0, 0), NO);
        due.is("more, it holds none", desk.more(0, 0), NO);
        due.is("all are held still", desk.about(0, 1), 14);
        TileDesk four = Due.laid(new int[] {300, 301, 302}, 4, 4, 4, 4, 5);
        due.is("full", four.without(0, 5), 1);
        four.open(0, 3, 4);
        due.is("a four laid open makes it rest", four.without(0, 5), NO);
        due.is("a four laid open makes it rest", four.more(0, 5), NO);
    }

    private static void moreEdges() {
        due.sentence("How many tiles that are not SEEN HELP it then (the one that is without it is still SEEN).");
        TileDesk gates = with(NINE_GATES, 33);
        due.is("nine sorts", gates.more(0, 33), 23);
        TileDesk none = Due.laid(new int[] {200, 201, 202, 203}, 32, 33);
        due.is("three", none.more(0, 33), 3);
        for (int n = 2; n >= 0; n--) {
            Due.throwAway(none, 1, 32);
            due.is("thrown in the meantime", none.more(0, 33), n);
        }
        due.is("the other is as it was", none.more(0, 32), 3);
        Due.hold(none, 2, 33, 33, 33);
        due.is("held by another is not seen", none.more(0, 32), 3);
        none.open(2, 2, 33);
        due.is("open in another is", none.more(0, 32), 0);
        due.is("not seen by the other are as many", none.unseen(0), 136 - 12 - 2 - 3 - 3);
        TileDesk far = with(FAR, 31);
        due.is("far: all of rows 0 to 2, and three each of 27 to 30", far.more(0, 31), 27 * 4 - 9 + 12);
    }

    private static void moreStillSeen() {
        due.sentence("(the one that is without it is still SEEN)");
        TileDesk desk = Due.laid(new int[] {208, 217, 226, 200}, 33, 33);
        due.is("one of its pair", desk.more(0, 33), 2);
        Due.throwAway(desk, 1, 33, 33);
        due.is("both others being thrown", desk.more(0, 33), 0);
        TileDesk four = Due.holding(0, 0, 0, 0, 1, 2, 9, 9, 9, 18, 18, 18, 33, 33);
        due.is("four of 3, two of 33, and none of 0", four.more(0, 0), 4 + 2);
        four.discard(0, 0);
        waits("0 helps without it", four, 0, 3, 33);
        due.is("but is seen", four.odds(0, 1), 4 + 2);
    }

    // ---- promise 25

    private static void bestEdges() {
        due.sentence("The SORT to throw: without which THE DISTANCE is least; of these by which most tiles HELP; of these the least.");
        due.is("the first sort", Due.laid(new int[] {208, 217, 226, 201}, 0, 33).best(0), 0);
        TileDesk last = Due.laid(new int[] {208, 217, 226, 201}, 0, 33);
        Due.throwAway(last, 1, 33);
        due.is("most are left of the first sort", last.best(0), 33);
        Due.throwAway(last, 1, 0);
        due.is("as many of each: the least", last.best(0), 0);
        Due.throwAway(last, 1, 0);
        due.is("more are left of the last sort", last.best(0), 0);
        Due.throwAway(last, 1, 33, 33, 0);
        due.is("none are left of either: the least", last.best(0), 0);
        due.is("done", with(NINE_GATES, 13).best(0) >= 9 ? 1 : 0, 1);
        due.is("done by threes: all alike but for the pair", Due.holding(1, 1, 1, 4, 4, 4, 13, 13, 13, 22, 22, 22, 33, 33).best(0), 1);
        TileDesk one = Due.laid(new int[] {208, 217, 226, 201}, 33, 33);
        due.is("of one sort alone", one.best(0), 33);
        TileDesk distance = Due.holding(0, 0, 0, 4, 4, 4, 13, 13, 13, 22, 22, 22, 32, 33);
        due.is("the distance ahead of what helps", distance.best(0), 32);
        TileDesk outer = with(THIRTEEN, 5);
        outer.count(OUTER, true);
        due.is("outer ones", outer.best(0), 5);
    }

    private static void bestWhenNothingHelps() {
        due.sentence("The SORT to throw: without which THE DISTANCE is least; of these by which most tiles HELP; of these the least.");
        TileDesk desk = Due.laid(new int[] {208, 217, 226}, 0, 0, 0, 32, 33);
        due.is("a single one", desk.best(0), 32);
        Due.throwAway(desk, 1, 33, 33, 33);
        due.is("nothing can come of 33", desk.best(0), 33);
        Due.throwAway(desk, 1, 32, 32, 32);
        due.is("nothing helps without 32", desk.more(0, 32), 0);
        due.is("nothing helps without 33", desk.more(0, 33), 0);
        due.is("farther without 0, but much helps", desk.without(0, 0), 1);
        due.is("the distance all the same", desk.best(0), 32);
    }

    private static void bestRefusals() {
        due.sentence("of these the least. BAD; NO: it is not FULL.");
        TileDesk desk = Due.holding(NINE_GATES);
        due.is("at rest", desk.best(0), NO);
        due.is("empty", desk.best(1), NO);
        Due.hold(desk, 0, 33);
        due.is("full", desk.best(0), 33);
        desk.discard(0, 33);
        due.is("at rest again", desk.best(0), NO);
        TileDesk four = Due.laid(new int[] {300, 301, 302}, 4, 4, 4, 4, 5);
        due.is("full: a three and a pair wait for it", four.best(0), 4);
        four.open(0, 3, 4);
        due.is("a four laid open makes it rest", four.best(0), NO);
    }
}
