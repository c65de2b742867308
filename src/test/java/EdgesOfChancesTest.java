import java.util.ArrayList;
import java.util.List;

/** The boundary cases of promises 26 to 29, sentence by sentence of the document. */
public final class EdgesOfChancesTest {
    private static final Due due = new Due("EdgesOfChancesTest");
    private static final int BAD = Due.BAD, NO = Due.NO, NONE = Due.NONE, LEAST = Due.LEAST, GREATEST = Due.GREATEST;

    public static void main(String[] args) {
        lackOfNothing();
        lackOfAHandOfAnySize();
        lackAtTheEndsOfRows();
        lackOfRow3();
        lackNoMoreThanFour();
        lackNone();
        lackNoneBehindRuns();
        lackBad();
        oddsOfAPair();
        oddsOfNothingNear();
        oddsOfFewNotSeen();
        oddsOfOneNotSeen();
        oddsOfNothingNotSeen();
        oddsOfTwoByTheFirstOne();
        oddsOfTheBestTile();
        oddsOfOthers();
        oddsBadAndNo();
        unseenFromAllToNone();
        unseenOfEach();
        unseenBad();
        alikeOfNone();
        alikeTurned();
        alikeInAnotherOrder();
        alikeOfRow3();
        alikeOfAllThatRow3MayBe();
        alikeButForOne();
        alikeHeldAlone();
        alikeBad();
        due.end();
    }

    // ---- promise 26

    private static void lackOfNothing() {
        due.sentence("g GROUPS (0 to 4; RUNS, THREES) and p PAIRS (0, 1) could be taken of it");
        TileDesk desk = Due.holding(0, 9, 18, 27);
        for (int row = 0; row < 4; row++) {
            due.is("nothing of row " + row, desk.lack(0, row, 0, 0), 0);
            due.is("nothing of row " + row + ", none held", desk.lack(3, row, 0, 0), 0);
            for (int g = 0; g <= 4; g++) {
                for (int p = 0; p <= 1; p++) {
                    due.is("none held, " + g + " and " + p, desk.lack(3, row, g, p), 3 * g + 2 * p);
                    int one = g + p == 0 ? 0 : 1;
                    due.is("one held, " + g + " and " + p, desk.lack(0, row, g, p), 3 * g + 2 * p - one);
                }
            }
        }
    }

    private static void lackOfAHandOfAnySize() {
        due.sentence("The fewest tiles that are to come to what a HAND HOLDS of a ROW (0 to 3)");
        TileDesk desk = new TileDesk();
        int[] tiles = {0, 0, 1, 1, 2, 2, 3, 3, 4, 4, 5, 5, 6, 6};
        int[] all = {14, 13, 12, 11, 10, 9, 8, 7, 6, 5, 4, 3, 2, 1, 0};
        for (int n = 0; n <= 14; n++) {
            due.is("size " + n, desk.lack(0, 0, 4, 1), all[n]);
            due.is("another row at size " + n, desk.lack(0, 1, 4, 1), 14);
            if (n < 14) {
                Due.hold(desk, 0, tiles[n]);
            }
        }
        due.is("less of it", desk.lack(0, 0, 2, 1), 0);
        TileDesk open = Due.laid(new int[] {100, 103, 106}, 9, 9, 9, 0, 1);
        due.is("open ones are not held: 0 and 1 are", open.lack(0, 0, 1, 0), 1);
        due.is("a full hand with three open", open.lack(0, 1, 1, 0), 0);
        due.is("more groups than are wanted then", open.lack(0, 1, 4, 1), 11);
    }

    private static void lackAtTheEndsOfRows() {
        due.sentence("1 RUN, its SORT and the next two, of one ROW 0 to 2");
        int[][] pairs = {{0, 1}, {0, 2}, {6, 8}, {7, 8}, {0, 8}, {8, 9}, {16, 18}, {17, 18}, {25, 26}, {26, 27}, {24, 26}};
        int[] lacks = {1, 1, 1, 1, 2, 2, 2, 2, 1, 2, 1};
        for (int n = 0; n < pairs.length; n++) {
            TileDesk desk = Due.holding(pairs[n]);
            int row = pairs[n][0] / 9;
            due.is("a group of " + pairs[n][0] + " and " + pairs[n][1], desk.lack(0, row, 1, 0), lacks[n]);
        }
        TileDesk whole = Due.holding(0, 1, 2, 3, 4, 5, 6, 7, 8);
        due.is("a whole row", whole.lack(0, 0, 3, 0), 0);
        due.is("and a pair", whole.lack(0, 0, 3, 1), 2);
        due.is("the row behind it", whole.lack(0, 1, 3, 0), 9);
        due.is("two groups and a pair of it", whole.lack(0, 0, 2, 1), 1);
    }

    private static void lackOfRow3() {
        due.sentence("27 to 33 are ROW 3, and stand by themselves.");
        TileDesk desk = Due.holding(27, 28, 29, 30, 31, 32, 33);
        for (int g = 0; g <= 4; g++) {
            for (int p = 0; p <= 1; p++) {
                due.is("one of each, " + g + " and " + p, desk.lack(0, 3, g, p), 2 * g + p);
            }
        }
        TileDesk ends = Due.holding(27, 27, 27, 33, 33);
        due.is("its first and its last sort", ends.lack(0, 3, 1, 1), 0);
        due.is("two groups", ends.lack(0, 3, 2, 0), 1);
        due.is("no sorts of another row", ends.lack(0, 2, 1, 1), 5);
    }

    private static void lackNoMoreThanFour() {
        due.sentence("with no more than four of a SORT, OPEN ones too.");
        due.is("a three and a pair of one sort", Due.holding(27, 27, 27, 27).lack(0, 3, 1, 1), 2);
        due.is("a three and a run of one sort", Due.holding(0, 0, 0, 0).lack(0, 0, 2, 0), 2);
        due.is("a second three of it", Due.holding(30, 30, 30, 30).lack(0, 3, 2, 0), 3);
        TileDesk three = Due.laid(new int[] {233}, 33);
        due.is("a pair with the last one", three.lack(0, 3, 0, 1), 2);
        TileDesk run = Due.laid(new int[] {100}, 0, 0);
        due.is("a three with the last ones", run.lack(0, 0, 1, 0), 1);
        TileDesk runs = Due.laid(new int[] {100, 100}, 0, 0);
        due.is("a third one of them is none", runs.lack(0, 0, 1, 0), 2);
        TileDesk two = Due.laid(new int[] {100, 100}, 0, 1);
        due.is("a run beside two open ones", two.lack(0, 0, 1, 0), 1);
        TileDesk beside = Due.laid(new int[] {100, 100, 100}, 0, 1);
        due.is("a run beside three open ones", beside.lack(0, 0, 1, 0), 1);
        due.is("two of them", beside.lack(0, 0, 2, 0), 4);
    }

    private static void lackNone() {
        due.sentence("NONE: there is no way to have them. BAD.");
        int[] codes = {327, 228, 233, 332};
        TileDesk desk = new TileDesk();
        for (int laid = 0; laid <= 4; laid++) {
            int sorts = 7 - laid;
            for (int g = 0; g <= 4; g++) {
                for (int p = 0; p <= 1; p++) {
                    int want = g + p <= sorts ? 3 * g + 2 * p : NONE;
                    due.is(laid + " laid, " + g + " and " + p, desk.lack(0, 3, g, p), want);
                    due.is("another hand", desk.lack(1, 3, g, p), 3 * g + 2 * p);
                    due.is("another row", desk.lack(0, 0, g, p), 3 * g + 2 * p);
                }
            }
            if (laid < 4) {
                Due.lay(desk, 0, codes[laid]);
            }
        }
        Due.hold(desk, 0, 28, 33);
        due.is("the last ones held", desk.lack(0, 3, 4, 0), NONE);
        due.is("the last ones held", desk.lack(0, 3, 3, 1), NONE);
        due.is("are in no pair", desk.lack(0, 3, 0, 1), 2);
    }

    private static void lackNoneBehindRuns() {
        due.sentence("NONE: there is no way to have them. BAD.");
        TileDesk fours = Due.laid(new int[] {301, 304, 307, 302});
        due.is("rows of runs have more ways: all of five sorts", fours.lack(0, 0, 4, 1), 14);
        TileDesk spread = Due.laid(new int[] {300, 303, 306, 308});
        due.is("all of five sorts", spread.lack(0, 0, 4, 1), 14);
    }

    private static void lackBad() {
        due.sentence("NONE: there is no way to have them. BAD.");
        TileDesk desk = Due.holding(0, 0, 0);
        for (int h : Due.NO_HANDS) {
            due.is("hand " + h, desk.lack(h, 0, 0, 0), BAD);
        }
        for (int row : new int[] {-1, 4, 5, LEAST, GREATEST}) {
            due.is("row " + row, desk.lack(0, row, 0, 0), BAD);
        }
        for (int g : new int[] {-1, 5, 6, LEAST, GREATEST}) {
            due.is(g + " groups", desk.lack(0, 0, g, 0), BAD);
            due.is(g + " groups of row 3", desk.lack(0, 3, g, 1), BAD);
        }
        for (int p : new int[] {-1, 2, 3, LEAST, GREATEST}) {
            due.is(p + " pairs", desk.lack(0, 0, 0, p), BAD);
            due.is(p + " pairs of row 3", desk.lack(0, 3, 4, p), BAD);
        }
        due.is("hand 3, row 3, 4 and 1", desk.lack(3, 3, 4, 1), 14);
    }

    // ---- promise 27

    /** Of a hand of four open groups and one tile: the tiles of its sort that are left; or of any other sort, twice. */
    private static void oddsOfAPair() {
        due.sentence("CHANCES: each tile that is not SEEN may come next, all alike.");
        TileDesk desk = Due.laid(new int[] {300, 309, 318, 327}, 33);
        int[] ones = {3, 2, 1, 0};
        for (int thrown = 0; thrown <= 3; thrown++) {
            int left = 119 - thrown;
            due.is("not seen", desk.unseen(0), left);
            due.is("odds of 1", desk.odds(0, 1), ones[thrown]);
            // The first one makes it done; or another one comes, of which three are left, and is kept if more are.
            due.is("odds of 2", desk.odds(0, 2), ones[thrown] * (left - 1) + (left - ones[thrown]) * 3);
            if (thrown < 3) {
                Due.throwAway(desk, 1, 33);
            }
        }
        Due.hold(desk, 2, 32, 32, 32, 32);
        due.is("held by another is not seen", desk.odds(0, 2), 116 * 3);
        desk.open(2, 3, 32);
        due.is("open in another is", desk.odds(0, 2), 112 * 3);
    }

    private static void oddsOfNothingNear() {
        due.sentence("ODDS of 1: how many of these make it DONE.");
        TileDesk far = Due.holding(1, 4, 7, 10, 13, 16, 19, 22, 25, 27, 28, 29, 30);
        due.is("far, odds of 1", far.odds(0, 1), 0);
        due.is("far, odds of 2", far.odds(0, 2), 0);
        TileDesk one = Due.holding(0, 0, 0, 9, 9, 9, 18, 18, 18, 27, 27, 29, 31);
        due.is("at the distance 1", one.distance(0), 1);
        due.is("odds of 1 at the distance 1", one.odds(0, 1), 0);
        // 27 (2 tiles), then 29 or 31, whichever is kept (3); 29, or 31 (3 tiles each), then 27 or that again (2 and 2).
        due.is("odds of 2 at the distance 1", one.odds(0, 2), 2 * 3 + 3 * 4 + 3 * 4);
        TileDesk two = Due.holding(0, 0, 0, 9, 9, 9, 18, 18, 18, 27, 29, 31, 33);
        due.is("at the distance 2", two.distance(0), 2);
        due.is("odds of 2 at the distance 2", two.odds(0, 2), 0);
        TileDesk four = Due.laid(new int[] {200, 209, 218, 227}, 27);
        due.is("none of which it has four", four.odds(0, 1), 0);
    }

    /** A desk of which hand 0 has four open fours and holds 33; all is thrown but these. */
    private static TileDesk left(int... tiles) {
        TileDesk desk = Due.laid(new int[] {300, 301, 302, 303}, 33);
        int[] keep = new int[34];
        for (int sort : tiles) {
            keep[sort]++;
        }
        for (int sort = 4; sort < 34; sort++) {
            for (int n = keep[sort] + (sort == 33 ? 1 : 0); n < 4; n++) {
                Due.throwAway(desk, 1, sort);
            }
        }
        due.is("not seen", desk.unseen(0), tiles.length);
        return desk;
    }

    private static void oddsOfFewNotSeen() {
        due.sentence("ODDS of 2: of all rows of two that may come how many make it DONE by the first one, or, the best tile being thrown ahead of the second one (the one by which most are DONE then), by that.");
        TileDesk two = left(33, 32);
        due.is("33 and 32, odds of 1", two.odds(0, 1), 1);
        due.is("33 and 32: each row of the two has 33", two.odds(0, 2), 2);
        TileDesk pair = left(32, 32);
        due.is("32 twice, odds of 1", pair.odds(0, 1), 0);
        due.is("32 twice: it is kept", pair.odds(0, 2), 2);
        TileDesk none = left(31, 32);
        due.is("31 and 32", none.odds(0, 2), 0);
        TileDesk three = left(33, 32, 32);
        // 33 first: two rows; 32 first, and 33 or 32 then, whichever is kept: one each.
        due.is("33, 32 and 32", three.odds(0, 2), 2 + 2);
        Due.hold(three, 3, 33, 32, 32);
        due.is("held by another", three.odds(0, 2), 2 + 2);
        due.is("an empty wall does not matter", three.draw(0), NONE);
    }

    private static void oddsOfOneNotSeen() {
        due.sentence("ODDS of 2: of all rows of two that may come");
        TileDesk one = left(33);
        due.is("odds of 1", one.odds(0, 1), 1);
        due.is("no row of two", one.odds(0, 2), 0);
        TileDesk other = left(4);
        due.is("odds of 1", other.odds(0, 1), 0);
        due.is("no row of two", other.odds(0, 2), 0);
    }

    private static void oddsOfNothingNotSeen() {
        due.sentence("CHANCES: each tile that is not SEEN may come next, all alike.");
        TileDesk none = left();
        due.is("odds of 1", none.odds(0, 1), 0);
        due.is("odds of 2", none.odds(0, 2), 0);
        due.is("it waits all the same", none.waits(0, 0), 33);
        due.is("at the distance", none.distance(0), 0);
    }

    private static void oddsOfTwoByTheFirstOne() {
        due.sentence("how many make it DONE by the first one");
        TileDesk gates = Due.holding(0, 0, 0, 1, 2, 3, 4, 5, 6, 7, 8, 8, 8);
        due.is("odds of 1", gates.odds(0, 1), 23);
        due.is("any second one behind these", gates.odds(0, 2) >= 23 * 122 ? 1 : 0, 1);
        due.is("not more than all rows", gates.odds(0, 2) <= 123 * 122 ? 1 : 0, 1);
        // A tile of another row comes first: it, or one of the row, is thrown; 23 are left to wait for at most.
        due.is("and 23 behind each other one", gates.odds(0, 2), 23 * 122 + 100 * 23);
    }

    private static void oddsOfTheBestTile() {
        due.sentence("the best tile being thrown ahead of the second one (the one by which most are DONE then), by that.");
        // Three of 33, and any second one; one of 32, of which three are left then, or of 33; or another one, kept or not.
        TileDesk desk = Due.laid(new int[] {300, 301, 302, 303}, 33);
        Due.throwAway(desk, 1, 33, 33);
        int unseen = desk.unseen(0);
        due.is("not seen", unseen, 117);
        due.is("what comes is kept when more of it are left", desk.odds(0, 2), 116 + 116 * 3);
        Due.throwAway(desk, 1, 32, 32, 32, 31, 31);
        // Not seen: one of 33, one of 32, two of 31, four each of 27 others. Behind 32, or 31, the one that is left.
        due.is("and is thrown when not", desk.odds(0, 2), 111 + 1 + 2 * 1 + 108 * 3);
    }

    private static void oddsOfOthers() {
        due.sentence("ODDS of d (1, 2) tiles of a HAND that RESTS. BAD; NO.");
        TileDesk outer = Due.holding(0, 8, 9, 17, 18, 26, 27, 28, 29, 30, 31, 32, 33);
        due.is("not told to count", outer.odds(0, 1), 0);
        due.is("not told to count", outer.odds(0, 2), 0);
        outer.count(1, true);
        due.is("thirteen", outer.odds(0, 1), 39);
        // 39 of 123 first; or one of 84 others, which is thrown.
        due.is("thirteen, of two", outer.odds(0, 2), 39 * 122 + 84 * 39);
        TileDesk seven = Due.holding(1, 1, 4, 4, 7, 7, 10, 10, 13, 13, 16, 16, 33);
        seven.count(0, true);
        due.is("six pairs", seven.odds(0, 1), 3);
        // 3 of 123; or one of 12 of the pairs' sorts; or one of 108 others: of these three are left, as of 33.
        due.is("six pairs, of two", seven.odds(0, 2), 3 * 122 + 12 * 3 + 108 * 3);
        seven.count(0, false);
        due.is("no longer", seven.odds(0, 1), 0);
    }

    private static void oddsBadAndNo() {
        due.sentence("ODDS of d (1, 2) tiles of a HAND that RESTS. BAD; NO.");
        TileDesk desk = new TileDesk();
        int[] tiles = {0, 0, 0, 1, 2, 3, 4, 5, 6, 7, 8, 8, 8};
        for (int n = 0; n < 13; n++) {
            due.is("odds of 1, size " + n, desk.odds(0, 1), NO);
            due.is("odds of 2, size " + n, desk.odds(0, 2), NO);
            Due.hold(desk, 0, tiles[n]);
        }
        for (int d : new int[] {0, 3, -1, LEAST, GREATEST}) {
            due.is("d " + d, desk.odds(0, d), BAD);
            due.is("d " + d + " of an empty hand", desk.odds(1, d), BAD);
        }
        for (int h : Due.NO_HANDS) {
            due.is("hand " + h, desk.odds(h, 1), BAD);
            due.is("hand " + h, desk.odds(h, 2), BAD);
        }
        due.is("at rest", desk.odds(0, 1), 23);
        Due.hold(desk, 0, 33);
        due.is("full", desk.odds(0, 1), NO);
        due.is("full", desk.odds(0, 2), NO);
    }

    // ---- promise 28

    private static void unseenFromAllToNone() {
        due.sentence("How many tiles a HAND has not SEEN. BAD.");
        TileDesk desk = new TileDesk();
        int seen = 0;
        for (int sort = 0; sort < 34; sort++) {
            due.is("not seen by hand 3, " + seen + " being thrown", desk.unseen(3), 136 - seen);
            for (int n = 0; n < 4; n++) {
                Due.throwAway(desk, 1, sort);
                seen++;
            }
        }
        for (int h = 0; h < 4; h++) {
            due.is("none", desk.unseen(h), 0);
        }
        desk.deal(0);
        due.is("dealt", desk.unseen(3), 123);
    }

    private static void unseenOfEach() {
        due.sentence("SEEN by a HAND is what it HOLDS, what is OPEN in all, and THROWN.");
        TileDesk desk = Due.holding(0, 1, 2, 3, 4, 5, 6, 7, 8, 9, 10, 11, 12, 13);
        due.is("what it holds", desk.unseen(0), 122);
        due.is("what another holds is not", desk.unseen(1), 136);
        Due.hold(desk, 1, 0, 0, 0, 33);
        due.is("what another holds is not", desk.unseen(0), 122);
        desk.open(1, 2, 0);
        due.is("what another has open is", desk.unseen(0), 119);
        due.is("its own open ones are", desk.unseen(1), 132);
        due.is("of others", desk.unseen(2), 133);
        desk.discard(1, 33);
        due.is("thrown", desk.unseen(0), 118);
        due.is("thrown", desk.unseen(1), 132);
        due.is("thrown", desk.unseen(2), 132);
    }

    private static void unseenBad() {
        due.sentence("How many tiles a HAND has not SEEN. BAD.");
        TileDesk desk = new TileDesk();
        for (int h : Due.NO_HANDS) {
            due.is("hand " + h, desk.unseen(h), BAD);
        }
    }

    // ---- promise 29

    private static int alike(int[] one, int... other) {
        TileDesk desk = Due.holding(one);
        Due.hold(desk, 3, other);
        int there = desk.alike(0, 3);
        due.is("either way round", desk.alike(3, 0), there);
        return there;
    }

    private static void alikeOfNone() {
        due.sentence("1: what two HANDS HOLD is alike");
        TileDesk desk = Due.holding(5);
        due.is("none and none", desk.alike(1, 2), 1);
        due.is("a hand and itself", desk.alike(0, 0), 1);
        due.is("an empty one and itself", desk.alike(3, 3), 1);
        due.is("one and none", desk.alike(0, 1), 0);
        due.is("none and one", desk.alike(1, 0), 0);
        Due.lay(desk, 1, 210);
        due.is("none held, three open", desk.alike(1, 2), 1);
    }

    private static void alikeTurned() {
        due.sentence("ROWS 0 to 2 of the one can be put in another order, each turned end for end or not");
        for (int at = 0; at < 9; at++) {
            for (int other = 0; other < 27; other++) {
                int want = other % 9 == at || other % 9 == 8 - at ? 1 : 0;
                due.is(at + " and " + other, alike(new int[] {at}, other), want);
            }
            for (int other = 27; other < 34; other++) {
                due.is(at + " and " + other, alike(new int[] {at}, other), 0);
            }
        }
        due.is("one turned, one not", alike(new int[] {0, 1, 9, 11}, 8, 7, 9, 11), 1);
        due.is("both turned", alike(new int[] {0, 1, 9, 11}, 8, 7, 17, 15), 1);
        due.is("a row that is the same turned", alike(new int[] {0, 4, 8}, 9, 13, 17), 1);
        due.is("turned in part", alike(new int[] {0, 1, 3}, 8, 7, 3), 0);
    }

    private static void alikeInAnotherOrder() {
        due.sentence("ROWS 0 to 2 of the one can be put in another order, each turned end for end or not");
        int[][] orders = {{0, 1, 2}, {0, 2, 1}, {1, 0, 2}, {1, 2, 0}, {2, 0, 1}, {2, 1, 0}};
        int[] one = {0, 1, 9, 11, 18, 21, 33};
        for (int[] order : orders) {
            for (int turned = 0; turned < 8; turned++) {
                int[] other = new int[7];
                for (int n = 0; n < 6; n++) {
                    int row = one[n] / 9;
                    int at = (turned >> row & 1) == 1 ? 8 - one[n] % 9 : one[n] % 9;
                    other[n] = 9 * order[row] + at;
                }
                other[6] = 27;
                due.is("rows " + order[0] + order[1] + order[2] + " turned " + turned, alike(one, other), 1);
                other[5] = other[4];
                due.is("and one other", alike(one, other), 0);
            }
        }
        due.is("row 3 is in no other's place", alike(new int[] {27, 28}, 0, 1), 0);
        due.is("tiles of two rows in one", alike(new int[] {0, 10}, 0, 1), 0);
        due.is("two rows the same, or one", alike(new int[] {0, 9}, 0, 0), 0);
    }

    private static void alikeOfRow3() {
        due.sentence("and the SORTS of ROW 3 in another order, so that it is what the other HOLDS");
        due.is("the first and the last", alike(new int[] {27}, 33), 1);
        due.is("all", alike(new int[] {27, 28, 29, 30, 31, 32, 33}, 33, 32, 31, 30, 29, 28, 27), 1);
        due.is("all and one", alike(new int[] {27, 28, 29, 30, 31, 32, 33, 33}, 27, 28, 29, 30, 31, 32, 33, 27), 1);
        due.is("in any order", alike(new int[] {27, 27, 28, 30, 30, 30}, 33, 31, 31, 31, 32, 32), 1);
        due.is("a pair, or two", alike(new int[] {27, 27}, 27, 28), 0);
        due.is("pairs, or a three and one", alike(new int[] {27, 27, 28, 28}, 29, 29, 29, 30), 0);
        due.is("four, or two pairs", alike(new int[] {27, 27, 27, 27}, 28, 28, 29, 29), 0);
        due.is("four each", alike(new int[] {27, 27, 27, 27}, 33, 33, 33, 33), 1);
        due.is("four and four", alike(new int[] {27, 27, 27, 27, 33, 33, 33, 33, 30}, 28, 28, 28, 28, 29, 29, 29, 29, 31), 1);
        due.is("six, or seven", alike(new int[] {27, 28, 29, 30, 31, 32}, 27, 28, 29, 30, 31, 32, 33), 0);
        due.is("two threes, or a four and a pair", alike(new int[] {27, 27, 27, 28, 28, 28}, 29, 29, 29, 29, 30, 30), 0);
    }

    /** How many sorts of row 3 there are three and four of, two of, and so on: all that it may be, with all others. */
    private static void alikeOfAllThatRow3MayBe() {
        due.sentence("and the SORTS of ROW 3 in another order, so that it is what the other HOLDS");
        List<int[]> all = new ArrayList<>();
        for (int fours = 0; fours <= 3; fours++) {
            for (int threes = 0; threes <= 4; threes++) {
                for (int twos = 0; twos <= 7; twos++) {
                    for (int ones = 0; ones <= 7; ones++) {
                        boolean sorts = fours + threes + twos + ones <= 7;
                        if (sorts && 4 * fours + 3 * threes + 2 * twos + ones <= 14) {
                            all.add(new int[] {ones, twos, threes, fours});
                        }
                    }
                }
            }
        }
        int compared = 0;
        for (int[] one : all) {
            for (int[] other : all) {
                TileDesk desk = new TileDesk();
                if (holdsRow3(desk, 0, one, 1) && holdsRow3(desk, 1, other, -1)) {
                    compared++;
                    due.is("alike", desk.alike(0, 1), one == other ? 1 : 0);
                }
            }
        }
        due.is("many were there", compared > 5000 ? 1 : 0, 1);
    }

    /** From sort 27 up, or from 33 down, ones, twos, threes, fours; false: the wall has not enough. */
    private static boolean holdsRow3(TileDesk desk, int h, int[] times, int step) {
        int sort = step > 0 ? 27 : 33;
        for (int n = 1; n <= 4; n++) {
            for (int k = 0; k < times[n - 1]; k++) {
                for (int t = 0; t < n; t++) {
                    if (desk.take(h, sort) < 0) {
                        return false;
                    }
                }
                sort += step;
            }
        }
        return true;
    }

    private static void alikeButForOne() {
        due.sentence("so that it is what the other HOLDS; 0. BAD.");
        due.is("four or three of a sort", alike(new int[] {0, 0, 0, 0}, 9, 9, 9), 0);
        due.is("four and four", alike(new int[] {0, 0, 0, 0}, 17, 17, 17, 17), 1);
        due.is("four or three, and another", alike(new int[] {0, 0, 0, 0}, 9, 9, 9, 10), 0);
        due.is("one of row 0, or of row 3", alike(new int[] {0, 9, 27}, 0, 9, 18), 0);
        int[] full = {0, 0, 1, 1, 2, 2, 9, 10, 11, 18, 22, 26, 27, 33};
        due.is("full ones", alike(full, 26, 26, 25, 25, 24, 24, 0, 1, 2, 9, 13, 17, 29, 30), 1);
        due.is("full ones but for one", alike(full, 26, 26, 25, 25, 24, 24, 0, 1, 3, 9, 13, 17, 29, 30), 0);
        due.is("full ones but for one of row 3", alike(full, 26, 26, 25, 25, 24, 24, 0, 1, 2, 9, 13, 17, 29, 29), 0);
    }

    private static void alikeHeldAlone() {
        due.sentence("1: what two HANDS HOLD is alike");
        TileDesk desk = Due.laid(new int[] {100, 333}, 5);
        Due.hold(desk, 1, 12);
        due.is("open ones on one side", desk.alike(0, 1), 1);
        Due.lay(desk, 1, 220);
        due.is("others on the other", desk.alike(0, 1), 1);
        Due.throwAway(desk, 1, 9);
        due.is("what was thrown", desk.alike(0, 1), 1);
        Due.hold(desk, 1, 9);
        due.is("what is held", desk.alike(0, 1), 0);
    }

    private static void alikeBad() {
        due.sentence("so that it is what the other HOLDS; 0. BAD.");
        TileDesk desk = new TileDesk();
        for (int none : Due.NO_HANDS) {
            due.is("hand " + none, desk.alike(none, 0), BAD);
            due.is("and hand " + none, desk.alike(0, none), BAD);
            due.is("both", desk.alike(none, none), BAD);
        }
        due.is("the first and the last hand", desk.alike(0, 3), 1);
    }
}
