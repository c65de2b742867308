/** Promises 30 to 34. */
public final class WorthTest {
    private static final Due due = new Due("WorthTest");
    private static final int BAD = Due.BAD, NO = Due.NO, FULL = Due.FULL;
    private static final int NOTHING_OUT = -1;
    private static final int[] OUTER_ONES = {0, 8, 9, 17, 18, 26, 27, 28, 29, 30, 31, 32, 33, 33};

    public static void main(String[] args) {
        promise30();
        promise31();
        promise32();
        promise32PutOut();
        promise33();
        promise34OfWays();
        promise34OfOpenOnes();
        promise34OfOthers();
        refusals();
        due.end();
    }

    private static void promise30() {
        TileDesk desk = new TileDesk();
        int[][] bad = {
            {10, 0, 0}, {-1, 0, 0}, {0, 1001, 0}, {0, -1, 0}, {0, 0, 10}, {0, 0, -2},
            {Integer.MAX_VALUE, 0, 0}, {Integer.MIN_VALUE, 0, 0}, {0, Integer.MAX_VALUE, 0},
            {0, Integer.MIN_VALUE, 0}, {0, 0, Integer.MAX_VALUE}, {0, 0, Integer.MIN_VALUE},
        };
        for (int n = 0; n < 20; n++) {
            for (int[] rule : bad) {
                due.is("rule of none", desk.rule(rule[0], rule[1], rule[2]), BAD);
            }
            due.is("rule " + n, desk.rule(n % 10, n % 2 * 1000, n % 11 - 1), n);
        }
        due.is("a rule more", desk.rule(0, 0, NOTHING_OUT), FULL);
        due.is("a rule more of none", desk.rule(10, 0, NOTHING_OUT), BAD);
        due.is("all", desk.clearRules(), 20);
    }

    private static void promise31() {
        TileDesk desk = Due.holding(0, 0, 0, 9, 9, 9, 18, 18, 18, 27, 27, 27, 33, 33);
        due.is("none", desk.clearRules(), 0);
        desk.rule(1, 7, NOTHING_OUT);
        desk.rule(2, 8, NOTHING_OUT);
        due.is("worth", desk.worth(0), 15);
        due.is("two", desk.clearRules(), 2);
        due.is("worth then", desk.worth(0), 0);
        due.is("none then", desk.clearRules(), 0);
        due.is("from 0 again", desk.rule(2, 8, NOTHING_OUT), 0);
        due.is("worth of that", desk.worth(0), 8);
    }

    private static void promise32() {
        TileDesk desk = Due.holding(0, 0, 0, 1, 1, 1, 2, 2, 2, 9, 10, 11, 33, 33);
        due.is("no rules", desk.worth(0), 0);
        desk.rule(7, 4, NOTHING_OUT);
        due.is("by threes", desk.worth(0), 4);
        desk.rule(0, 5, NOTHING_OUT);
        due.is("by runs", desk.worth(0), 5);
        desk.rule(7, 1000, NOTHING_OUT);
        due.is("by threes again", desk.worth(0), 1004);
        desk.rule(2, 1, NOTHING_OUT);
        due.is("and the pair", desk.worth(0), 1005);
        desk.rule(9, 100, NOTHING_OUT);
        desk.rule(8, 100, NOTHING_OUT);
        desk.rule(4, 100, NOTHING_OUT);
        due.is("what does not hold is worth nothing", desk.worth(0), 1005);
        desk.rule(5, 1000, NOTHING_OUT);
        desk.rule(5, 1000, NOTHING_OUT);
        due.is("above a thousand", desk.worth(0), 3005);
        TileDesk seven = Due.holding(1, 1, 2, 2, 3, 3, 4, 4, 5, 5, 6, 6, 7, 7);
        seven.rule(8, 9, NOTHING_OUT);
        due.is("seven pairs that do not count", seven.worth(0), 0);
        seven.count(0, true);
        due.is("seven pairs", seven.worth(0), 9);
        seven.rule(6, 10, NOTHING_OUT);
        due.is("or a way", seven.worth(0), 10);
        TileDesk outer = Due.holding(OUTER_ONES);
        outer.rule(9, 3, NOTHING_OUT);
        due.is("outer ones that do not count", outer.worth(0), NO);
        outer.count(1, true);
        due.is("outer ones", outer.worth(0), 3);
    }

    private static void promise32PutOut() {
        TileDesk desk = Due.holding(0, 0, 0, 9, 9, 9, 18, 18, 18, 27, 27, 27, 33, 33);
        desk.rule(1, 1, NOTHING_OUT);
        desk.rule(2, 20, 1);
        due.is("put out", desk.worth(0), 20);
        desk.rule(5, 300, 2);
        due.is("put out by one that is put out too", desk.worth(0), 300);
        desk.rule(4, 0, 5);
        due.is("its condition does not hold", desk.worth(0), 300);
        desk.clearRules();
        desk.rule(1, 7, 1);
        due.is("none puts out itself", desk.worth(0), 7);
        desk.rule(1, 8, NOTHING_OUT);
        due.is("the other one of that condition is put out", desk.worth(0), 7);
        desk.rule(1, 9, 1);
        due.is("each by another", desk.worth(0), 0);
        desk.clearRules();
        desk.rule(2, 5, 7);
        desk.rule(7, 6, 2);
        due.is("each by the other", desk.worth(0), 0);
        TileDesk ways = Due.holding(0, 0, 0, 1, 1, 1, 2, 2, 2, 9, 10, 11, 33, 33);
        ways.rule(5, 50, NOTHING_OUT);
        ways.rule(7, 10, 5);
        due.is("the way by which it is not put out", ways.worth(0), 50);
        due.is("the way by which it is not put out", ways.by(0), 1);
    }

    private static void promise33() {
        TileDesk desk = Due.holding(0, 0, 0, 1, 1, 1, 2, 2, 2, 9, 10, 11, 33, 33);
        due.is("the first way", desk.by(0), 0);
        desk.rule(0, 5, NOTHING_OUT);
        due.is("the second way", desk.by(0), 1);
        desk.rule(7, 5, NOTHING_OUT);
        due.is("both", desk.by(0), 0);
        desk.rule(6, 1, NOTHING_OUT);
        due.is("the second way", desk.by(0), 1);
        TileDesk seven = Due.holding(1, 1, 2, 2, 3, 3, 4, 4, 5, 5, 6, 6, 7, 7);
        seven.count(0, true);
        due.is("a way ahead of seven pairs", seven.by(0), 0);
        seven.rule(8, 1, NOTHING_OUT);
        due.is("seven pairs", seven.by(0), 1000);
        seven.rule(6, 1, NOTHING_OUT);
        due.is("a way ahead of seven pairs", seven.by(0), 0);
        TileDesk pairs = Due.holding(1, 1, 4, 4, 7, 7, 10, 10, 13, 13, 16, 16, 33, 33);
        due.is("seven pairs that do not count", pairs.by(0), NO);
        pairs.count(0, true);
        due.is("seven pairs alone", pairs.by(0), 1000);
        TileDesk outer = Due.holding(OUTER_ONES);
        due.is("outer ones that do not count", outer.by(0), NO);
        outer.count(1, true);
        due.is("outer ones", outer.by(0), 1001);
    }

    /** The conditions told hold, and no others. */
    private static void hold(String call, TileDesk desk, int... conditions) {
        int set = 0;
        for (int condition : conditions) {
            set |= 1 << condition;
        }
        for (int condition = 0; condition < 10; condition++) {
            due.is(call + ", condition " + condition, desk.holds(0, condition), set >> condition & 1);
        }
    }

    private static void promise34OfWays() {
        hold("runs", Due.holding(1, 2, 3, 10, 11, 12, 13, 14, 15, 20, 21, 22, 4, 4), 0, 5);
        hold("an outer pair", Due.holding(1, 2, 3, 10, 11, 12, 13, 14, 15, 20, 21, 22, 33, 33), 0, 2, 5);
        hold("runs that are the same", Due.holding(1, 2, 3, 1, 2, 3, 13, 14, 15, 20, 21, 22, 4, 4), 0, 5, 6);
        hold("runs alike but for the row", Due.holding(1, 2, 3, 10, 11, 12, 19, 20, 21, 6, 7, 8, 4, 4), 0, 5);
        hold("runs and outer tiles", Due.holding(0, 1, 2, 6, 7, 8, 15, 16, 17, 24, 25, 26, 27, 27), 0, 2, 3, 5);
        hold("a three and outer tiles", Due.holding(0, 1, 2, 6, 7, 8, 15, 16, 17, 31, 31, 31, 9, 9), 2, 3, 5);
        hold("all but a three", Due.holding(0, 1, 2, 6, 7, 8, 15, 16, 17, 22, 22, 22, 9, 9), 2, 5);
        hold("all but the pair", Due.holding(0, 1, 2, 6, 7, 8, 15, 16, 17, 31, 31, 31, 10, 10), 5);
        hold("threes", Due.holding(1, 1, 1, 12, 12, 12, 22, 22, 22, 4, 4, 4, 6, 6), 1, 5, 7);
        hold("three threes", Due.holding(1, 1, 1, 12, 12, 12, 22, 22, 22, 4, 5, 6, 16, 16), 5, 7);
        hold("two threes", Due.holding(1, 1, 1, 12, 12, 12, 20, 21, 22, 4, 5, 6, 16, 16), 5);
        hold("one row", Due.holding(1, 1, 1, 3, 3, 3, 4, 5, 6, 4, 5, 6, 7, 7), 4, 5, 6);
        hold("row 3", Due.holding(27, 27, 27, 29, 29, 29, 31, 31, 31, 33, 33, 33, 30, 30), 1, 2, 3, 4, 5, 7);
        hold("one row but for the pair", Due.holding(1, 1, 1, 3, 3, 3, 4, 5, 6, 4, 5, 6, 13, 13), 5, 6);
        hold("one row but for a group", Due.holding(1, 1, 1, 3, 3, 3, 4, 5, 6, 13, 14, 15, 7, 7), 5);
        TileDesk both = Due.holding(0, 0, 0, 1, 1, 1, 2, 2, 2, 9, 10, 11, 33, 33);
        hold("by the first way", both, 2, 5, 7);
        both.rule(0, 1, NOTHING_OUT);
        hold("by the second way", both, 0, 2, 3, 5, 6);
    }

    private static void promise34OfOpenOnes() {
        hold("an open run", Due.laid(new int[] {110}, 1, 2, 3, 13, 14, 15, 20, 21, 22, 4, 4), 0);
        hold("an open run the same", Due.laid(new int[] {101}, 1, 2, 3, 13, 14, 15, 20, 21, 22, 4, 4), 0, 6);
        hold("both open", Due.laid(new int[] {101, 113, 101}, 20, 21, 22, 4, 4), 0, 6);
        hold("an open three", Due.laid(new int[] {201}, 12, 12, 12, 22, 22, 22, 4, 4, 4, 6, 6), 1, 7);
        hold("two open threes", Due.laid(new int[] {201, 212}, 22, 22, 22, 4, 4, 4, 6, 6), 1);
        hold("an open four", Due.laid(new int[] {301}, 12, 12, 12, 22, 22, 22, 4, 4, 4, 6, 6), 1, 7);
        hold("an open four and a run", Due.laid(new int[] {301}, 12, 12, 12, 22, 22, 22, 3, 4, 5, 6, 6));
        hold("two open fours", Due.laid(new int[] {301, 312}, 22, 22, 22, 4, 4, 4, 6, 6), 1);
        hold("all open, outer", Due.laid(new int[] {300, 106, 217, 333}, 9, 9), 2, 3);
        hold("all open, not outer", Due.laid(new int[] {300, 105, 217, 333}, 9, 9), 2);
        hold("an open four of the row", Due.laid(new int[] {301}, 3, 3, 3, 4, 5, 6, 4, 5, 6, 7, 7), 4, 6);
        hold("an open four of another row", Due.laid(new int[] {313}, 3, 3, 3, 4, 5, 6, 4, 5, 6, 7, 7), 6);
    }

    private static void promise34OfOthers() {
        TileDesk pairs = Due.holding(1, 1, 4, 4, 7, 7, 10, 10, 13, 13, 16, 16, 33, 33);
        pairs.count(0, true);
        hold("seven pairs", pairs, 5, 8);
        TileDesk outer = Due.holding(0, 0, 8, 8, 9, 9, 17, 17, 18, 18, 26, 26, 27, 27);
        outer.count(0, true);
        hold("seven outer pairs", outer, 2, 3, 5, 8);
        TileDesk row = Due.holding(0, 0, 2, 2, 3, 3, 4, 4, 5, 5, 7, 7, 8, 8);
        row.count(0, true);
        hold("seven pairs of a row", row, 4, 5, 8);
        TileDesk last = Due.holding(27, 27, 28, 28, 29, 29, 30, 30, 31, 31, 32, 32, 33, 33);
        last.count(0, true);
        hold("seven pairs of row 3", last, 2, 3, 4, 5, 8);
        TileDesk two = Due.holding(1, 1, 2, 2, 4, 4, 5, 5, 7, 7, 10, 10, 13, 13);
        two.count(0, true);
        hold("seven pairs of two rows", two, 5, 8);
        TileDesk first = Due.holding(0, 0, 9, 9, 10, 10, 12, 12, 13, 13, 15, 15, 17, 17);
        first.count(0, true);
        hold("seven pairs of a row but for one", first, 5, 8);
        TileDesk one = Due.holding(0, 0, 8, 8, 9, 9, 17, 17, 18, 18, 26, 26, 25, 25);
        one.count(0, true);
        hold("seven pairs, all but one outer", one, 5, 8);
        TileDesk ways = Due.holding(1, 1, 2, 2, 3, 3, 4, 4, 5, 5, 6, 6, 7, 7);
        ways.count(0, true);
        hold("a way ahead of seven pairs", ways, 0, 4, 5, 6);
        ways.rule(8, 1, NOTHING_OUT);
        hold("seven pairs ahead of ways", ways, 4, 5, 8);
        TileDesk ones = Due.holding(OUTER_ONES);
        ones.count(1, true);
        hold("outer ones", ones, 3, 5, 9);
    }

    private static void refusals() {
        TileDesk desk = Due.holding(0, 0, 0, 9, 9, 9, 18, 18, 18, 27, 27, 27, 33);
        due.is("worth at rest", desk.worth(0), NO);
        due.is("by at rest", desk.by(0), NO);
        due.is("holds at rest", desk.holds(0, 0), NO);
        Due.hold(desk, 0, 32);
        due.is("worth of one not done", desk.worth(0), NO);
        due.is("by of one not done", desk.by(0), NO);
        due.is("holds of one not done", desk.holds(0, 0), NO);
        due.is("condition 10 of one not done", desk.holds(0, 10), BAD);
        desk.discard(0, 32);
        Due.hold(desk, 0, 33);
        for (int none : Due.NOWHERE) {
            due.is("worth of no hand", desk.worth(none), BAD);
            due.is("by of no hand", desk.by(none), BAD);
            due.is("holds of no hand", desk.holds(none, 0), BAD);
            due.is("holds of no condition", desk.holds(0, none), BAD);
        }
        due.is("condition 10", desk.holds(0, 10), BAD);
        due.is("hand 4", desk.worth(4), BAD);
        due.is("hand 4", desk.by(4), BAD);
        due.is("hand 4", desk.holds(4, 0), BAD);
    }
}
