/** The boundary cases of promises 30 to 34, sentence by sentence of the document. */
public final class EdgesOfWorthTest {
    private static final Due due = new Due("EdgesOfWorthTest");
    private static final int BAD = Due.BAD, NO = Due.NO, FULL = Due.FULL, LEAST = Due.LEAST, GREATEST = Due.GREATEST;
    private static final int SEVEN = 0, OUTER = 1, NOTHING_OUT = -1;
    private static final int[] NONE_LAID = {};
    private static final int[] OUTER_ONES = {0, 8, 9, 17, 18, 26, 27, 28, 29, 30, 31, 32, 33, 33};
    private static final int[] PAIRS = {1, 1, 4, 4, 7, 7, 10, 10, 13, 13, 16, 16, 33, 33};
    /** By its first way three threes, by its second one runs: 5 holds of both, 7 of the first, 0 and 6 of the second. */
    private static final int[] TWO_WAYS = {0, 0, 0, 1, 1, 1, 2, 2, 2, 9, 10, 11, 33, 33};

    public static void main(String[] args) {
        ruleNumbers();
        ruleFull();
        ruleConditions();
        rulePoints();
        rulePutsOut();
        clearRulesEdges();
        worthOfNoRules();
        worthOfAllRules();
        worthOf0Points();
        worthPutOutByAnother();
        worthNotPutOutByItself();
        worthPutOutByOneThatIsPutOut();
        worthNotPutOutByWhatDoesNotHold();
        worthNotPutOutByNone();
        worthOfTheBetterWay();
        worthOfOthers();
        worthNo();
        byTheFirstWay();
        byOthers();
        byNo();
        holdsAllRuns();
        holdsNoRun();
        holdsOuterPair();
        holdsOuterEach();
        holdsOneRow();
        holdsNoneOpen();
        holdsTwoRunsTheSame();
        holdsThreeThrees();
        holdsOfSeven();
        holdsOfOuter();
        holdsBad();
        due.end();
    }

    // ---- promises 30 and 31

    private static void ruleNumbers() {
        due.sentence("A RULE: its number.");
        TileDesk desk = new TileDesk();
        for (int n = 0; n < 20; n++) {
            due.is("a rule", desk.rule(0, 0, NOTHING_OUT), n);
        }
    }

    private static void ruleFull() {
        due.sentence("BAD: the condition (0 to 9), POINTS, what it PUTS OUT (-1: none). FULL: 20.");
        TileDesk desk = Due.holding(TWO_WAYS);
        for (int n = 0; n < 20; n++) {
            desk.rule(5, 1, NOTHING_OUT);
        }
        for (int n = 0; n < 3; n++) {
            due.is("a rule more", desk.rule(5, 1000, NOTHING_OUT), FULL);
            due.is("a rule more that puts out", desk.rule(7, 1000, 5), FULL);
        }
        due.is("bad ahead of full", desk.rule(10, 0, NOTHING_OUT), BAD);
        due.is("bad ahead of full", desk.rule(0, 1001, NOTHING_OUT), BAD);
        due.is("bad ahead of full", desk.rule(0, 0, 10), BAD);
        due.is("worth as it was", desk.worth(0), 20);
        due.is("twenty", desk.clearRules(), 20);
        due.is("from 0 again", desk.rule(5, 7, NOTHING_OUT), 0);
        due.is("worth", desk.worth(0), 7);
        for (int n = 1; n < 20; n++) {
            due.is("a rule", desk.rule(0, 0, NOTHING_OUT), n);
        }
        due.is("a rule more", desk.rule(0, 0, NOTHING_OUT), FULL);
    }

    private static void ruleConditions() {
        due.sentence("BAD: the condition (0 to 9), POINTS, what it PUTS OUT (-1: none).");
        TileDesk desk = new TileDesk();
        for (int condition : new int[] {-1, -2, 10, 11, LEAST, GREATEST}) {
            due.is("condition " + condition, desk.rule(condition, 0, NOTHING_OUT), BAD);
        }
        for (int condition = 0; condition < 10; condition++) {
            due.is("condition " + condition, desk.rule(condition, 0, NOTHING_OUT), condition);
        }
    }

    private static void rulePoints() {
        due.sentence("RULES of worth have a condition, POINTS 0 to 1000, and a condition that they PUT OUT, or none.");
        TileDesk desk = Due.holding(TWO_WAYS);
        for (int points : new int[] {-1, -1000, 1001, 1002, LEAST, GREATEST}) {
            due.is("points " + points, desk.rule(5, points, NOTHING_OUT), BAD);
        }
        due.is("no rules", desk.worth(0), 0);
        due.is("points 0", desk.rule(5, 0, NOTHING_OUT), 0);
        due.is("worth", desk.worth(0), 0);
        due.is("points 1", desk.rule(5, 1, NOTHING_OUT), 1);
        due.is("worth", desk.worth(0), 1);
        due.is("points 999", desk.rule(5, 999, NOTHING_OUT), 2);
        due.is("worth", desk.worth(0), 1000);
        due.is("points 1000", desk.rule(5, 1000, NOTHING_OUT), 3);
        due.is("worth", desk.worth(0), 2000);
    }

    private static void rulePutsOut() {
        due.sentence("what it PUTS OUT (-1: none). FULL: 20.");
        TileDesk desk = new TileDesk();
        for (int out : new int[] {-2, -3, 10, 11, LEAST, GREATEST}) {
            due.is("puts out " + out, desk.rule(0, 0, out), BAD);
        }
        for (int out = -1; out < 10; out++) {
            due.is("puts out " + out, desk.rule(0, 0, out), out + 1);
        }
        due.is("eleven", desk.clearRules(), 11);
    }

    private static void clearRulesEdges() {
        due.sentence("All RULES go: how many there were.");
        TileDesk desk = Due.holding(TWO_WAYS);
        due.is("none", desk.clearRules(), 0);
        desk.rule(5, 9, NOTHING_OUT);
        due.is("one", desk.clearRules(), 1);
        due.is("none then", desk.clearRules(), 0);
        due.is("worth", desk.worth(0), 0);
        desk.rule(7, 3, 5);
        desk.clearRules();
        desk.rule(5, 2, NOTHING_OUT);
        due.is("what is gone puts out nothing", desk.worth(0), 2);
        desk.clear(0);
        due.is("rules stay when tiles go", desk.clearRules(), 1);
    }

    // ---- promise 32

    private static void worthOfNoRules() {
        due.sentence("no RULES; neither SEVEN nor OUTER counts");
        TileDesk desk = Due.holding(TWO_WAYS);
        due.is("worth", desk.worth(0), 0);
        due.is("by the first way", desk.by(0), 0);
        TileDesk open = Due.laid(new int[] {300, 301, 302, 303}, 33, 33);
        due.is("worth", open.worth(0), 0);
        due.is("by the one way", open.by(0), 0);
    }

    private static void worthOfAllRules() {
        due.sentence("THE WORTH of a DONE HAND: the greatest sum");
        TileDesk desk = Due.holding(TWO_WAYS);
        for (int n = 0; n < 20; n++) {
            desk.rule(5, 1000, NOTHING_OUT);
        }
        due.is("twenty of a thousand", desk.worth(0), 20000);
        due.is("by the first way", desk.by(0), 0);
        desk.clearRules();
        for (int n = 0; n < 20; n++) {
            desk.rule(n % 10, 1 << n % 10, NOTHING_OUT);
        }
        due.is("each that holds of the first way, twice", desk.worth(0), 2 * (4 + 32 + 128));
        due.is("by the first way", desk.by(0), 0);
        desk.clearRules();
        for (int n = 0; n < 20; n++) {
            desk.rule(n % 10, 512 >> n % 10, NOTHING_OUT);
        }
        due.is("each that holds of the second way, twice", desk.worth(0), 2 * (512 + 128 + 64 + 16 + 8));
        due.is("by the second way", desk.by(0), 1);
    }

    private static void worthOf0Points() {
        due.sentence("none of which is PUT OUT by another RULE whose condition holds");
        TileDesk desk = Due.holding(TWO_WAYS);
        desk.rule(5, 6, NOTHING_OUT);
        desk.rule(2, 0, 5);
        due.is("a rule of no points puts out", desk.worth(0), 0);
        due.is("by the first way", desk.by(0), 0);
    }

    private static void worthPutOutByAnother() {
        due.sentence("none of which is PUT OUT by another RULE whose condition holds");
        TileDesk desk = Due.holding(TWO_WAYS);
        desk.rule(5, 6, NOTHING_OUT);
        desk.rule(5, 7, NOTHING_OUT);
        desk.rule(2, 100, 5);
        due.is("all of that condition are put out", desk.worth(0), 100);
        desk.rule(5, 8, NOTHING_OUT);
        due.is("and one told behind it", desk.worth(0), 100);
        desk.rule(5, 9, 2);
        due.is("each by the other", desk.worth(0), 0);
    }

    private static void worthNotPutOutByItself() {
        due.sentence("none of which is PUT OUT by another RULE whose condition holds");
        TileDesk desk = Due.holding(TWO_WAYS);
        desk.rule(5, 6, 5);
        due.is("it alone", desk.worth(0), 6);
        desk.rule(5, 70, NOTHING_OUT);
        due.is("the other one of its condition", desk.worth(0), 6);
        desk.rule(5, 800, 5);
        due.is("two that put out each other", desk.worth(0), 0);
    }

    private static void worthPutOutByOneThatIsPutOut() {
        due.sentence("(whether that one is PUT OUT itself or not).");
        TileDesk desk = Due.holding(TWO_WAYS);
        desk.rule(5, 6, NOTHING_OUT);
        desk.rule(2, 70, 5);
        desk.rule(7, 800, 2);
        due.is("by the second way 7 does not hold", desk.worth(0), 800);
        due.is("by the first", desk.by(0), 0);
        desk.rule(0, 900, NOTHING_OUT);
        due.is("70 and 900 by the second way", desk.worth(0), 970);
        due.is("by the second", desk.by(0), 1);
    }

    private static void worthNotPutOutByWhatDoesNotHold() {
        due.sentence("none of which is PUT OUT by another RULE whose condition holds");
        TileDesk desk = Due.holding(TWO_WAYS);
        desk.rule(5, 6, NOTHING_OUT);
        for (int condition : new int[] {1, 4, 8, 9}) {
            desk.rule(condition, 1000, 5);
            due.is("put out by " + condition, desk.worth(0), 6);
        }
    }

    private static void worthNotPutOutByNone() {
        due.sentence("and a condition that they PUT OUT, or none.");
        TileDesk desk = Due.holding(TWO_WAYS);
        desk.rule(5, 6, NOTHING_OUT);
        desk.rule(0, 1, NOTHING_OUT);
        desk.rule(2, 10, NOTHING_OUT);
        due.is("none is put out", desk.worth(0), 17);
        desk.rule(5, 0, 0);
        due.is("condition 0 is", desk.worth(0), 16);
        desk.rule(2, 0, 9);
        due.is("condition 9 is", desk.worth(0), 16);
    }

    private static void worthOfTheBetterWay() {
        due.sentence("the greatest sum, of its WAYS, and of the two others that count");
        TileDesk desk = Due.holding(TWO_WAYS);
        desk.rule(7, 5, NOTHING_OUT);
        due.is("the first", desk.worth(0), 5);
        desk.rule(6, 5, NOTHING_OUT);
        due.is("both alike", desk.worth(0), 5);
        due.is("the first of them", desk.by(0), 0);
        due.is("7 holds of it", desk.holds(0, 7), 1);
        desk.rule(0, 1, NOTHING_OUT);
        due.is("the second", desk.worth(0), 6);
        due.is("by it", desk.by(0), 1);
        due.is("7 does not hold of it", desk.holds(0, 7), 0);
        TileDesk three = Due.holding(1, 1, 2, 2, 3, 3, 4, 4, 5, 5, 6, 6, 0, 0);
        three.rule(2, 1, NOTHING_OUT);
        due.is("by the way whose pair is outer", three.worth(0), 1);
        due.is("it is the first", three.by(0), 0);
        TileDesk last = Due.holding(2, 2, 3, 3, 4, 4, 5, 5, 6, 6, 7, 7, 8, 8);
        last.rule(2, 1, NOTHING_OUT);
        due.is("by the way whose pair is outer", last.worth(0), 1);
        due.is("it is the last", last.by(0), 2);
    }

    private static void worthOfOthers() {
        due.sentence("the greatest sum, of its WAYS, and of the two others that count");
        TileDesk pairs = Due.holding(PAIRS);
        pairs.rule(8, 1000, NOTHING_OUT);
        due.is("not told to count", pairs.worth(0), NO);
        pairs.count(SEVEN, true);
        due.is("seven", pairs.worth(0), 1000);
        pairs.count(SEVEN, false);
        due.is("no longer", pairs.worth(0), NO);
        TileDesk outer = Due.holding(OUTER_ONES);
        outer.rule(9, 1000, NOTHING_OUT);
        outer.rule(9, 1, NOTHING_OUT);
        due.is("not told to count", outer.worth(0), NO);
        outer.count(OUTER, true);
        due.is("outer ones", outer.worth(0), 1001);
        outer.count(OUTER, false);
        due.is("no longer", outer.worth(0), NO);
    }

    private static void worthNo() {
        due.sentence("THE WORTH of a DONE HAND. BAD; NO: it is not DONE.");
        TileDesk desk = new TileDesk();
        for (int n = 0; n < 14; n++) {
            due.is("worth at size " + n, desk.worth(0), NO);
            Due.hold(desk, 0, TWO_WAYS[n]);
        }
        due.is("worth", desk.worth(0), 0);
        desk.discard(0, 33);
        Due.hold(desk, 0, 32);
        due.is("full, but not done", desk.worth(0), NO);
        for (int h : Due.NO_HANDS) {
            due.is("worth of hand " + h, desk.worth(h), BAD);
            due.is("by of hand " + h, desk.by(h), BAD);
        }
        due.is("hand 3", desk.worth(3), NO);
    }

    // ---- promise 33

    private static void byTheFirstWay() {
        due.sentence("the number of the first WAY with that sum; or, if none has it, 1000 SEVEN, 1001 OUTER.");
        TileDesk desk = Due.holding(0, 0, 0, 1, 1, 1, 1, 2, 2, 2, 2, 3, 3, 3);
        due.is("none has more", desk.by(0), 0);
        desk.rule(5, 1000, NOTHING_OUT);
        due.is("all have it", desk.by(0), 0);
        desk.rule(7, 1, NOTHING_OUT);
        due.is("threes", desk.by(0), 0);
        desk.clearRules();
        desk.rule(6, 1, NOTHING_OUT);
        due.is("runs that are the same", desk.by(0), 1);
        desk.rule(2, 1, NOTHING_OUT);
        due.is("and an outer pair", desk.by(0), 1);
        desk.clearRules();
        desk.rule(2, 1, 6);
        due.is("an outer pair", desk.by(0), 0);
        desk.rule(6, 5, NOTHING_OUT);
        due.is("what is put out by it: another pair", desk.by(0), 3);
        due.is("worth", desk.worth(0), 5);
    }

    private static void byOthers() {
        due.sentence("the number of the first WAY with that sum; or, if none has it, 1000 SEVEN, 1001 OUTER.");
        TileDesk both = Due.holding(1, 1, 2, 2, 3, 3, 4, 4, 5, 5, 6, 6, 7, 7);
        both.rule(8, 1, NOTHING_OUT);
        due.is("seven does not count", both.by(0), 0);
        both.count(SEVEN, true);
        due.is("seven", both.by(0), 1000);
        both.rule(0, 1, NOTHING_OUT);
        due.is("as much by a way", both.by(0), 0);
        due.is("as much by a way", both.worth(0), 1);
        both.rule(8, 1, NOTHING_OUT);
        due.is("more by seven", both.by(0), 1000);
        both.count(SEVEN, false);
        due.is("it does not count", both.by(0), 0);
        TileDesk outer = Due.holding(OUTER_ONES);
        outer.count(OUTER, true);
        outer.count(SEVEN, true);
        due.is("outer ones of no points", outer.by(0), 1001);
        TileDesk pairs = Due.holding(PAIRS);
        pairs.count(OUTER, true);
        due.is("seven does not count", pairs.by(0), NO);
        pairs.count(SEVEN, true);
        due.is("seven of no points", pairs.by(0), 1000);
    }

    private static void byNo() {
        due.sentence("1000 SEVEN, 1001 OUTER. BAD, NO likewise.");
        TileDesk desk = new TileDesk();
        for (int n = 0; n < 14; n++) {
            due.is("by at size " + n, desk.by(0), NO);
            Due.hold(desk, 0, TWO_WAYS[n]);
        }
        due.is("by", desk.by(0), 0);
        desk.discard(0, 33);
        Due.hold(desk, 0, 32);
        due.is("full, but not done", desk.by(0), NO);
    }

    // ---- promise 34

    private static void holds(String call, int condition, int want, int[] codes, int... held) {
        TileDesk desk = Due.laid(codes, held);
        due.is(call + ", condition " + condition, desk.holds(0, condition), want);
    }

    private static void holdsAllRuns() {
        due.sentence("Conditions of a WAY: 0 all GROUPS but the PAIR are RUNS; 1 none is;");
        holds("four runs", 0, 1, NONE_LAID, 0, 1, 2, 6, 7, 8, 9, 10, 11, 24, 25, 26, 33, 33);
        holds("three runs and a three", 0, 0, NONE_LAID, 0, 1, 2, 6, 7, 8, 9, 10, 11, 24, 24, 24, 33, 33);
        holds("four open runs", 0, 1, new int[] {100, 106, 109, 124}, 33, 33);
        holds("three open runs and a three", 0, 0, new int[] {100, 106, 109}, 24, 24, 24, 33, 33);
        holds("three runs and an open four", 0, 0, new int[] {324}, 0, 1, 2, 6, 7, 8, 9, 10, 11, 33, 33);
        holds("three open runs and an open three", 0, 0, new int[] {100, 106, 109, 224}, 33, 33);
    }

    private static void holdsNoRun() {
        due.sentence("Conditions of a WAY: 0 all GROUPS but the PAIR are RUNS; 1 none is;");
        holds("four threes", 1, 1, NONE_LAID, 0, 0, 0, 8, 8, 8, 9, 9, 9, 26, 26, 26, 33, 33);
        holds("three threes and a run", 1, 0, NONE_LAID, 0, 0, 0, 8, 8, 8, 9, 9, 9, 24, 25, 26, 33, 33);
        holds("four open fours", 1, 1, new int[] {300, 308, 309, 326}, 33, 33);
        holds("three open fours and an open run", 1, 0, new int[] {300, 308, 309, 124}, 33, 33);
        holds("three open fours and a run", 1, 0, new int[] {300, 308, 309}, 24, 25, 26, 33, 33);
    }

    private static void holdsOuterPair() {
        due.sentence("2 the PAIR is OUTER;");
        for (int pair = 0; pair < 34; pair++) {
            int other = pair < 9 ? 9 : 0;
            int want = pair % 9 == 0 || pair % 9 == 8 || pair > 26 ? 1 : 0;
            int[] codes = {100 + other, 101 + other, 102 + other, 103 + other};
            holds("a pair of " + pair, 2, want, codes, pair, pair);
        }
    }

    private static void holdsOuterEach() {
        due.sentence("3 each GROUP has an OUTER tile;");
        for (int from = 0; from < 27; from++) {
            if (from % 9 <= 6) {
                int want = from % 9 == 0 || from % 9 == 6 ? 1 : 0;
                holds("an open run from " + from, 3, want, new int[] {100 + from, 333, 332, 331}, 30, 30);
                holds("a held run from " + from, 3, want, new int[] {333, 332, 331}, from, from + 1, from + 2, 30, 30);
            }
        }
        for (int sort = 0; sort < 30; sort++) {
            int want = sort % 9 == 0 || sort % 9 == 8 || sort > 26 ? 1 : 0;
            holds("an open three of " + sort, 3, want, new int[] {200 + sort, 333, 332, 331}, 30, 30);
            holds("an open four of " + sort, 3, want, new int[] {333, 332, 331, 300 + sort}, 30, 30);
            holds("a pair of " + sort, 3, want, new int[] {333, 332, 331, 230}, sort, sort);
        }
    }

    private static void holdsOneRow() {
        due.sentence("4 all tiles are of one ROW;");
        for (int row = 0; row < 3; row++) {
            int at = 9 * row;
            int next = (at + 9) % 27;
            holds("row " + row, 4, 1, NONE_LAID, at, at, at, at + 1, at + 2, at + 3, at + 4, at + 5, at + 6, at + 7,
                at + 7, at + 8, at + 8, at + 8);
            holds("its ends", 4, 1, new int[] {200 + at, 106 + at, 303 + at}, at + 4, at + 4, at + 4, at + 5, at + 5);
            holds("but for the pair", 4, 0, new int[] {200 + at, 106 + at, 303 + at, 204 + at}, next, next);
            holds("but for the last group", 4, 0, new int[] {200 + at, 106 + at, 303 + at, 200 + next}, at + 5, at + 5);
            holds("but for the first group", 4, 0, new int[] {200 + next, 106 + at, 303 + at, 200 + at}, at + 5, at + 5);
            holds("but for a three of row 3", 4, 0, new int[] {200 + at, 106 + at, 303 + at}, 27, 27, 27, at + 5, at + 5);
        }
        holds("row 3", 4, 1, new int[] {227, 333, 228}, 29, 29, 29, 30, 30);
        holds("row 3 but for the pair", 4, 0, new int[] {227, 333, 228}, 29, 29, 29, 26, 26);
    }

    private static void holdsNoneOpen() {
        due.sentence("5 none is OPEN;");
        holds("none", 5, 1, NONE_LAID, 0, 0, 0, 8, 8, 8, 9, 9, 9, 26, 26, 26, 33, 33);
        holds("one", 5, 0, new int[] {333}, 0, 0, 0, 8, 8, 8, 9, 9, 9, 26, 26);
        holds("four", 5, 0, new int[] {333, 300, 100 + 10, 226}, 8, 8);
        TileDesk desk = Due.holding(0, 0, 0, 8, 8, 8, 9, 9, 9, 26, 26, 26, 33, 33);
        Due.lay(desk, 1, 105);
        due.is("open in another hand", desk.holds(0, 5), 1);
    }

    private static void holdsTwoRunsTheSame() {
        due.sentence("6 two RUNS are the same;");
        holds("the first and the second", 6, 1, new int[] {100, 100, 106, 124}, 33, 33);
        holds("the first and the last", 6, 1, new int[] {106, 200, 224, 106}, 33, 33);
        holds("held and open", 6, 1, new int[] {233, 332, 124}, 24, 25, 26, 30, 30);
        holds("four alike", 6, 1, new int[] {100, 100, 100, 100}, 33, 33);
        holds("one after the other", 6, 0, new int[] {100, 101, 102, 103}, 33, 33);
        holds("of two rows", 6, 0, new int[] {100, 109, 118, 106}, 33, 33);
        holds("one run", 6, 0, new int[] {100, 333, 332, 331}, 30, 30);
        holds("no run", 6, 0, new int[] {300, 333, 332, 331}, 30, 30);
    }

    private static void holdsThreeThrees() {
        due.sentence("7 at least three are THREES that are not OPEN.");
        holds("four", 7, 1, NONE_LAID, 0, 0, 0, 8, 8, 8, 26, 26, 26, 33, 33, 33, 13, 13);
        holds("three and a run", 7, 1, NONE_LAID, 0, 0, 0, 8, 8, 8, 26, 26, 26, 9, 10, 11, 13, 13);
        holds("three and an open run", 7, 1, new int[] {109}, 0, 0, 0, 8, 8, 8, 26, 26, 26, 13, 13);
        holds("three and an open four", 7, 1, new int[] {333}, 0, 0, 0, 8, 8, 8, 26, 26, 26, 13, 13);
        holds("two and an open three", 7, 0, new int[] {226, 109}, 0, 0, 0, 8, 8, 8, 13, 13);
        holds("two and two open fours", 7, 0, new int[] {326, 333}, 0, 0, 0, 8, 8, 8, 13, 13);
        holds("two and two runs", 7, 0, NONE_LAID, 0, 0, 0, 8, 8, 8, 9, 10, 11, 13, 14, 15, 33, 33);
        holds("four open ones", 7, 0, new int[] {200, 208, 226, 233}, 13, 13);
    }

    private static void holdsOfSeven() {
        due.sentence("Of SEVEN PAIRS hold 2 and 3, if each PAIR is OUTER, 4 as told, 5, 8, no others;");
        int[][] hands = {
            {0, 0, 8, 8, 9, 9, 17, 17, 18, 18, 26, 26, 33, 33}, {0, 0, 8, 8, 9, 9, 17, 17, 18, 18, 26, 26, 25, 25},
            {27, 27, 28, 28, 29, 29, 30, 30, 31, 31, 32, 32, 33, 33}, {0, 0, 1, 1, 3, 3, 4, 4, 6, 6, 7, 7, 8, 8},
            {0, 0, 1, 1, 3, 3, 4, 4, 6, 6, 7, 7, 9, 9}, {9, 9, 18, 18, 20, 20, 21, 21, 23, 23, 24, 24, 26, 26},
            {26, 26, 27, 27, 28, 28, 29, 29, 30, 30, 31, 31, 32, 32}, {0, 0, 9, 9, 11, 11, 12, 12, 14, 14, 15, 15, 17, 17},
            {8, 8, 27, 27, 28, 28, 29, 29, 30, 30, 31, 31, 33, 33}, {0, 0, 1, 1, 3, 3, 4, 4, 6, 6, 7, 7, 33, 33},
        };
        int[] sets = {0b100101100, 0b100100000, 0b100111100, 0b100110000, 0b100100000, 0b100100000, 0b100101100,
            0b100100000, 0b100101100, 0b100100000};
        for (int n = 0; n < hands.length; n++) {
            TileDesk desk = Due.holding(hands[n]);
            due.is("no way", desk.ways(0), 0);
            desk.count(SEVEN, true);
            for (int condition = 0; condition < 10; condition++) {
                due.is("pairs " + n + ", " + condition, desk.holds(0, condition), sets[n] >> condition & 1);
            }
        }
    }

    private static void holdsOfOuter() {
        due.sentence("of OUTER ones 3, 5, 9.");
        for (int twice : new int[] {0, 8, 17, 26, 27, 33}) {
            TileDesk desk = Due.holding(0, 8, 9, 17, 18, 26, 27, 28, 29, 30, 31, 32, 33, twice);
            desk.count(SEVEN, true);
            due.is("not told to count", desk.holds(0, 9), NO);
            desk.count(OUTER, true);
            for (int condition = 0; condition < 10; condition++) {
                int want = condition == 3 || condition == 5 || condition == 9 ? 1 : 0;
                due.is("outer ones, " + condition, desk.holds(0, condition), want);
            }
        }
    }

    private static void holdsBad() {
        due.sentence("1: a condition holds of what by() tells; 0. BAD: also the condition; NO likewise.");
        TileDesk desk = new TileDesk();
        for (int n = 0; n < 14; n++) {
            due.is("holds at size " + n, desk.holds(0, 5), NO);
            Due.hold(desk, 0, TWO_WAYS[n]);
        }
        for (int condition : new int[] {-1, 10, 11, 31, 32, 37, LEAST, GREATEST}) {
            due.is("condition " + condition, desk.holds(0, condition), BAD);
            due.is("condition " + condition + ", not done", desk.holds(1, condition), BAD);
        }
        for (int h : Due.NO_HANDS) {
            due.is("hand " + h, desk.holds(h, 5), BAD);
        }
        due.is("condition 0", desk.holds(0, 0), 0);
        due.is("condition 9", desk.holds(0, 9), 0);
        due.is("condition 5", desk.holds(0, 5), 1);
        due.is("not done", desk.holds(3, 9), NO);
    }
}
