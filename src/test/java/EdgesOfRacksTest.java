/** The boundary cases of promises 1 to 6, sentence by sentence of the document. */
public final class EdgesOfRacksTest {
    private static final Due due = new Due("EdgesOfRacksTest");
    private static final int BAD = Due.BAD, FULL = Due.FULL, LEAST = Due.LEAST, GREATEST = Due.GREATEST;
    private static final int PLACE_BAD = -100000, PLACE_NULL = -100011, PLACE_INDEX = -100012;
    private static final int BYTES = 0, CHARS = 1, SHORTS = 2, MISSING = -1;
    private static final int[] NO_RACKS = {-1, 6, 7, LEAST, GREATEST};

    public static void main(String[] args) {
        aNewDesk();
        aNewDeskBesideAnother();
        rackOfNoneToForty();
        rackAnewIsAll0();
        rackMissing();
        rackBad();
        rackSize();
        rackFull();
        rackRefusedStaysAsItWas();
        placeCutsBytes();
        placeCutsChars();
        placeCutsShorts();
        placeBad();
        placeNull();
        placeIndex();
        copyOfNone();
        copyOfForty();
        copyInItself();
        copyBad();
        copyNull();
        copyStore();
        copyBelow0();
        copyBeyond();
        copyOrderOfRefusals();
        toldEdges();
        readEdges();
        readOfNone();
        readBad();
        readNull();
        readSize();
        readIndex();
        readMany();
        readSort();
        readFive();
        readAllOrNone();
        due.end();
    }

    private static TileDesk filled(int r, int kind, int... values) {
        TileDesk desk = new TileDesk();
        fill(desk, r, kind, values);
        return desk;
    }

    private static void fill(TileDesk desk, int r, int kind, int... values) {
        due.is("rack", desk.rack(r, kind, values.length), 0);
        for (int i = 0; i < values.length; i++) {
            desk.place(r, i, values[i]);
        }
    }

    private static void tells(String call, TileDesk desk, int r, int... values) {
        for (int i = 0; i < values.length; i++) {
            due.is(call + ": place " + i, desk.told(r, i), values[i]);
        }
        due.is(call + ": the place behind the last", desk.told(r, values.length), PLACE_INDEX);
    }

    // ---- promise 1

    private static void aNewDesk() {
        due.sentence("All tiles in THE WALL; RACKS are MISSING; no RULES; neither SEVEN nor OUTER counts; THE SEED is 1.");
        TileDesk desk = new TileDesk();
        for (int r = 0; r < 6; r++) {
            due.is("told", desk.told(r, 0), PLACE_NULL);
            due.is("place", desk.place(r, 0, 1), PLACE_NULL);
            due.is("copy", desk.copy(r, 0, r, 0, 0), Due.NULL);
            due.is("read", desk.read(0, r, 0, 0), Due.NULL);
        }
        for (int sort = 0; sort < 34; sort++) {
            due.is("the wall has all", desk.tiles(sort, 0), 4);
        }
        for (int h = 0; h < 4; h++) {
            due.is("unseen", desk.unseen(h), 136);
            due.is("size", desk.about(h, 0), 0);
            due.is("first code", desk.about(h, 3), Due.NONE);
        }
        due.is("rules", desk.clearRules(), 0);
        due.is("seven", desk.count(0, true), 0);
        due.is("outer", desk.count(1, true), 0);
        due.is("draw", desk.draw(0), 18);
        due.is("the first rule's number", desk.rule(0, 0, -1), 0);
    }

    private static void aNewDeskBesideAnother() {
        due.sentence("All tiles in THE WALL; RACKS are MISSING; no RULES; neither SEVEN nor OUTER counts; THE SEED is 1.");
        TileDesk used = new TileDesk();
        used.deal(5);
        used.count(0, true);
        used.count(1, true);
        used.rule(1, 1, 1);
        used.rack(0, BYTES, 3);
        TileDesk desk = new TileDesk();
        for (int sort = 0; sort < 34; sort++) {
            due.is("the wall has all", desk.tiles(sort, 0), 4);
        }
        due.is("told", desk.told(0, 0), PLACE_NULL);
        due.is("rules", desk.clearRules(), 0);
        due.is("seven", desk.count(0, false), 0);
        due.is("outer", desk.count(1, false), 0);
        due.is("draw", desk.draw(0), 18);
        due.is("the other one's rules", used.clearRules(), 1);
        due.is("the other one's size", used.about(0, 0), 13);
    }

    // ---- promise 2

    private static void rackOfNoneToForty() {
        due.sentence("or rows of bytes (0), chars (1), shorts (2), of 0 to 40 places.");
        for (int r = 0; r < 6; r++) {
            for (int kind = BYTES; kind <= SHORTS; kind++) {
                TileDesk desk = new TileDesk();
                for (int n : new int[] {0, 1, 39, 40}) {
                    due.is("rack " + r + " of " + n, desk.rack(r, kind, n), 0);
                    tells("rack " + r + " of " + n, desk, r, new int[n]);
                    due.is("place -1", desk.told(r, -1), PLACE_INDEX);
                }
                due.is("the first of forty", desk.place(r, 0, 1), 1);
                due.is("the last of forty", desk.place(r, 39, 2), 2);
                due.is("the first of forty", desk.told(r, 0), 1);
                due.is("the last of forty", desk.told(r, 39), 2);
            }
        }
    }

    private static void rackAnewIsAll0() {
        due.sentence("RACK r becomes a row of n places, all 0, of bytes, chars, shorts (kind 0 to 2)");
        TileDesk desk = filled(3, CHARS, 7, 8, 9);
        due.is("as long again", desk.rack(3, CHARS, 3), 0);
        tells("as long again", desk, 3, 0, 0, 0);
        fill(desk, 3, CHARS, 7, 8, 9);
        due.is("shorter", desk.rack(3, CHARS, 1), 0);
        tells("shorter", desk, 3, 0);
        due.is("longer", desk.rack(3, BYTES, 4), 0);
        tells("longer", desk, 3, 0, 0, 0, 0);
        due.is("of the other kind now", desk.place(3, 0, 255), -1);
        due.is("to none", desk.rack(3, SHORTS, 0), 0);
        tells("to none", desk, 3);
        due.is("none is not missing", desk.copy(3, 0, 3, 0, 0), 0);
        fill(desk, 2, BYTES, 5);
        due.is("another is anew", desk.rack(3, BYTES, 2), 0);
        tells("each by itself", desk, 2, 5);
    }

    private static void rackMissing() {
        due.sentence("or MISSING (kind -1; n counts for nothing): 0.");
        TileDesk desk = new TileDesk();
        for (int n : new int[] {0, 1, 40, 41, -1, LEAST, GREATEST}) {
            fill(desk, 5, SHORTS, 1, 2);
            due.is("missing, n " + n, desk.rack(5, MISSING, n), 0);
            due.is("told", desk.told(5, 0), PLACE_NULL);
            due.is("missing again, n " + n, desk.rack(5, MISSING, n), 0);
            due.is("told", desk.told(5, 1), PLACE_NULL);
        }
        due.is("a row again", desk.rack(5, SHORTS, 2), 0);
        tells("a row again", desk, 5, 0, 0);
    }

    private static void rackBad() {
        due.sentence("BAD; SIZE; FULL: n is above 40.");
        TileDesk desk = new TileDesk();
        for (int r : NO_RACKS) {
            for (int n : new int[] {0, 40, 41, -1, LEAST, GREATEST}) {
                due.is("rack " + r + ", n " + n, desk.rack(r, BYTES, n), BAD);
                due.is("rack " + r + " missing, n " + n, desk.rack(r, MISSING, n), BAD);
            }
        }
        for (int kind : new int[] {-2, 3, 4, LEAST, GREATEST}) {
            for (int n : new int[] {0, 40, 41, -1, LEAST, GREATEST}) {
                due.is("kind " + kind + ", n " + n, desk.rack(0, kind, n), BAD);
            }
        }
        due.is("still missing", desk.told(0, 0), PLACE_NULL);
    }

    private static void rackSize() {
        due.sentence("SIZE -13 a number below 0");
        TileDesk desk = new TileDesk();
        for (int kind = BYTES; kind <= SHORTS; kind++) {
            due.is("n -1", desk.rack(0, kind, -1), -13);
            due.is("n far below", desk.rack(5, kind, LEAST), -13);
        }
        due.is("still missing", desk.told(0, 0), PLACE_NULL);
    }

    private static void rackFull() {
        due.sentence("FULL: n is above 40.");
        TileDesk desk = new TileDesk();
        for (int kind = BYTES; kind <= SHORTS; kind++) {
            due.is("n 41", desk.rack(0, kind, 41), FULL);
            due.is("n far above", desk.rack(5, kind, GREATEST), FULL);
            due.is("n 40", desk.rack(1 + kind, kind, 40), 0);
        }
        due.is("still missing", desk.told(0, 0), PLACE_NULL);
    }

    private static void rackRefusedStaysAsItWas() {
        due.sentence("Of several the first in this order; nothing changes then.");
        TileDesk desk = filled(0, SHORTS, 300, -300);
        due.is("kind", desk.rack(0, 3, 1), BAD);
        due.is("size", desk.rack(0, BYTES, -1), Due.SIZE);
        due.is("full", desk.rack(0, BYTES, 41), FULL);
        tells("as it was", desk, 0, 300, -300);
        due.is("of shorts still", desk.place(0, 0, 40000), -25536);
    }

    // ---- promise 3

    private static void cuts(int kind, int[][] pairs) {
        due.sentence("Place i of a RACK becomes v, cut to what it keeps: that.");
        TileDesk desk = new TileDesk();
        desk.rack(4, kind, 2);
        for (int[] pair : pairs) {
            due.is("kind " + kind + ", place of " + pair[0], desk.place(4, 1, pair[0]), pair[1]);
            due.is("kind " + kind + ", told of " + pair[0], desk.told(4, 1), pair[1]);
        }
        due.is("the place beside it", desk.told(4, 0), 0);
    }

    private static void placeCutsBytes() {
        cuts(BYTES, new int[][] {
            {0, 0}, {1, 1}, {-1, -1}, {127, 127}, {128, -128}, {129, -127}, {255, -1}, {256, 0}, {257, 1}, {383, 127},
            {384, -128}, {-127, -127}, {-128, -128}, {-129, 127}, {-255, 1}, {-256, 0}, {-257, -1}, {32767, -1},
            {32768, 0}, {65535, -1}, {65536, 0}, {LEAST, 0}, {LEAST + 1, 1}, {GREATEST, -1}, {GREATEST - 1, -2},
        });
    }

    private static void placeCutsChars() {
        cuts(CHARS, new int[][] {
            {0, 0}, {1, 1}, {-1, 65535}, {127, 127}, {128, 128}, {255, 255}, {256, 256}, {32767, 32767},
            {32768, 32768}, {65535, 65535}, {65536, 0}, {65537, 1}, {131071, 65535}, {131072, 0}, {-128, 65408},
            {-32768, 32768}, {-32769, 32767}, {-65535, 1}, {-65536, 0}, {-65537, 65535}, {LEAST, 0}, {LEAST + 1, 1},
            {GREATEST, 65535}, {GREATEST - 1, 65534},
        });
    }

    private static void placeCutsShorts() {
        cuts(SHORTS, new int[][] {
            {0, 0}, {1, 1}, {-1, -1}, {127, 127}, {128, 128}, {-129, -129}, {32766, 32766}, {32767, 32767},
            {32768, -32768}, {32769, -32767}, {65535, -1}, {65536, 0}, {65537, 1}, {98303, 32767}, {98304, -32768},
            {-32767, -32767}, {-32768, -32768}, {-32769, 32767}, {-65535, 1}, {-65536, 0}, {-65537, -1}, {LEAST, 0},
            {LEAST + 1, 1}, {GREATEST, -1}, {GREATEST - 1, -2},
        });
    }

    private static void placeBad() {
        due.sentence("BAD (answers -100000); NULL -100011, INDEX -100012.");
        TileDesk desk = filled(0, BYTES, 5);
        for (int r : NO_RACKS) {
            for (int i : new int[] {0, -1, 40, LEAST, GREATEST}) {
                due.is("place of rack " + r, desk.place(r, i, 1), PLACE_BAD);
                due.is("told of rack " + r, desk.told(r, i), PLACE_BAD);
            }
        }
        due.is("as it was", desk.told(0, 0), 5);
    }

    private static void placeNull() {
        due.sentence("NULL -11 it is MISSING");
        TileDesk desk = filled(0, BYTES, 5);
        for (int r = 1; r < 6; r++) {
            for (int i : new int[] {0, -1, 40, LEAST, GREATEST}) {
                due.is("place of rack " + r, desk.place(r, i, 1), PLACE_NULL);
                due.is("told of rack " + r, desk.told(r, i), PLACE_NULL);
            }
        }
        due.is("rack 0 is there", desk.place(0, 0, 6), 6);
    }

    private static void placeIndex() {
        due.sentence("INDEX -12 a place beyond it");
        for (int n : new int[] {0, 1, 3, 40}) {
            TileDesk desk = new TileDesk();
            desk.rack(2, CHARS, n);
            for (int i : new int[] {n, n + 1, 40, 41, -1, -40, LEAST, GREATEST}) {
                due.is("place " + i + " of " + n, desk.place(2, i, 9), PLACE_INDEX);
                due.is("told " + i + " of " + n, desk.told(2, i), PLACE_INDEX);
            }
            tells("as it was", desk, 2, new int[n]);
            if (n > 0) {
                due.is("the last place", desk.place(2, n - 1, 9), 9);
                due.is("the last place", desk.told(2, n - 1), 9);
            }
        }
    }

    // ---- promise 4

    private static void copyOfNone() {
        due.sentence("n places of RACK r from i on come to RACK t from j on (each as it was ahead of all): 0.");
        TileDesk desk = filled(0, CHARS, 1, 2, 3);
        fill(desk, 1, CHARS, 4, 5);
        desk.rack(2, CHARS, 0);
        due.is("none, at the first places", desk.copy(0, 0, 1, 0, 0), 0);
        due.is("none, behind the last places", desk.copy(0, 3, 1, 2, 0), 0);
        due.is("none of a row of none", desk.copy(2, 0, 0, 3, 0), 0);
        due.is("none to a row of none", desk.copy(0, 3, 2, 0, 0), 0);
        due.is("none of a row of none to itself", desk.copy(2, 0, 2, 0, 0), 0);
        tells("as it was", desk, 0, 1, 2, 3);
        tells("as it was", desk, 1, 4, 5);
    }

    private static void copyOfForty() {
        due.sentence("n places of RACK r from i on come to RACK t from j on (each as it was ahead of all): 0.");
        TileDesk desk = new TileDesk();
        int[] values = new int[40];
        for (int i = 0; i < 40; i++) {
            values[i] = 1000 * i - 20000;
        }
        fill(desk, 5, SHORTS, values);
        desk.rack(0, SHORTS, 40);
        due.is("all of forty", desk.copy(5, 0, 0, 0, 40), 0);
        tells("all of forty", desk, 0, values);
        due.is("the last to the first", desk.copy(5, 39, 0, 0, 1), 0);
        due.is("the first is the last", desk.told(0, 0), values[39]);
        due.is("the first to the last", desk.copy(5, 0, 0, 39, 1), 0);
        due.is("the last is the first", desk.told(0, 39), values[0]);
        due.is("the second is as it was", desk.told(0, 1), values[1]);
        due.is("41 of forty", desk.copy(5, 0, 0, 0, 41), Due.INDEX);
    }

    private static void copyInItself() {
        due.sentence("n places of RACK r from i on come to RACK t from j on (each as it was ahead of all): 0.");
        for (int kind = BYTES; kind <= SHORTS; kind++) {
            TileDesk desk = filled(0, kind, 1, 2, 3, 4, 5, 6);
            due.is("up by one", desk.copy(0, 0, 0, 1, 5), 0);
            tells("up by one", desk, 0, 1, 1, 2, 3, 4, 5);
            due.is("down by one", desk.copy(0, 1, 0, 0, 5), 0);
            tells("down by one", desk, 0, 1, 2, 3, 4, 5, 5);
            due.is("up by two", desk.copy(0, 1, 0, 3, 3), 0);
            tells("up by two", desk, 0, 1, 2, 3, 2, 3, 4);
            due.is("down by two", desk.copy(0, 3, 0, 1, 3), 0);
            tells("down by two", desk, 0, 1, 2, 3, 4, 3, 4);
            due.is("where it is", desk.copy(0, 0, 0, 0, 6), 0);
            tells("where it is", desk, 0, 1, 2, 3, 4, 3, 4);
        }
    }

    private static void copyBad() {
        due.sentence("BAD; NULL (of either); STORE; INDEX: one of n, i, j is below 0, or they go beyond a RACK.");
        TileDesk desk = filled(0, BYTES, 1);
        for (int none : NO_RACKS) {
            due.is("from rack " + none, desk.copy(none, 0, 0, 0, 1), BAD);
            due.is("to rack " + none, desk.copy(0, 0, none, 0, 1), BAD);
            due.is("from and to rack " + none, desk.copy(none, 0, none, 0, 0), BAD);
            due.is("from a missing one to rack " + none, desk.copy(1, 0, none, 0, 1), BAD);
            due.is("from rack " + none + " to a missing one", desk.copy(none, -1, 1, -1, -1), BAD);
        }
        tells("as it was", desk, 0, 1);
    }

    private static void copyNull() {
        due.sentence("NULL (of either)");
        TileDesk desk = filled(0, BYTES, 1);
        due.is("from a missing one", desk.copy(1, 0, 0, 0, 1), -11);
        due.is("to a missing one", desk.copy(0, 0, 5, 0, 1), -11);
        due.is("none from a missing one", desk.copy(1, 0, 0, 0, 0), -11);
        due.is("none to a missing one", desk.copy(0, 0, 1, 0, 0), -11);
        due.is("from a missing one to itself", desk.copy(1, 0, 1, 0, 0), -11);
        due.is("once there, but of none", desk.rack(1, BYTES, 0), 0);
        due.is("none to it", desk.copy(0, 0, 1, 0, 0), 0);
        due.is("missing again", desk.rack(1, MISSING, 0), 0);
        due.is("none to it", desk.copy(0, 0, 1, 0, 0), -11);
        tells("as it was", desk, 0, 1);
    }

    private static void copyStore() {
        due.sentence("STORE -14 RACKS of unlike sorts");
        TileDesk desk = new TileDesk();
        for (int kind = BYTES; kind <= SHORTS; kind++) {
            fill(desk, kind, kind, kind + 1, kind + 2);
            fill(desk, 3 + kind, kind, 9);
        }
        for (int one = BYTES; one <= SHORTS; one++) {
            for (int other = BYTES; other <= SHORTS; other++) {
                int want = one == other ? 0 : -14;
                due.is("kind " + one + " to kind " + other, desk.copy(one, 0, 3 + other, 0, 1), want);
                due.is("none, kind " + one + " to kind " + other, desk.copy(one, 0, 3 + other, 0, 0), want);
            }
        }
        for (int kind = BYTES; kind <= SHORTS; kind++) {
            tells("of its own kind alone", desk, 3 + kind, kind + 1);
        }
    }

    private static void copyBelow0() {
        due.sentence("INDEX: one of n, i, j is below 0, or they go beyond a RACK.");
        TileDesk desk = filled(0, BYTES, 1, 2, 3);
        fill(desk, 1, BYTES, 4, 5, 6);
        for (int below : new int[] {-1, -2, -3, LEAST}) {
            due.is("i " + below, desk.copy(0, below, 1, 0, 1), -12);
            due.is("j " + below, desk.copy(0, 0, 1, below, 1), -12);
            due.is("n " + below, desk.copy(0, 0, 1, 0, below), -12);
            due.is("none, i " + below, desk.copy(0, below, 1, 0, 0), -12);
            due.is("none, j " + below, desk.copy(0, 0, 1, below, 0), -12);
            due.is("from the end, n " + below, desk.copy(0, 3, 1, 3, below), -12);
            due.is("i " + below + " and as many", desk.copy(0, below, 1, 0, 3), -12);
            due.is("all " + below, desk.copy(0, below, 1, below, below), -12);
        }
        tells("as it was", desk, 0, 1, 2, 3);
        tells("as it was", desk, 1, 4, 5, 6);
    }

    private static void copyBeyond() {
        due.sentence("INDEX: one of n, i, j is below 0, or they go beyond a RACK.");
        TileDesk desk = filled(0, BYTES, 1, 2, 3);
        fill(desk, 1, BYTES, 4, 5);
        int[][] beyond = {
            {0, 0, 3}, {0, 1, 2}, {1, 0, 3}, {2, 0, 2}, {3, 0, 1}, {0, 2, 1}, {4, 0, 0}, {0, 3, 0}, {0, 0, 41},
            {0, 0, GREATEST}, {1, 0, GREATEST}, {0, 1, GREATEST}, {GREATEST, 0, 1}, {0, GREATEST, 1},
            {GREATEST, 0, 0}, {0, GREATEST, 0}, {GREATEST, GREATEST, GREATEST}, {GREATEST, 0, GREATEST},
        };
        for (int[] of : beyond) {
            due.is("i " + of[0] + ", j " + of[1] + ", n " + of[2], desk.copy(0, of[0], 1, of[1], of[2]), -12);
        }
        tells("as it was", desk, 0, 1, 2, 3);
        tells("as it was", desk, 1, 4, 5);
        due.is("up to the ends of both", desk.copy(0, 1, 1, 0, 2), 0);
        tells("up to the ends of both", desk, 1, 2, 3);
        due.is("the longer one is long enough", desk.copy(1, 0, 0, 1, 2), 0);
        due.is("and no longer", desk.copy(1, 0, 0, 2, 2), -12);
    }

    private static void copyOrderOfRefusals() {
        due.sentence("What refuses an act with one, of several the first as told there");
        TileDesk desk = filled(0, BYTES, 1);
        fill(desk, 1, CHARS, 1);
        due.is("bad ahead of null, store and index", desk.copy(6, -1, 2, -1, -1), BAD);
        due.is("bad ahead of store and index", desk.copy(0, -1, -1, -1, -1), BAD);
        due.is("null ahead of index", desk.copy(2, -1, 0, -1, -1), Due.NULL);
        due.is("null ahead of index", desk.copy(0, 0, 2, 0, 9), Due.NULL);
        due.is("store ahead of index", desk.copy(0, -1, 1, 0, 1), Due.STORE);
        due.is("store ahead of index", desk.copy(1, 0, 0, 0, 9), Due.STORE);
    }

    // ---- promise 5

    private static void toldEdges() {
        due.sentence("Place i of a RACK. BAD, NULL, INDEX as place().");
        TileDesk desk = filled(5, SHORTS, -32768, 32767);
        due.is("the first", desk.told(5, 0), -32768);
        due.is("the last", desk.told(5, 1), 32767);
        due.is("behind it", desk.told(5, 2), PLACE_INDEX);
        due.is("ahead of the first", desk.told(5, -1), PLACE_INDEX);
        due.is("of a missing one", desk.told(4, 0), PLACE_NULL);
        due.is("of rack 6", desk.told(6, 0), PLACE_BAD);
        due.is("of rack -1", desk.told(-1, 0), PLACE_BAD);
        due.is("asked twice", desk.told(5, 0), -32768);
    }

    // ---- promise 6

    private static void readEdges() {
        due.sentence("A HAND takes from THE WALL the tiles that n places of a RACK from i on tell: its SIZE.");
        for (int kind = BYTES; kind <= SHORTS; kind++) {
            TileDesk desk = filled(5, kind, 0, 33, 8, 9, 26, 27);
            for (int h = 0; h < 4; h++) {
                due.is("the first place", desk.read(h, 5, 0, 1), 1);
                due.is("the last place", desk.read(h, 5, 5, 1), 2);
                due.is("all", desk.read(h, 5, 1, 4), 6);
                for (int sort : new int[] {0, 33, 8, 9, 26, 27}) {
                    due.is("sort " + sort + " is held", desk.tiles(sort, 2 + h), 1);
                    due.is("sort " + sort + " has left the wall", desk.tiles(sort, 0), 3 - h);
                }
            }
            tells("the rack is as it was", desk, 5, 0, 33, 8, 9, 26, 27);
        }
    }

    private static void readOfNone() {
        due.sentence("A HAND takes from THE WALL the tiles that n places of a RACK from i on tell: its SIZE.");
        TileDesk desk = filled(0, BYTES, 34, -1);
        desk.rack(1, CHARS, 0);
        due.is("none, from the first on", desk.read(3, 0, 0, 0), 0);
        due.is("none, behind the last", desk.read(3, 0, 2, 0), 0);
        due.is("none of a row of none", desk.read(3, 1, 0, 0), 0);
        Due.hold(desk, 3, 0, 1, 2, 3, 4, 5, 6, 7, 8, 9, 10, 11, 12, 13);
        due.is("none, being full", desk.read(3, 0, 0, 0), 14);
        due.is("one, being full", desk.read(3, 0, 0, 1), Due.MANY);
    }

    private static void readBad() {
        due.sentence("BAD; NULL; SIZE: n; INDEX; MANY; then, place by place, SORT, FIVE.");
        TileDesk desk = filled(0, BYTES, 3);
        for (int h : Due.NO_HANDS) {
            due.is("hand " + h, desk.read(h, 0, 0, 1), BAD);
            due.is("hand " + h + " and all else", desk.read(h, 1, -1, -1), BAD);
        }
        for (int r : NO_RACKS) {
            due.is("rack " + r, desk.read(0, r, 0, 1), BAD);
            due.is("rack " + r + " and all else", desk.read(0, r, -1, -1), BAD);
        }
        due.is("the wall", desk.tiles(3, 0), 4);
    }

    private static void readNull() {
        due.sentence("BAD; NULL; SIZE: n; INDEX; MANY; then, place by place, SORT, FIVE.");
        TileDesk desk = filled(0, BYTES, 3);
        for (int n : new int[] {0, 1, -1, 15, 41, LEAST, GREATEST}) {
            due.is("missing, n " + n, desk.read(0, 1, 0, n), -11);
            due.is("missing, i -1, n " + n, desk.read(0, 5, -1, n), -11);
        }
        due.is("none came", desk.about(0, 0), 0);
    }

    private static void readSize() {
        due.sentence("SIZE -13 a number below 0");
        TileDesk desk = filled(0, BYTES, 3);
        for (int n : new int[] {-1, -2, LEAST}) {
            for (int i : new int[] {0, 1, -1, 2, LEAST, GREATEST}) {
                due.is("n " + n + ", i " + i, desk.read(0, 0, i, n), -13);
            }
        }
        due.is("none came", desk.about(0, 0), 0);
    }

    private static void readIndex() {
        due.sentence("INDEX -12 a place beyond it");
        TileDesk desk = filled(0, BYTES, 3, 34, 3);
        int[][] beyond = {
            {0, 4}, {1, 3}, {2, 2}, {3, 1}, {4, 0}, {-1, 1}, {-1, 0}, {-3, 3}, {0, 15}, {0, 40}, {0, 41},
            {0, GREATEST}, {1, GREATEST}, {GREATEST, 0}, {GREATEST, 1}, {GREATEST, GREATEST}, {LEAST, 0}, {LEAST, 1},
            {LEAST, GREATEST}, {-1, GREATEST},
        };
        for (int[] of : beyond) {
            due.is("i " + of[0] + ", n " + of[1], desk.read(0, 0, of[0], of[1]), -12);
        }
        due.is("none came", desk.about(0, 0), 0);
        due.is("up to the end", desk.read(0, 0, 2, 1), 1);
    }

    private static void readMany() {
        due.sentence("MANY -17 a SIZE above 14.");
        int[] sorts = new int[40];
        for (int i = 0; i < 40; i++) {
            sorts[i] = i % 34;
        }
        TileDesk desk = filled(0, BYTES, sorts);
        due.is("forty", desk.read(0, 0, 0, 40), -17);
        due.is("fifteen", desk.read(0, 0, 0, 15), -17);
        due.is("fourteen", desk.read(0, 0, 0, 14), 14);
        due.is("one more", desk.read(0, 0, 14, 1), -17);
        due.is("thirteen", desk.read(1, 0, 0, 13), 13);
        due.is("two more", desk.read(1, 0, 13, 2), -17);
        due.is("one more", desk.read(1, 0, 13, 1), 14);
        Due.lay(desk, 2, 333);
        due.is("an open four is three", desk.read(2, 0, 14, 12), -17);
        due.is("eleven beside it", desk.read(2, 0, 14, 11), 14);
        TileDesk sort = filled(0, SHORTS, 34, 34, 34, 34, 34, 34, 34, 34, 34, 34, 34, 34, 34, 34, 34);
        due.is("many ahead of sort", sort.read(0, 0, 0, 15), -17);
        due.is("sort", sort.read(0, 0, 0, 14), Due.SORT);
    }

    private static void readSort() {
        due.sentence("SORT -15 a number that is no SORT");
        int[][] none = {
            {34, -1, 35, 127, -128}, {34, 35, 127, 128, 255, 256, 32768, 65535}, {34, -1, 35, 256, -256, 32767, -32768},
        };
        for (int kind = BYTES; kind <= SHORTS; kind++) {
            TileDesk desk = filled(0, kind, none[kind]);
            for (int i = 0; i < none[kind].length; i++) {
                due.is("kind " + kind + ", " + none[kind][i], desk.read(0, 0, i, 1), -15);
            }
            due.is("none came", desk.about(0, 1), 0);
        }
        TileDesk cut = filled(0, BYTES, 256 + 33, -256);
        due.is("what was cut is a sort", cut.read(0, 0, 0, 2), 2);
        due.is("33", cut.tiles(33, 2), 1);
        due.is("0", cut.tiles(0, 2), 1);
    }

    private static void readFive() {
        due.sentence("FIVE -16 none of a SORT is in THE WALL any more");
        TileDesk desk = filled(0, CHARS, 33, 33, 33, 33, 33);
        due.is("five", desk.read(0, 0, 0, 5), -16);
        due.is("four", desk.read(0, 0, 0, 4), 4);
        due.is("one more", desk.read(1, 0, 4, 1), -16);
        desk.discard(0, 33);
        due.is("a thrown one is not in the wall", desk.read(1, 0, 0, 1), -16);
        desk.open(0, 2, 33);
        due.is("open ones are not in the wall", desk.read(1, 0, 0, 1), -16);
        desk.clear(0);
        due.is("three are in the wall again", desk.read(1, 0, 0, 4), -16);
        due.is("three are in the wall again", desk.read(1, 0, 0, 3), 3);
    }

    private static void readAllOrNone() {
        due.sentence("All come, or none.");
        TileDesk desk = filled(0, BYTES, 4, 5, 4, 34, 4, 4, 4);
        Due.hold(desk, 1, 4, 5, 5, 5, 5);
        Due.hold(desk, 0, 4);
        due.is("five ahead of sort, place by place", desk.read(0, 0, 0, 4), Due.FIVE);
        due.is("sort ahead of five, place by place", desk.read(0, 0, 2, 5), Due.SORT);
        due.is("three, of which two are left", desk.read(0, 0, 4, 3), Due.FIVE);
        due.is("held as it was", desk.tiles(4, 2), 1);
        due.is("the wall as it was", desk.tiles(4, 0), 2);
        due.is("size as it was", desk.about(0, 0), 1);
        due.is("held tiles as they were", desk.about(0, 1), 1);
        due.is("no other came", desk.tiles(5, 2), 0);
        due.is("two", desk.read(0, 0, 4, 2), 3);
        due.is("all came", desk.tiles(4, 2), 3);
        due.is("none are left", desk.tiles(4, 0), 0);
    }
}
