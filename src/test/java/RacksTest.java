/** Promises 2 to 6. */
public final class RacksTest {
    private static final Due due = new Due("RacksTest");
    private static final int BAD = Due.BAD, NO = Due.NO, FULL = Due.FULL;
    private static final int PLACE_BAD = -100000, PLACE_NULL = -100011, PLACE_INDEX = -100012;
    private static final int BYTES = 0, CHARS = 1, SHORTS = 2, MISSING = -1;

    public static void main(String[] args) {
        promise2();
        promise3();
        promise4();
        promise4Refusals();
        promise5();
        promise6();
        promise6Refusals();
        due.end();
    }

    /** A desk of which rack r is a row of this kind that keeps these. */
    private static void fill(TileDesk desk, int r, int kind, int... values) {
        desk.rack(r, kind, values.length);
        for (int i = 0; i < values.length; i++) {
            desk.place(r, i, values[i]);
        }
    }

    private static void tells(String call, TileDesk desk, int r, int... values) {
        for (int i = 0; i < values.length; i++) {
            due.is(call + ": place " + i, desk.told(r, i), values[i]);
        }
        due.is(call + ": the end", desk.told(r, values.length), PLACE_INDEX);
    }

    private static void promise2() {
        TileDesk desk = new TileDesk();
        for (int r = 0; r < 6; r++) {
            due.is("rack of 3", desk.rack(r, r % 3, 3), 0);
            tells("rack of 3", desk, r, 0, 0, 0);
        }
        due.is("rack of none", desk.rack(0, BYTES, 0), 0);
        tells("rack of none", desk, 0);
        due.is("rack of 40", desk.rack(0, SHORTS, 40), 0);
        due.is("the last of 40", desk.place(0, 39, 7), 7);
        due.is("beyond 40", desk.told(0, 40), PLACE_INDEX);
        due.is("rack of 41", desk.rack(0, SHORTS, 41), FULL);
        due.is("rack of very many", desk.rack(0, BYTES, Integer.MAX_VALUE), FULL);
        due.is("rack of -1", desk.rack(0, SHORTS, -1), Due.SIZE);
        due.is("rack of the least", desk.rack(0, CHARS, Integer.MIN_VALUE), Due.SIZE);
        due.is("kind 3", desk.rack(0, 3, -1), BAD);
        due.is("kind -2", desk.rack(0, -2, 3), BAD);
        due.is("still there", desk.told(0, 39), 7);
        due.is("anew", desk.rack(0, SHORTS, 40), 0);
        due.is("anew all are 0", desk.told(0, 39), 0);
        due.is("missing, whatever n", desk.rack(0, MISSING, -5), 0);
        due.is("missing", desk.told(0, 0), PLACE_NULL);
        due.is("missing, whatever n", desk.rack(1, MISSING, 41), 0);
        due.is("missing", desk.told(1, 0), PLACE_NULL);
        for (int r : new int[] {-1, 6, Integer.MIN_VALUE, Integer.MAX_VALUE}) {
            due.is("no rack", desk.rack(r, BYTES, 3), BAD);
            due.is("no rack ahead of its size", desk.rack(r, BYTES, -1), BAD);
            due.is("no rack is not even missing", desk.rack(r, MISSING, 0), BAD);
        }
    }

    private static void promise3() {
        int[] given = {200, 128, 127, -128, -129, 255, 256, 32767, 32768, 65535, 65536, -1, -32769, 1 << 31};
        int[] bytes = {-56, -128, 127, -128, 127, -1, 0, -1, 0, -1, 0, -1, -1, 0};
        int[] chars = {200, 128, 127, 65408, 65407, 255, 256, 32767, 32768, 65535, 0, 65535, 32767, 0};
        int[] shorts = {200, 128, 127, -128, -129, 255, 256, 32767, -32768, -1, 0, -1, 32767, 0};
        int[][] kept = {bytes, chars, shorts};
        TileDesk desk = new TileDesk();
        for (int kind = BYTES; kind <= SHORTS; kind++) {
            desk.rack(kind, kind, given.length);
            for (int i = 0; i < given.length; i++) {
                due.is("kind " + kind + " place " + given[i], desk.place(kind, i, given[i]), kept[kind][i]);
            }
            tells("kind " + kind, desk, kind, kept[kind]);
        }
        for (int i : new int[] {given.length, -1, Integer.MAX_VALUE, Integer.MIN_VALUE}) {
            due.is("place beyond", desk.place(0, i, 1), PLACE_INDEX);
            due.is("place beyond one that is missing", desk.place(3, i, 1), PLACE_NULL);
            due.is("place of no rack", desk.place(6, i, 1), PLACE_BAD);
        }
        due.is("place of no rack", desk.place(-1, 0, 1), PLACE_BAD);
        tells("after refusals", desk, 0, bytes);
    }

    private static void promise4() {
        TileDesk desk = new TileDesk();
        for (int kind = BYTES; kind <= SHORTS; kind++) {
            fill(desk, 0, kind, 1, 2, 3, 4, 5);
            fill(desk, 1, kind, 6, 7, 8);
            due.is("copy to another", desk.copy(0, 1, 1, 0, 2), 0);
            tells("copy to another", desk, 1, 2, 3, 8);
            tells("copy leaves the first", desk, 0, 1, 2, 3, 4, 5);
            due.is("copy up in itself", desk.copy(0, 0, 0, 1, 4), 0);
            tells("copy up in itself", desk, 0, 1, 1, 2, 3, 4);
            due.is("copy down in itself", desk.copy(0, 1, 0, 0, 4), 0);
            tells("copy down in itself", desk, 0, 1, 2, 3, 4, 4);
            due.is("copy all", desk.copy(1, 0, 1, 0, 3), 0);
            due.is("copy none", desk.copy(0, 0, 1, 0, 0), 0);
            due.is("copy none from end to end", desk.copy(0, 5, 1, 3, 0), 0);
            tells("copy none", desk, 1, 2, 3, 8);
        }
    }

    private static void promise4Refusals() {
        TileDesk desk = new TileDesk();
        fill(desk, 0, BYTES, 1, 2, 3);
        fill(desk, 1, BYTES, 4, 5);
        fill(desk, 2, SHORTS, 6, 7);
        int[][] beyond = {
            {2, 0, 2}, {0, 1, 2}, {4, 0, 0}, {0, 3, 0}, {-1, 0, 1}, {0, -1, 1}, {0, 0, -1}, {3, 2, -1}, {-1, -1, 2},
            {0, 0, 3}, {1, 0, Integer.MAX_VALUE}, {Integer.MAX_VALUE, 0, 1}, {0, Integer.MAX_VALUE, 1},
            {Integer.MAX_VALUE, Integer.MAX_VALUE, Integer.MAX_VALUE}, {0, 0, Integer.MIN_VALUE},
            {Integer.MIN_VALUE, 0, 0}, {0, Integer.MIN_VALUE, 0},
        };
        for (int[] of : beyond) {
            String call = "copy " + of[0] + ", " + of[1] + ", " + of[2];
            due.is(call, desk.copy(0, of[0], 1, of[1], of[2]), Due.INDEX);
            due.is(call + " to another kind", desk.copy(0, of[0], 2, of[1], of[2]), Due.STORE);
            due.is(call + " from a missing one", desk.copy(3, of[0], 2, of[1], of[2]), Due.NULL);
            due.is(call + " to a missing one", desk.copy(2, of[0], 3, of[1], of[2]), Due.NULL);
            due.is(call + " from no rack", desk.copy(6, of[0], 3, of[1], of[2]), BAD);
            due.is(call + " to no rack", desk.copy(3, of[0], -1, of[1], of[2]), BAD);
        }
        due.is("chars are no shorts", desk.rack(3, CHARS, 2), 0);
        due.is("chars are no shorts", desk.copy(3, 0, 2, 0, 1), Due.STORE);
        tells("after refusals", desk, 0, 1, 2, 3);
        tells("after refusals", desk, 1, 4, 5);
        tells("after refusals", desk, 2, 6, 7);
    }

    private static void promise5() {
        TileDesk desk = new TileDesk();
        fill(desk, 5, CHARS, 9, 8);
        due.is("told", desk.told(5, 0), 9);
        due.is("told", desk.told(5, 1), 8);
        for (int i : new int[] {2, 40, -1, Integer.MAX_VALUE, Integer.MIN_VALUE}) {
            due.is("told beyond", desk.told(5, i), PLACE_INDEX);
            due.is("told of a missing one", desk.told(4, i), PLACE_NULL);
            due.is("told of no rack", desk.told(6, i), PLACE_BAD);
            due.is("told of no rack", desk.told(-1, i), PLACE_BAD);
        }
    }

    private static void promise6() {
        TileDesk desk = new TileDesk();
        fill(desk, 0, BYTES, 99, 4, 4, 33, 0, 99);
        due.is("read", desk.read(2, 0, 1, 4), 4);
        due.is("two of one sort", desk.tiles(4, 4), 2);
        due.is("of the wall", desk.tiles(4, 0), 2);
        due.is("the last sort", desk.tiles(33, 4), 1);
        due.is("the first sort", desk.tiles(0, 4), 1);
        due.is("read none", desk.read(2, 0, 6, 0), 4);
        fill(desk, 1, CHARS, 4, 5, 6, 7, 8, 9, 10, 11, 12, 13);
        due.is("read until full", desk.read(2, 1, 0, 10), 14);
        due.is("read none when full", desk.read(2, 1, 0, 0), 14);
        Due.lay(desk, 1, 330);
        fill(desk, 2, SHORTS, 1, 1, 1);
        due.is("an open group is three", desk.read(1, 2, 0, 3), 6);
    }

    private static void promise6Refusals() {
        TileDesk desk = new TileDesk();
        fill(desk, 0, SHORTS, 5, 5, 5, 5, 5, 34, -1, 5, 6, 7, 8, 9, 10, 11, 12, 13, 14, 15, 16, 17, 18, 19, 20);
        due.is("no hand", desk.read(4, 1, 0, -1), BAD);
        due.is("no hand", desk.read(-1, 0, 0, 1), BAD);
        due.is("no rack", desk.read(0, 6, 0, 1), BAD);
        due.is("no rack", desk.read(0, -1, 0, 1), BAD);
        due.is("missing ahead of size", desk.read(0, 1, 0, -1), Due.NULL);
        due.is("size ahead of index", desk.read(0, 0, -1, -1), Due.SIZE);
        due.is("size", desk.read(0, 0, 0, Integer.MIN_VALUE), Due.SIZE);
        due.is("index ahead of many", desk.read(0, 0, 0, 24), Due.INDEX);
        due.is("index below", desk.read(0, 0, -1, 1), Due.INDEX);
        due.is("index far", desk.read(0, 0, Integer.MAX_VALUE, Integer.MAX_VALUE), Due.INDEX);
        due.is("index of the end", desk.read(0, 0, 23, 1), Due.INDEX);
        due.is("many ahead of five", desk.read(0, 0, 0, 15), Due.MANY);
        due.is("five ahead of sort", desk.read(0, 0, 0, 6), Due.FIVE);
        due.is("sort ahead of five", desk.read(0, 0, 1, 7), Due.SORT);
        due.is("sort -1", desk.read(0, 0, 6, 3), Due.SORT);
        due.is("five", desk.read(0, 0, 0, 5), Due.FIVE);
        due.is("none came", desk.about(0, 0), 0);
        due.is("none left the wall", desk.tiles(5, 0), 4);
        due.is("none is held", desk.tiles(5, 2), 0);
        due.is("four", desk.read(0, 0, 0, 4), 4);
        due.is("another hand, five", desk.read(1, 0, 7, 1), Due.FIVE);
        due.is("eleven more", desk.read(0, 0, 8, 11), Due.MANY);
        due.is("ten more", desk.read(0, 0, 8, 10), 14);
        due.is("one more", desk.read(0, 0, 9, 1), Due.MANY);
        due.is("full", desk.take(0, 33), NO);
    }
}
