/**
 * Each call with the numbers at the edge of what is told and beyond it, all of them with all, on a TileDesk and on a
 * SlowDesk that were made ready alike; what a call changes both have changed for the calls behind it.
 */
public final class EdgeNumbersTest {
    private static final int LEAST = Integer.MIN_VALUE, GREATEST = Integer.MAX_VALUE, KEPT_BACK = 12;
    private static final int[] HANDS = {-1, 0, 1, 2, 3, 4, LEAST, GREATEST};
    private static final int[] RACKS = {-1, 0, 1, 2, 3, 6, LEAST, GREATEST};
    private static final int[] FEW_RACKS = {-1, 0, 1, 2, 3, 6};
    private static final int[] PLACES = {-1, 0, 3, 4, GREATEST};
    private static final int[] MORE_PLACES = {-1, 0, 2, 3, 4, 39, 40, LEAST, GREATEST};
    private static final int[] LENGTHS = {-1, 0, 1, 40, 41, LEAST, GREATEST};
    private static final int[] VALUES = {LEAST, -65537, -65536, -32769, -32768, -257, -256, -129, -128, -1, 0, 33, 34, 127, 128,
        255, 256, 32767, 32768, 65535, 65536, GREATEST};
    private static final int[] SORTS = {-1, 0, 6, 7, 8, 9, 26, 27, 33, 34, LEAST, GREATEST};
    private static final int[] SEEDS = {LEAST, -1, 0, 1, 44488, 44489, GREATEST};
    private static final int[] PLACES_OF_TILES = {-1, 0, 1, 2, 5, 6, 9, 10, LEAST, GREATEST};
    private static final int[] ABOUTS = {-1, 0, 1, 2, 3, 6, 7, LEAST, GREATEST};
    private static final int[] THREE = {-1, 0, 1, 2, 3, 4, LEAST, GREATEST};
    private static final int[] FROM_0 = {LEAST, -1, 0, 1, 2, 4, 8, 12, 13, 33, 34, GREATEST};
    private static final int[] GROUPS = {-1, 0, 3, 4, 5, LEAST, GREATEST};
    private static final int[] CONDITIONS = {-1, 0, 9, 10, LEAST, GREATEST};
    private static final int[] POINTS = {-1, 0, 1000, 1001, LEAST, GREATEST};
    private static final int[] OUTS = {-2, -1, 0, 9, 10, LEAST, GREATEST};
    private static final int[] NOTHING = {0};
    private static final int[] DONE = {0, 0, 0, 1, 1, 1, 2, 2, 2, 9, 10, 11, 33, 33};
    private static final int[] SEVEN = {1, 1, 4, 4, 7, 7, 10, 10, 13, 13, 16, 16, 33, 33};
    private static final int[] THIRTEEN = {0, 8, 9, 17, 18, 26, 27, 28, 29, 30, 31, 32, 33};
    private static final int[] FAR = {1, 4, 7, 10, 13, 16, 19, 22, 25, 27, 28, 29, 30, 31};
    private static final int[] WAITS = {3, 3, 3, 12, 12, 12, 21, 21, 21, 5, 6, 32, 32};
    private static final int STATES = 5;

    private Both both = null;
    private int calls = 0;
    private int wrong = 0;
    private int state = 0;

    public static void main(String[] args) {
        EdgeNumbersTest test = new EdgeNumbersTest();
        for (int state = 0; state < STATES; state++) {
            test.state = state;
            test.ready();
            test.askRacks();
            test.askTiles();
            test.askHands();
            test.askWorth();
        }
        System.out.println("EdgeNumbersTest: " + test.calls + " calls, " + test.wrong + " of them wrong");
        if (test.wrong > 0) {
            System.exit(1);
        }
    }

    // ---- what is asked

    private void askRacks() {
        all(0, RACKS, new int[] {-2, -1, 0, 1, 2, 3, LEAST, GREATEST}, LENGTHS, NOTHING, NOTHING);
        all(1, RACKS, MORE_PLACES, VALUES, NOTHING, NOTHING);
        all(3, RACKS, MORE_PLACES, NOTHING, NOTHING, NOTHING);
        all(4, HANDS, FEW_RACKS, PLACES, new int[] {LEAST, -1, 0, 1, 2, 3, 4, 14, 15, GREATEST}, NOTHING);
        if (state == 0) {
            all(2, FEW_RACKS, PLACES, FEW_RACKS, PLACES, PLACES);
        }
    }

    private void askTiles() {
        all(5, SEEDS, NOTHING, NOTHING, NOTHING, NOTHING);
        for (int n = 0; n < 3; n++) {
            all(7, HANDS, NOTHING, NOTHING, NOTHING, NOTHING);
        }
        all(6, HANDS, SORTS, NOTHING, NOTHING, NOTHING);
        all(9, HANDS, ABOUTS, NOTHING, NOTHING, NOTHING);
        all(10, HANDS, SORTS, NOTHING, NOTHING, NOTHING);
        all(11, HANDS, THREE, SORTS, NOTHING, NOTHING);
        all(13, SORTS, PLACES_OF_TILES, NOTHING, NOTHING, NOTHING);
        all(12, HANDS, NOTHING, NOTHING, NOTHING, NOTHING);
        all(8, SEEDS, NOTHING, NOTHING, NOTHING, NOTHING);
    }

    private void askHands() {
        for (int which : new int[] {15, 17, 20, 23, 26}) {
            all(which, HANDS, NOTHING, NOTHING, NOTHING, NOTHING);
        }
        all(16, HANDS, FROM_0, new int[] {-1, 0, 1, 4, 5, LEAST, GREATEST}, NOTHING, NOTHING);
        all(18, HANDS, FROM_0, NOTHING, NOTHING, NOTHING);
        all(19, HANDS, FROM_0, NOTHING, NOTHING, NOTHING);
        all(21, HANDS, SORTS, NOTHING, NOTHING, NOTHING);
        all(22, HANDS, SORTS, NOTHING, NOTHING, NOTHING);
        all(24, HANDS, new int[] {-1, 0, 3, 4, LEAST, GREATEST}, GROUPS, new int[] {-1, 0, 1, 2, GREATEST}, NOTHING);
        all(25, HANDS, new int[] {-1, 0, 1, 2, 3, LEAST, GREATEST}, NOTHING, NOTHING, NOTHING);
        all(27, HANDS, HANDS, NOTHING, NOTHING, NOTHING);
        all(14, new int[] {-1, 0, 1, 2, LEAST, GREATEST}, new int[] {0, 1}, NOTHING, NOTHING, NOTHING);
        all(15, HANDS, NOTHING, NOTHING, NOTHING, NOTHING);
    }

    private void askWorth() {
        all(29, CONDITIONS, POINTS, OUTS, NOTHING, NOTHING);
        all(31, HANDS, NOTHING, NOTHING, NOTHING, NOTHING);
        all(32, HANDS, NOTHING, NOTHING, NOTHING, NOTHING);
        all(33, HANDS, CONDITIONS, NOTHING, NOTHING, NOTHING);
        all(30, NOTHING, NOTHING, NOTHING, NOTHING, NOTHING);
        all(30, NOTHING, NOTHING, NOTHING, NOTHING, NOTHING);
    }

    private void all(int which, int[] as, int[] bs, int[] cs, int[] ds, int[] es) {
        ready();
        for (int a : as) {
            for (int b : bs) {
                for (int c : cs) {
                    for (int d : ds) {
                        for (int e : es) {
                            ask(which, a, b, c, d, e);
                        }
                    }
                }
            }
        }
        shut();
    }

    private void ask(int which, int a, int b, int c, int d, int e) {
        if (both.wrong || both.made >= Both.MOST_CALLS - KEPT_BACK) {
            shut();
            ready();
        }
        both.call(which, a, b, c, d, e);
    }

    /** What was asked has left both alike, as far as a few calls show. */
    private void shut() {
        for (int h = 0; h < 4; h++) {
            both.call(9, h, 0, 0, 0, 0);
            both.call(26, h, 0, 0, 0, 0);
        }
        both.call(7, 3, 0, 0, 0, 0);
        both.call(30, 0, 0, 0, 0, 0);
        calls += both.made;
        wrong += both.wrong ? 1 : 0;
    }

    // ---- what is made ready

    private void ready() {
        both = new Both();
        switch (state) {
            case 0: readyRacks(); break;
            case 1: readyDone(); break;
            case 2: readyOthers(); break;
            case 3: readyOpen(); break;
            default: readyNoWall(); break;
        }
    }

    private void hold(int h, int... sorts) {
        for (int sort : sorts) {
            both.call(6, h, sort, 0, 0, 0);
        }
    }

    /** Two racks of bytes, one of chars, the others missing. */
    private void readyRacks() {
        for (int r = 0; r < 3; r++) {
            both.call(0, r, r / 2, 3, 0, 0);
            for (int i = 0; i < 3; i++) {
                both.call(1, r, i, 11 * r + i, 0, 0);
            }
        }
        both.call(1, 1, 2, 34, 0, 0);
        hold(1, FAR);
    }

    /** A hand that is done, one that waits, one far from done, one of twelve. */
    private void readyDone() {
        hold(0, DONE);
        hold(1, WAITS);
        hold(2, FAR);
        hold(3, 20, 20, 20, 14, 14, 14, 15, 15, 15, 16, 16, 16);
        both.call(29, 7, 5, -1, 0, 0);
        both.call(29, 5, 9, 6, 0, 0);
    }

    /** Seven pairs and outer ones that count. */
    private void readyOthers() {
        both.call(14, 0, 1, 0, 0, 0);
        both.call(14, 1, 1, 0, 0, 0);
        hold(0, SEVEN);
        hold(1, THIRTEEN);
        hold(2, THIRTEEN);
        hold(2, 9);
        both.call(29, 9, 5, -1, 0, 0);
        both.call(29, 8, 9, -1, 0, 0);
    }

    /** Four open groups and one tile, and two; fours; and an open one of which the last tile is held. */
    private void readyOpen() {
        int[] fours = {0, 8, 9, 33};
        for (int sort : fours) {
            hold(0, sort, sort, sort, sort);
            both.call(11, 0, 3, sort, 0, 0);
        }
        hold(0, 27);
        for (int from = 18; from < 22; from++) {
            hold(1, from, from + 1, from + 2);
            both.call(11, 1, 1, from, 0, 0);
        }
        hold(1, 26, 26);
        hold(2, 30, 30, 30);
        both.call(11, 2, 2, 30, 0, 0);
        hold(2, 30, 1, 2, 3, 4, 5, 6, 7, 13, 14);
    }

    /** All is thrown but what hands 0 to 2 hold, one of which is full. */
    private void readyNoWall() {
        int[] left = new int[34];
        java.util.Arrays.fill(left, 4);
        int[][] hands = {WAITS, SEVEN, {20}};
        for (int h = 0; h < 3; h++) {
            hold(h, hands[h]);
            for (int sort : hands[h]) {
                left[sort]--;
            }
        }
        for (int sort = 0; sort < 34; sort++) {
            for (int n = 0; n < left[sort]; n++) {
                hold(3, sort);
                both.call(10, 3, sort, 0, 0, 0);
            }
        }
    }
}
