/**
 * Runs of chance calls on a TileDesk and on a SlowDesk, which must answer alike. The chance is an own row of numbers,
 * so that each time the same calls are made. Arguments: how many runs, and the first number of the row.
 */
public final class CompareTest {
    private static final int CALLS = Both.CALLS.length;

    private final Both both = new Both();
    private long chance;
    /** Of so many numbers one is none that is told. */
    private int oddOnes = 40;

    private CompareTest(long first) {
        chance = first;
    }

    public static void main(String[] args) {
        int runs = args.length > 0 ? Integer.parseInt(args[0]) : 120;
        long first = args.length > 1 ? Long.parseLong(args[1]) : 1;
        int failed = 0;
        for (int run = 0; run < runs && failed < 5; run++) {
            CompareTest test = new CompareTest(first * 1000003L + run);
            test.run(run);
            failed += test.both.wrong ? 1 : 0;
        }
        System.out.println("CompareTest: " + runs + " runs, " + failed + " of them wrong");
        if (failed > 0) {
            System.exit(1);
        }
    }

    private int pick(int n) {
        chance = chance * 6364136223846793005L + 1442695040888963407L;
        return (int) ((chance >>> 33) % n);
    }

    private void run(int run) {
        pick(2);
        int kind = run % 6;
        oddOnes = run % 11 == 9 ? 3 : 40;
        if (kind == 0) {
            call(pick(2) == 0 ? 8 : 7, pick(100000), 0, 0, 0, 0);
        }
        if (pick(2) == 0) {
            call(14, 0, 1, 0, 0, 0);
        }
        if (pick(2) == 0) {
            call(14, 1, 1, 0, 0, 0);
        }
        for (int round = 0; round < 12 && !both.wrong && both.made < 480; round++) {
            if (kind == 1) {
                build(pick(4), pick(3) == 0 ? 1 : 3);
            }
            if (kind == 2) {
                buildOther(pick(4));
            }
            if (kind == 3) {
                buildRacks();
            }
            if (kind == 4) {
                buildDense(round % 4);
                askAll(round % 4);
            }
            if (kind == 5) {
                buildAlike();
            }
            for (int n = 0; n < 22 && !both.wrong && both.made < 500; n++) {
                chanceCall();
            }
        }
    }

    /** A hand that is done or nearly so, of few rows, with some groups open. */
    private void build(int h, int rows) {
        call(12, h, 0, 0, 0, 0);
        int groups = 4;
        int open = pick(5) - 2;
        for (int g = 0; g < groups; g++) {
            int row = rows == 1 ? h % 3 : pick(4);
            int sort = 9 * row + pick(row < 3 ? 9 : 7);
            int kind = row < 3 && sort % 9 <= 6 && pick(3) > 0 ? 1 : pick(8) == 0 && g < open ? 3 : 2;
            for (int k = 0; k < (kind == 3 ? 4 : 3); k++) {
                call(6, h, kind == 1 ? sort + k : sort, 0, 0, 0);
            }
            if (g < open) {
                call(11, h, kind, sort, 0, 0);
            }
        }
        int pair = 9 * (rows == 1 ? h % 3 : pick(3)) + pick(9);
        call(6, h, pair, 0, 0, 0);
        call(6, h, pair, 0, 0, 0);
        for (int swaps = pick(4); swaps > 0; swaps--) {
            call(10, h, heldSort(h), 0, 0, 0);
            if (swaps > 1) {
                call(8, h, 0, 0, 0, 0);
            }
        }
    }

    /** A hand that is nearly seven pairs, or nearly outer ones. */
    private void buildOther(int h) {
        int[] outer = {0, 8, 9, 17, 18, 26, 27, 28, 29, 30, 31, 32, 33};
        call(12, h, 0, 0, 0, 0);
        int what = pick(4);
        for (int n = 0; n < (what == 0 ? 13 : 7); n++) {
            int sort = what == 0 ? outer[n] : what == 1 ? outer[pick(13)] : what == 2 ? 27 + n : 9 * h % 27 + pick(9);
            call(6, h, sort, 0, 0, 0);
            if (what != 0) {
                call(6, h, sort, 0, 0, 0);
            }
        }
        if (what == 0) {
            call(6, h, outer[pick(13)], 0, 0, 0);
        }
        if (pick(2) == 0) {
            call(10, h, heldSort(h), 0, 0, 0);
        }
    }

    private void buildRacks() {
        for (int r = 0; r < 6; r++) {
            if (pick(3) == 0) {
                call(0, r, pick(4) - 1, pick(42) - 1, 0, 0);
            }
        }
        for (int n = 0; n < 14; n++) {
            int[] odd = {-1, 34, 127, 128, 255, 256, 32768, 65535, 65536, -32769, Integer.MIN_VALUE, Integer.MAX_VALUE};
            call(1, pick(6), pick(12), pick(3) == 0 ? odd[pick(odd.length)] : pick(34), 0, 0);
        }
    }

    /** A hand that is done, of groups close together, so that there may be more ways than one. */
    private void buildDense(int h) {
        call(12, h, 0, 0, 0, 0);
        int from = 9 * pick(3) + pick(6);
        int open = pick(3) == 0 ? pick(4) : 0;
        int runs = pick(3);
        for (int g = 0; g < 4; g++) {
            boolean run = runs == 2 || runs == 1 && pick(2) == 0;
            int sort = pick(6) == 0 ? 27 + pick(7) : Math.min(from + pick(4), from / 9 * 9 + (run ? 6 : 8));
            for (int k = 0; k < 3; k++) {
                call(6, h, run && sort < 27 ? sort + k : sort, 0, 0, 0);
            }
            if (g < open) {
                call(11, h, run && sort < 27 ? 1 : 2, sort, 0, 0);
            }
        }
        int pair = Math.min(from + pick(5), from / 9 * 9 + 8);
        call(6, h, pair, 0, 0, 0);
        call(6, h, pair, 0, 0, 0);
    }

    private void askAll(int h) {
        for (int n = pick(4); n > 0; n--) {
            call(29, pick(10), pick(30), pick(11) - 1, 0, 0);
        }
        for (int i = 0; i < 3; i++) {
            for (int k = 0; k < 5; k++) {
                call(16, h, i, k, 0, 0);
            }
        }
        for (int condition = 0; condition < 10; condition++) {
            call(33, h, condition, 0, 0, 0);
        }
        for (int which : new int[] {15, 20, 31, 32, 17, 23}) {
            call(which, h, 0, 0, 0, 0);
        }
        call(24, h, pick(4), pick(5), pick(2), 0);
        call(10, h, heldSort(h), 0, 0, 0);
        for (int i = 0; i < 4; i++) {
            call(18, h, i, 0, 0, 0);
        }
        call(25, h, 1, 0, 0, 0);
        call(25, h, 2, 0, 0, 0);
    }

    /** Two hands of which the one is the other with its rows turned and in another order, now and then but for a tile. */
    private void buildAlike() {
        int[][] orders = {{0, 1, 2}, {0, 2, 1}, {1, 0, 2}, {1, 2, 0}, {2, 0, 1}, {2, 1, 0}};
        int[] order = orders[pick(6)];
        int turned = pick(8);
        int moved = pick(7);
        call(12, 0, 0, 0, 0, 0);
        call(12, 1, 0, 0, 0, 0);
        for (int n = pick(9); n > 0; n--) {
            int sort = pick(34);
            int at = (turned >> sort / 9 & 1) == 1 ? 8 - sort % 9 : sort % 9;
            int other = sort < 27 ? 9 * order[sort / 9] + at : 27 + (sort - 27 + moved) % 7;
            for (int times = 1 + pick(2); times > 0; times--) {
                call(6, 0, sort, 0, 0, 0);
                call(6, 1, n == 1 && pick(5) == 0 ? pick(34) : other, 0, 0, 0);
            }
        }
        call(27, 0, 1, 0, 0, 0);
        call(27, 1, 0, 0, 0, 0);
        call(11, 0, 2, heldSort(0), 0, 0);
        call(24, 0, 3, pick(5), pick(2), 0);
    }

    private int heldSort(int h) {
        int from = pick(34);
        for (int k = 0; k < 34; k++) {
            if (both.slow.tiles((from + k) % 34, 2 + h) > 0) {
                return (from + k) % 34;
            }
        }
        return from;
    }

    /** A number from 0 up, and now and then one that is none. */
    private int number(int n) {
        int[] odd = {-1, n, n + 1, Integer.MIN_VALUE, Integer.MAX_VALUE};
        return pick(oddOnes) == 0 ? odd[pick(odd.length)] : pick(n);
    }

    private void chanceCall() {
        int which = pick(CALLS + 22);
        int h = number(4);
        if (which >= CALLS) {
            int[] often = {15, 16, 17, 18, 19, 20, 21, 22, 23, 24, 25, 25, 31, 32, 33, 29, 26, 28, 7, 10, 6, 21};
            which = often[which - CALLS];
        }
        if (which == 12 || which == 8 && pick(3) > 0) {
            return;
        }
        if (which == 8 && pick(6) > 0) {
            which = 26;
        }
        int sort = h >= 0 && h < 4 && pick(2) == 0 ? heldSort(h) : number(34);
        switch (which) {
            case 0: call(which, number(6), number(4) - 1, number(41), 0, 0); break;
            case 1: call(which, number(6), number(20), number(300) - 150, 0, 0); break;
            case 2: call(which, number(6), number(20), number(6), number(20), number(20)); break;
            case 3: call(which, number(6), number(41), 0, 0, 0); break;
            case 4: call(which, h, number(6), number(12), number(5), 0); break;
            case 6: case 10: case 21: case 22: call(which, h, sort, 0, 0, 0); break;
            case 8: call(which, pick(20) == 0 ? -1 : pick(Integer.MAX_VALUE), 0, 0, 0, 0); break;
            case 11: call(which, h, 1 + number(3), sort, 0, 0); break;
            case 13: call(which, number(34), number(10), 0, 0, 0); break;
            case 16: call(which, h, number(5), number(5), 0, 0); break;
            case 18: case 19: call(which, h, number(12), 0, 0, 0); break;
            case 24: call(which, h, number(4), number(5), number(2), 0); break;
            case 25: call(which, h, 1 + number(2), 0, 0, 0); break;
            case 27: call(which, h, number(4), 0, 0, 0); break;
            case 29: call(which, number(10), number(1001), number(11) - 1, 0, 0); break;
            case 30: if (pick(8) == 0) { call(which, 0, 0, 0, 0, 0); } break;
            case 33: call(which, h, number(10), 0, 0, 0); break;
            case 14: call(which, number(2), pick(2), 0, 0, 0); break;
            case 5: call(which, pick(50) == 0 ? -1 : pick(Integer.MAX_VALUE), 0, 0, 0, 0); break;
            case 9: call(which, h, number(7), 0, 0, 0); break;
            default: call(which, h, 0, 0, 0, 0); break;
        }
    }

    private void call(int which, int a, int b, int c, int d, int e) {
        both.call(which, a, b, c, d, e);
    }
}
