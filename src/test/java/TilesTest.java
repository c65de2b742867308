import java.util.ArrayList;
import java.util.List;

/** Promises 1, and 7 to 15. */
public final class TilesTest {
    private static final Due due = new Due("TilesTest");
    private static final int BAD = Due.BAD, NO = Due.NO, NONE = Due.NONE;
    private static final int WALL = 0, THROWN = 1, HELD = 2, OPEN = 6;

    public static void main(String[] args) {
        promise1();
        promise7();
        promise8();
        promise9();
        promise9Empty();
        promise10();
        promise11();
        promise12();
        promise12Refusals();
        promise13();
        promise14();
        promise15();
        due.end();
    }

    private static void promise1() {
        due.is("constant BAD", TileDesk.BAD, -1);
        due.is("constant NO", TileDesk.NO, -2);
        due.is("constant NONE", TileDesk.NONE, -3);
        due.is("constant FULL", TileDesk.FULL, -4);
        TileDesk desk = new TileDesk();
        for (int sort = 0; sort < 34; sort++) {
            due.is("the wall of a new desk", desk.tiles(sort, WALL), 4);
            for (int place = THROWN; place <= 9; place++) {
                due.is("place " + place + " of a new desk", desk.tiles(sort, place), 0);
            }
        }
        for (int r = 0; r < 6; r++) {
            due.is("rack of a new desk", desk.told(r, 0), -100011);
        }
        due.is("rules of a new desk", desk.clearRules(), 0);
        due.is("seven counts", desk.count(0, false), 0);
        due.is("outer counts", desk.count(1, false), 0);
        // 48282 by 64 is 754, and 754 is five times 136 and 74, the third tile of sort 18.
        due.is("the first draw of a new desk", desk.draw(0), 18);
    }

    private static void promise7() {
        TileDesk desk = new TileDesk();
        for (int n = 1; n <= 4; n++) {
            due.is("take", desk.take(n - 1, 33), 1);
            due.is("the wall", desk.tiles(33, WALL), 4 - n);
            due.is("held", desk.tiles(33, HELD + n - 1), 1);
        }
        due.is("a fifth", desk.take(0, 33), Due.FIVE);
        for (int n = 2; n <= 14; n++) {
            due.is("take", desk.take(0, n), n);
        }
        due.is("full ahead of a fifth", desk.take(0, 33), NO);
        due.is("full", desk.take(0, 0), NO);
        due.is("size", desk.about(0, 0), 14);
        due.is("sort 34", desk.take(0, 34), BAD);
        due.is("sort -1", desk.take(1, -1), BAD);
        due.is("hand 4", desk.take(4, 0), BAD);
        for (int none : Due.NOWHERE) {
            due.is("no hand", desk.take(none, 0), BAD);
            due.is("no sort", desk.take(1, none), BAD);
        }
        due.is("nothing was taken", desk.tiles(0, WALL), 4);
        TileDesk four = new TileDesk();
        Due.lay(four, 0, 300);
        due.is("a four open is three", four.take(0, 1), 4);
    }

    private static void promise8() {
        TileDesk desk = new TileDesk();
        due.is("seed", desk.seed(0), 0);
        // 11 by 64 is 0.
        due.is("draw of seed 0", desk.draw(0), 0);
        due.is("seed", desk.seed(Integer.MAX_VALUE), 0);
        // The seed becomes 2147483648 less 48271, and 11: 2147435388; by 64 it is 33553677; of 135 that leaves 102;
        // one of sort 0 being gone that is the last tile of sort 25.
        due.is("draw of the greatest seed", desk.draw(0), 25);
        due.is("seed", desk.seed(64), 0);
        due.is("seed -1", desk.seed(-1), BAD);
        due.is("the least seed", desk.seed(Integer.MIN_VALUE), BAD);
        // 3089355 by 64 is 48271; of 134 that leaves 31; one of sort 0 being gone that is the first tile of sort 8.
        due.is("draw of seed 64", desk.draw(0), 8);
    }

    /** What is drawn by a seed told once, worked out from the tiles of the wall in a row. */
    private static int drawn(List<Integer> wall, long[] seed) {
        seed[0] = (seed[0] * 48271 + 11) % 2147483648L;
        return wall.remove((int) (seed[0] / 64 % wall.size()));
    }

    private static List<Integer> all() {
        List<Integer> tiles = new ArrayList<>();
        for (int t = 0; t < 136; t++) {
            tiles.add(t / 4);
        }
        return tiles;
    }

    private static void promise9() {
        for (int first : new int[] {1, 2, 77777, 2147483647}) {
            TileDesk desk = new TileDesk();
            List<Integer> wall = all();
            long[] seed = {first};
            desk.seed(first);
            for (int n = 0; n < 56; n++) {
                int sort = drawn(wall, seed);
                due.is("draw " + n + " of seed " + first, desk.draw(n / 14), sort);
            }
            due.is("draw of a full hand", desk.draw(0), NO);
            due.is("the size after a refusal", desk.about(0, 0), 14);
        }
        TileDesk desk = new TileDesk();
        for (int none : Due.NOWHERE) {
            due.is("draw of no hand", desk.draw(none), BAD);
        }
        due.is("draw of no hand", desk.draw(4), BAD);
        due.is("the seed as it was", desk.draw(3), 18);
        due.is("held then", desk.tiles(18, HELD + 3), 1);
        due.is("the wall then", desk.tiles(18, WALL), 3);
    }

    private static void promise9Empty() {
        TileDesk desk = new TileDesk();
        Due.hold(desk, 1, 0, 1, 2, 3, 4, 5, 6, 7, 8, 9);
        for (int n = 0; n < 126; n++) {
            desk.discard(0, desk.draw(0));
        }
        desk.seed(5);
        due.is("draw of an empty wall", desk.draw(0), NONE);
        due.is("draw of an empty wall", desk.draw(2), NONE);
        desk.clear(1);
        // The seed 5 becomes 241366, which by 64 is 3771, so that the second of ten is drawn.
        due.is("the seed as it was", desk.draw(0), 1);
        for (int n = 0; n < 9; n++) {
            desk.draw(0);
        }
        for (int sort = 10; sort < 14; sort++) {
            due.is("all are thrown", desk.tiles(sort, THROWN), 4);
        }
        due.is("nothing is left", desk.draw(1), NONE);
    }

    private static void promise10() {
        TileDesk desk = new TileDesk();
        Due.lay(desk, 0, 300);
        Due.lay(desk, 3, 105);
        Due.hold(desk, 1, 9, 10, 11);
        desk.discard(1, 9);
        desk.count(0, true);
        desk.rule(0, 1, -1);
        desk.rack(0, 0, 1);
        due.is("deal", desk.deal(7), 0);
        List<Integer> wall = all();
        long[] seed = {7};
        int[][] held = new int[4][34];
        for (int n = 0; n < 52; n++) {
            held[n / 13][drawn(wall, seed)]++;
        }
        for (int h = 0; h < 4; h++) {
            due.is("size after deal", desk.about(h, 0), 13);
            due.is("groups after deal", desk.about(h, 2), 0);
            for (int sort = 0; sort < 34; sort++) {
                due.is("held after deal", desk.tiles(sort, HELD + h), held[h][sort]);
                due.is("open after deal", desk.tiles(sort, OPEN + h), 0);
            }
        }
        due.is("thrown after deal", desk.tiles(9, THROWN), 0);
        due.is("deal -1", desk.deal(-1), BAD);
        due.is("deal of the least", desk.deal(Integer.MIN_VALUE), BAD);
        due.is("a draw goes on from the deal", desk.draw(0), drawn(wall, seed));
        due.is("what counts is left", desk.count(0, true), 1);
        due.is("rules are left", desk.clearRules(), 1);
        due.is("racks are left", desk.told(0, 0), 0);
        due.is("deal of the greatest", desk.deal(Integer.MAX_VALUE), 0);
        due.is("deal of 0", desk.deal(0), 0);
    }

    private static void promise11() {
        TileDesk desk = Due.holding(3, 3, 4);
        Due.lay(desk, 0, 210);
        due.is("discard", desk.discard(0, 3), 5);
        due.is("thrown", desk.tiles(3, THROWN), 1);
        due.is("held", desk.tiles(3, HELD), 1);
        due.is("the wall", desk.tiles(3, WALL), 2);
        due.is("discard again", desk.discard(0, 3), 4);
        due.is("none left", desk.discard(0, 3), NO);
        due.is("an open one", desk.discard(0, 10), NO);
        due.is("another hand's", desk.discard(1, 4), NO);
        due.is("thrown is not in the wall", desk.take(0, 3), 5);
        for (int none : Due.NOWHERE) {
            due.is("no hand", desk.discard(none, 4), BAD);
            due.is("no sort", desk.discard(0, none), BAD);
        }
        due.is("hand 4", desk.discard(4, 4), BAD);
        due.is("sort 34", desk.discard(0, 34), BAD);
        due.is("size", desk.about(0, 0), 5);
    }

    private static void promise12() {
        TileDesk desk = Due.holding(6, 7, 8, 8, 24, 25, 26, 33, 33, 33, 27, 27, 27, 27);
        due.is("open a run", desk.open(0, 1, 6), 1);
        due.is("its tiles", desk.tiles(6, OPEN) + desk.tiles(7, OPEN) + desk.tiles(8, OPEN), 3);
        due.is("one of them is held still", desk.tiles(8, HELD), 1);
        due.is("the size is the same", desk.about(0, 0), 14);
        due.is("open a four", desk.open(0, 3, 27), 2);
        due.is("a four is three of the size", desk.about(0, 0), 13);
        due.is("its tiles", desk.tiles(27, OPEN), 4);
        due.is("open a three", desk.open(0, 2, 33), 3);
        due.is("open a run", desk.open(0, 1, 24), 4);
        due.is("held then", desk.about(0, 1), 1);
        due.is("codes", desk.about(0, 3), 106);
        due.is("codes", desk.about(0, 4), 327);
        due.is("codes", desk.about(0, 5), 233);
        due.is("codes", desk.about(0, 6), 124);
        TileDesk three = Due.holding(5, 5, 5, 5);
        due.is("a three of four", three.open(0, 2, 5), 1);
        due.is("one is held still", three.tiles(5, HELD), 1);
    }

    private static void promise12Refusals() {
        TileDesk desk = Due.holding(7, 8, 9, 27, 28, 29, 5, 5, 0, 2, 16, 21, 22);
        for (int sort : new int[] {7, 8, 16, 17, 25, 26, 27, 31, 33}) {
            due.is("a run that is none, from " + sort, desk.open(0, 1, sort), BAD);
        }
        for (int sort : new int[] {0, 6, 9, 15, 20, 21, 24}) {
            due.is("a run that is not held, from " + sort, desk.open(0, 1, sort), NO);
        }
        due.is("two are no three", desk.open(0, 2, 5), NO);
        due.is("two are no four", desk.open(0, 3, 5), NO);
        Due.hold(desk, 0, 5);
        due.is("three are no four", desk.open(0, 3, 5), NO);
        due.is("a three of none", desk.open(0, 2, 33), NO);
        due.is("kind 0", desk.open(0, 0, 5), BAD);
        due.is("kind 4", desk.open(0, 4, 5), BAD);
        for (int none : Due.NOWHERE) {
            due.is("no hand", desk.open(none, 2, 5), BAD);
            due.is("no kind", desk.open(0, none, 5), BAD);
            due.is("no sort", desk.open(0, 2, none), BAD);
            due.is("no sort of a run", desk.open(0, 1, none), BAD);
        }
        due.is("hand 4", desk.open(4, 2, 5), BAD);
        due.is("sort 34", desk.open(0, 2, 34), BAD);
        due.is("nothing is open", desk.about(0, 2), 0);
        due.is("all are held", desk.about(0, 1), 14);
    }

    private static void promise13() {
        TileDesk desk = Due.holding(0, 1, 1, 2, 33);
        Due.lay(desk, 0, 310);
        Due.lay(desk, 1, 203);
        desk.discard(0, 2);
        due.is("clear", desk.clear(0), 8);
        due.is("the size", desk.about(0, 0), 0);
        due.is("groups", desk.about(0, 2), 0);
        due.is("codes", desk.about(0, 3), NONE);
        due.is("held ones go back", desk.tiles(0, WALL), 4);
        due.is("held ones go back", desk.tiles(1, WALL), 4);
        due.is("held ones go back", desk.tiles(33, WALL), 4);
        due.is("open ones go back", desk.tiles(10, WALL), 4);
        due.is("no open ones", desk.tiles(10, OPEN), 0);
        due.is("thrown ones stay", desk.tiles(2, THROWN), 1);
        due.is("another's stay", desk.tiles(3, OPEN + 1), 3);
        due.is("clear again", desk.clear(0), 0);
        due.is("hand 4", desk.clear(4), BAD);
        for (int none : Due.NOWHERE) {
            due.is("no hand", desk.clear(none), BAD);
        }
    }

    private static void promise14() {
        TileDesk desk = new TileDesk();
        for (int h = 0; h < 4; h++) {
            Due.lay(desk, h, 200 + h);
            Due.hold(desk, h, 10, 20 + h, 20 + h);
            desk.discard(h, 20 + h);
        }
        for (int h = 0; h < 4; h++) {
            for (int g = 0; g < 4; g++) {
                due.is("open", desk.tiles(h, OPEN + g), h == g ? 3 : 0);
                due.is("held", desk.tiles(20 + h, HELD + g), h == g ? 1 : 0);
            }
            due.is("held by each", desk.tiles(10, HELD + h), 1);
            due.is("thrown", desk.tiles(20 + h, THROWN), 1);
            due.is("the wall", desk.tiles(20 + h, WALL), 2);
        }
        due.is("the wall", desk.tiles(10, WALL), 0);
        due.is("sort 33", desk.tiles(33, WALL), 4);
        due.is("sort 34", desk.tiles(34, WALL), BAD);
        due.is("place 9", desk.tiles(3, 9), 3);
        due.is("place 10", desk.tiles(3, 10), BAD);
        for (int none : Due.NOWHERE) {
            due.is("no sort", desk.tiles(none, WALL), BAD);
            due.is("no place", desk.tiles(0, none), BAD);
        }
    }

    private static void promise15() {
        TileDesk desk = Due.holding(1, 2);
        int[] none = {2, 2, 0, NONE, NONE, NONE, NONE};
        int[] two = {8, 2, 2, 304, 110, NONE, NONE};
        for (int what = 0; what < 7; what++) {
            due.is("about " + what, desk.about(0, what), none[what]);
        }
        Due.lay(desk, 0, 304);
        Due.lay(desk, 0, 110);
        for (int what = 0; what < 7; what++) {
            due.is("about " + what, desk.about(0, what), two[what]);
        }
        due.is("another hand", desk.about(3, 0), 0);
        due.is("about 7", desk.about(0, 7), BAD);
        due.is("hand 4", desk.about(4, 0), BAD);
        for (int nowhere : Due.NOWHERE) {
            due.is("no hand", desk.about(nowhere, 0), BAD);
            due.is("about none", desk.about(0, nowhere), BAD);
        }
    }
}
