import java.util.ArrayList;
import java.util.List;

/** The boundary cases of the terms about tiles and of promises 7 to 15, sentence by sentence of the document. */
public final class EdgesOfTilesTest {
    private static final Due due = new Due("EdgesOfTilesTest");
    private static final int BAD = Due.BAD, NO = Due.NO, NONE = Due.NONE, LEAST = Due.LEAST, GREATEST = Due.GREATEST;
    private static final int WALL = 0, THROWN = 1, HELD = 2, OPEN = 6;
    private static final int[] FOURTEEN = {0, 1, 2, 3, 4, 5, 6, 7, 8, 9, 10, 11, 12, 13};

    public static void main(String[] args) {
        fourOfEachSort();
        sizeOfOpenGroups();
        sizeOfFours();
        callsUpToTheLast();
        takeUntilFull();
        takeFive();
        takeBad();
        seedEdges();
        seedBad();
        drawWrapsAround();
        drawTheFirstAndTheLastOfTheWall();
        drawOfOneLeft();
        drawFull();
        drawOfNoWall();
        drawBad();
        dealEdges();
        dealOfNoWall();
        dealBad();
        discardDownToNone();
        discardNone();
        discardBad();
        openRunsAtTheEndsOfRows();
        openRunsThatAreNone();
        openWithOneMissing();
        openThreesAndFoursOfEachSort();
        openFourGroups();
        openBad();
        clearOfNone();
        clearOfMost();
        clearBad();
        tilesEdges();
        tilesBad();
        aboutEdges();
        aboutBad();
        due.end();
    }

    private static TileDesk full() {
        return Due.holding(FOURTEEN);
    }

    // ---- terms

    private static void fourOfEachSort() {
        due.sentence("TILES are of 34 SORTS, four of each");
        for (int sort = 0; sort < 34; sort++) {
            TileDesk desk = new TileDesk();
            for (int n = 1; n <= 4; n++) {
                due.is("take of sort " + sort, desk.take(n % 4, sort), 1);
                due.is("left of sort " + sort, desk.tiles(sort, WALL), 4 - n);
            }
            for (int h = 0; h < 4; h++) {
                due.is("a fifth of sort " + sort, desk.take(h, sort), Due.FIVE);
            }
        }
        due.is("sort 34", new TileDesk().take(0, 34), BAD);
        due.is("sort -1", new TileDesk().take(0, -1), BAD);
    }

    private static void sizeOfOpenGroups() {
        due.sentence("THE SIZE of a HAND is how many tiles it HOLDS and three for each OPEN GROUP: 14 at most.");
        TileDesk desk = Due.laid(new int[] {100, 209, 124, 233}, 5);
        due.is("size", desk.about(0, 0), 13);
        due.is("held", desk.about(0, 1), 1);
        due.is("the fourteenth", desk.take(0, 6), 14);
        due.is("a fifteenth", desk.take(0, 7), NO);
        due.is("a fifteenth", desk.draw(0), NO);
        due.is("thrown", desk.discard(0, 5), 13);
        due.is("and once more", desk.discard(0, 6), 12);
    }

    private static void sizeOfFours() {
        due.sentence("It is FULL at 14, RESTS at 13.");
        TileDesk desk = Due.holding(1, 1, 1, 1, 4, 4, 4, 4, 7, 7, 7, 7, 10, 10);
        due.is("full", desk.take(0, 5), NO);
        due.is("full", desk.done(0), 0);
        due.is("a four laid open", desk.open(0, 3, 1), 1);
        due.is("it rests then", desk.about(0, 0), 13);
        due.is("it rests then", desk.done(0), NO);
        due.is("and may take", desk.take(0, 10), 14);
        due.is("a second one", desk.open(0, 3, 4), 2);
        due.is("and again", desk.take(0, 10), 14);
        due.is("a fifteenth", desk.take(0, 6), NO);
        due.is("a third one", desk.open(0, 3, 7), 3);
        due.is("and again", desk.take(0, 5), 14);
        due.is("a fourth one", desk.open(0, 3, 10), 4);
        due.is("four fours and a tile", desk.about(0, 0), 13);
        due.is("and the pair", desk.take(0, 5), 14);
        due.is("two are held", desk.about(0, 1), 2);
        due.is("a way", desk.done(0), 1);
    }

    /** The 512th call is promised as the first; what is asked later may answer anything, but has to answer. */
    private static void callsUpToTheLast() {
        due.sentence("An object is used for at most 512 calls after it has been made; what later calls answer is free.");
        TileDesk desk = new TileDesk();
        int calls = 0;
        while (calls < 510) {
            due.is("take, after " + calls, desk.take(0, 33), 1);
            due.is("clear, after " + calls, desk.clear(0), 1);
            calls += 2;
        }
        due.is("call 511", desk.take(3, 0), 1);
        due.is("call 512", desk.tiles(0, HELD + 3), 1);
        TileDesk rows = new TileDesk();
        for (int n = 0; n < 511; n++) {
            due.is("rule " + n, rows.rule(0, 0, -1), n < 20 ? n : Due.FULL);
        }
        due.is("call 512", rows.clearRules(), 20);
        for (int n = 0; n < 600; n++) {
            rows.rule(n, n, n);
            rows.deal(n);
            rows.draw(n % 5);
            rows.discard(n % 4, rows.best(n % 4));
            rows.open(n % 4, 1 + n % 3, n % 34);
            rows.odds(n % 4, 2);
        }
    }

    // ---- promise 7

    private static void takeUntilFull() {
        due.sentence("A HAND takes a tile from THE WALL: its SIZE. BAD; NO: it is FULL; FIVE: there is none.");
        for (int h = 0; h < 4; h++) {
            TileDesk desk = new TileDesk();
            for (int n = 1; n <= 14; n++) {
                due.is("take", desk.take(h, n + 19), n);
            }
            due.is("a fifteenth", desk.take(h, 0), NO);
            due.is("a fifteenth held once", desk.take(h, 20), NO);
            due.is("size", desk.about(h, 0), 14);
            due.is("the wall", desk.tiles(0, WALL), 4);
            due.is("thrown", desk.discard(h, 33), 13);
            due.is("the fourteenth again", desk.take(h, 0), 14);
        }
    }

    private static void takeFive() {
        due.sentence("A HAND takes a tile from THE WALL: its SIZE. BAD; NO: it is FULL; FIVE: there is none.");
        TileDesk desk = full();
        Due.hold(desk, 1, 33, 33, 33, 33);
        due.is("full ahead of none", desk.take(0, 33), NO);
        due.is("none", desk.take(2, 33), Due.FIVE);
        desk.discard(1, 33);
        due.is("thrown is not there", desk.take(2, 33), Due.FIVE);
        desk.open(1, 2, 33);
        due.is("open is not there", desk.take(2, 33), Due.FIVE);
        due.is("cleared", desk.clear(1), 3);
        due.is("there again", desk.take(2, 33), 1);
        due.is("bad ahead of full", desk.take(0, 34), BAD);
        due.is("bad ahead of full", desk.take(0, -1), BAD);
    }

    private static void takeBad() {
        due.sentence("BAD: a number is none that is told, there is no such thing.");
        TileDesk desk = new TileDesk();
        for (int h : Due.NO_HANDS) {
            due.is("hand " + h, desk.take(h, 0), BAD);
        }
        for (int sort : Due.NO_SORTS) {
            due.is("sort " + sort, desk.take(0, sort), BAD);
        }
        due.is("the first sort", desk.take(3, 0), 1);
        due.is("the last sort", desk.take(3, 33), 2);
    }

    // ---- promises 8 and 9

    private static void seedEdges() {
        due.sentence("THE SEED (0 to 2147483647). 0. BAD.");
        TileDesk desk = new TileDesk();
        due.is("the greatest", desk.seed(GREATEST), 0);
        due.is("0", desk.seed(0), 0);
        due.is("11 by 64 is 0", desk.draw(0), 0);
        due.is("1", desk.seed(1), 0);
        desk.clear(0);
        due.is("as of a new desk", desk.draw(0), 18);
    }

    private static void seedBad() {
        due.sentence("THE SEED (0 to 2147483647). 0. BAD.");
        for (int v : new int[] {-1, -2, LEAST, LEAST + 1}) {
            TileDesk desk = new TileDesk();
            due.is("seed " + v, desk.seed(v), BAD);
            due.is("the seed is 1 still", desk.draw(0), 18);
        }
    }

    private static int next(int seed) {
        return (int) ((seed * 48271L + 11) % 2147483648L);
    }

    private static List<Integer> all() {
        List<Integer> tiles = new ArrayList<>();
        for (int t = 0; t < 136; t++) {
            tiles.add(t / 4);
        }
        return tiles;
    }

    private static void drawWrapsAround() {
        due.sentence("THE SEED becomes THE SEED times 48271, and 11, modulo 2147483648");
        // 44488 times 48271 and 11 is 2147480259, the last below 2147483648; 44489 is the first that goes around.
        for (int seed : new int[] {0, 44487, 44488, 44489, 88976, 88977, 1 << 30, GREATEST - 1, GREATEST}) {
            TileDesk desk = new TileDesk();
            List<Integer> wall = all();
            desk.seed(seed);
            int now = seed;
            for (int n = 0; n < 14; n++) {
                now = next(now);
                due.is("draw " + n + " of seed " + seed, desk.draw(3), wall.remove(now / 64 % wall.size()));
            }
        }
    }

    private static void drawTheFirstAndTheLastOfTheWall() {
        due.sentence("of THE WALL, SORT by SORT, tile by tile, that one whose number (from 0) is what is left of THE SEED by 64 (cut) when divided by how many there are: its SORT.");
        for (int number : new int[] {0, 3, 4, 35, 36, 107, 108, 131, 132, 135}) {
            int seed = 0;
            while (next(seed) / 64 % 136 != number) {
                seed++;
            }
            TileDesk desk = new TileDesk();
            desk.seed(seed);
            due.is("number " + number + " of 136", desk.draw(0), number / 4);
        }
        // Of sorts 0 and 33 three each are left when one of each is held: numbers 0 to 2, and 131 to 133 of 134.
        for (int number : new int[] {0, 2, 3, 130, 131, 133}) {
            int seed = 0;
            while (next(seed) / 64 % 134 != number) {
                seed++;
            }
            TileDesk desk = Due.holding(0, 33);
            desk.seed(seed);
            due.is("number " + number + " of 134", desk.draw(0), (number + 1) / 4);
        }
        // 63 by 64 is 0, and 64 is 1: 1 is the second of two that are left, of which the second is of sort 33.
        due.is("63 by 64, cut", drawnOfTwo(63), 0);
        due.is("64 by 64, cut", drawnOfTwo(64), 33);
        due.is("127 by 64, cut", drawnOfTwo(127), 33);
        due.is("128 by 64, cut", drawnOfTwo(128), 0);
    }

    /** What is drawn of a wall of one tile of sort 0 and one of sort 33, when the seed has become this. */
    private static int drawnOfTwo(int become) {
        // 524870255 times 48271 is one more than a number of times 2147483648.
        long seed = (become - 11) * 524870255L;
        seed = Math.floorMod(seed, 2147483648L);
        due.is("the seed becomes " + become, next((int) seed), become);
        TileDesk desk = wallOf(0, 33);
        desk.seed((int) seed);
        return desk.draw(1);
    }

    /** A desk of which all but these are thrown. */
    private static TileDesk wallOf(int... left) {
        int[] keep = new int[34];
        for (int sort : left) {
            keep[sort]++;
        }
        TileDesk desk = new TileDesk();
        for (int sort = 0; sort < 34; sort++) {
            for (int n = keep[sort]; n < 4; n++) {
                Due.throwAway(desk, 0, sort);
            }
        }
        return desk;
    }

    private static void drawOfOneLeft() {
        due.sentence("A HAND takes the next tile");
        for (int sort : new int[] {0, 17, 33}) {
            TileDesk desk = wallOf(sort);
            desk.seed(GREATEST);
            due.is("the one that is left", desk.draw(2), sort);
            due.is("then none", desk.draw(2), NONE);
            due.is("it is held", desk.tiles(sort, HELD + 2), 1);
            due.is("the size after a refusal", desk.about(2, 0), 1);
            due.is("cleared", desk.clear(2), 1);
            due.is("drawn again", desk.draw(1), sort);
        }
    }

    private static void drawFull() {
        due.sentence("BAD; NO: it is FULL; NONE: THE WALL is empty.");
        TileDesk desk = full();
        due.is("full", desk.draw(0), NO);
        due.is("full", desk.draw(0), NO);
        due.is("its size", desk.about(0, 0), 14);
        // 48282 by 64 is 754; of 122 that leaves 22; the wall begins with 14 sorts of three: the 23rd is of sort 7.
        due.is("the seed was 1 still", desk.draw(1), 7);
        TileDesk four = Due.laid(new int[] {300, 301, 302, 303}, 4, 5);
        due.is("full with four fours", four.draw(0), NO);
        four.discard(0, 4);
        due.is("one tile fewer", four.draw(0) >= 0 ? 1 : 0, 1);
    }

    private static void drawOfNoWall() {
        due.sentence("BAD; NO: it is FULL; NONE: THE WALL is empty.");
        TileDesk desk = full();
        for (int sort = 0; sort < 34; sort++) {
            for (int n = sort < 14 ? 1 : 0; n < 4; n++) {
                Due.throwAway(desk, 1, sort);
            }
        }
        desk.seed(1);
        due.is("full ahead of empty", desk.draw(0), NO);
        for (int h = 1; h < 4; h++) {
            due.is("empty", desk.draw(h), NONE);
            due.is("its size", desk.about(h, 0), 0);
        }
        due.is("bad ahead of empty", desk.draw(4), BAD);
        due.is("take of an empty wall", desk.take(1, 0), Due.FIVE);
        due.is("the wall has 14 again", desk.clear(0), 14);
        // 48282 by 64 is 754; of 14 that leaves 12: the thirteenth of one tile each.
        due.is("the seed was 1 still", desk.draw(1), 12);
    }

    private static void drawBad() {
        due.sentence("BAD; NO: it is FULL; NONE: THE WALL is empty.");
        TileDesk desk = new TileDesk();
        for (int h : Due.NO_HANDS) {
            due.is("hand " + h, desk.draw(h), BAD);
        }
        due.is("the seed was 1 still", desk.draw(3), 18);
    }

    // ---- promise 10

    private static void dealEdges() {
        due.sentence("HANDS 0 to 3 draw 13 each, one HAND after the other: 0. BAD.");
        for (int v : new int[] {0, 1, 44489, GREATEST}) {
            TileDesk desk = new TileDesk();
            due.is("deal " + v, desk.deal(v), 0);
            List<Integer> wall = all();
            int now = v;
            int[][] held = new int[4][34];
            for (int n = 0; n < 52; n++) {
                now = next(now);
                held[n / 13][wall.remove(now / 64 % wall.size())]++;
            }
            for (int h = 0; h < 4; h++) {
                due.is("size", desk.about(h, 0), 13);
                for (int sort = 0; sort < 34; sort++) {
                    due.is("deal " + v + ", held of " + sort, desk.tiles(sort, HELD + h), held[h][sort]);
                }
            }
            now = next(now);
            due.is("the draw behind it", desk.draw(0), wall.get(now / 64 % wall.size()));
        }
    }

    private static void dealOfNoWall() {
        due.sentence("Behind all that is HELD, OPEN, THROWN has gone back to THE WALL, and the SEED was told");
        TileDesk desk = wallOf(5, 5, 5, 5, 6, 6, 6, 6, 7, 7, 7, 7, 8, 8, 8);
        Due.lay(desk, 0, 305);
        Due.lay(desk, 1, 206);
        Due.hold(desk, 2, 7, 7, 7, 7, 8, 8, 8);
        Due.hold(desk, 3, 6);
        due.is("an empty wall", desk.draw(3), NONE);
        due.is("deal", desk.deal(1), 0);
        TileDesk fresh = new TileDesk();
        fresh.deal(1);
        int sum = 0;
        for (int sort = 0; sort < 34; sort++) {
            due.is("the wall", desk.tiles(sort, WALL), fresh.tiles(sort, WALL));
            due.is("thrown", desk.tiles(sort, THROWN), 0);
            sum += fresh.tiles(sort, WALL);
        }
        due.is("84 are left", sum, 84);
        for (int h = 0; h < 4; h++) {
            due.is("no groups", desk.about(h, 2), 0);
            due.is("thirteen", desk.about(h, 1), 13);
        }
        due.is("the seed goes on alike", desk.draw(0), fresh.draw(0));
    }

    private static void dealBad() {
        due.sentence("HANDS 0 to 3 draw 13 each, one HAND after the other: 0. BAD.");
        for (int v : new int[] {-1, -2, LEAST}) {
            TileDesk desk = Due.laid(new int[] {305}, 1);
            due.is("deal " + v, desk.deal(v), BAD);
            due.is("held as it was", desk.about(0, 1), 1);
            due.is("open as it was", desk.about(0, 3), 305);
            due.is("another's size", desk.about(1, 0), 0);
            desk.clear(0);
            due.is("the seed was 1 still", desk.draw(3), 18);
        }
    }

    // ---- promise 11

    private static void discardDownToNone() {
        due.sentence("A HAND throws a tile that it HOLDS: its SIZE.");
        TileDesk desk = Due.holding(0, 0, 33, 33, 33, 33);
        for (int n = 5; n >= 0; n--) {
            due.is("discard", desk.discard(0, n > 1 ? 33 : 0), n);
        }
        due.is("none is held", desk.about(0, 1), 0);
        due.is("thrown", desk.tiles(33, THROWN), 4);
        due.is("thrown", desk.tiles(0, THROWN), 2);
        due.is("from an empty hand", desk.discard(0, 0), NO);
        due.is("thrown as it was", desk.tiles(0, THROWN), 2);
        TileDesk four = Due.laid(new int[] {300, 301, 302, 303}, 4);
        due.is("the last behind four open", four.discard(0, 4), 12);
        TileDesk full = full();
        due.is("from a full one", full.discard(0, 13), 13);
    }

    private static void discardNone() {
        due.sentence("A HAND throws a tile that it HOLDS: its SIZE. BAD; NO: it HOLDS none.");
        TileDesk desk = Due.laid(new int[] {200, 101}, 5, 6);
        Due.hold(desk, 1, 7);
        for (int sort : new int[] {0, 1, 2, 3, 4, 7, 33}) {
            due.is("sort " + sort, desk.discard(0, sort), NO);
        }
        due.is("open ones stay", desk.tiles(0, OPEN), 3);
        due.is("another's stays", desk.tiles(7, HELD + 1), 1);
        due.is("nothing is thrown", desk.tiles(7, THROWN), 0);
        due.is("once", desk.discard(0, 5), 7);
        due.is("not twice", desk.discard(0, 5), NO);
    }

    private static void discardBad() {
        due.sentence("A HAND throws a tile that it HOLDS: its SIZE. BAD; NO: it HOLDS none.");
        TileDesk desk = Due.holding(0, 33);
        for (int h : Due.NO_HANDS) {
            due.is("hand " + h, desk.discard(h, 0), BAD);
        }
        for (int sort : Due.NO_SORTS) {
            due.is("sort " + sort, desk.discard(0, sort), BAD);
            due.is("sort " + sort + " of an empty hand", desk.discard(1, sort), BAD);
        }
        due.is("size", desk.about(0, 0), 2);
    }

    // ---- promise 12

    private static void openRunsAtTheEndsOfRows() {
        due.sentence("1 RUN, its SORT and the next two, of one ROW 0 to 2");
        for (int sort : new int[] {0, 6, 9, 15, 18, 24}) {
            TileDesk desk = Due.holding(sort, sort + 1, sort + 2);
            due.is("run from " + sort, desk.open(0, 1, sort), 1);
            due.is("its code", desk.about(0, 3), 100 + sort);
            due.is("none is held", desk.about(0, 1), 0);
            for (int k = 0; k < 3; k++) {
                due.is("one of each is open", desk.tiles(sort + k, OPEN), 1);
            }
        }
    }

    private static void openRunsThatAreNone() {
        due.sentence("BAD: also a RUN that is none; NO: it HOLDS not all of them.");
        for (int sort : new int[] {7, 8, 16, 17, 25, 26, 27, 28, 29, 30, 31, 32, 33}) {
            TileDesk desk = new TileDesk();
            due.is("not even held, run from " + sort, desk.open(0, 1, sort), BAD);
            Due.hold(desk, 0, sort, (sort + 1) % 34, (sort + 2) % 34);
            due.is("run from " + sort, desk.open(0, 1, sort), BAD);
            due.is("nothing is open", desk.about(0, 2), 0);
            due.is("three are held", desk.about(0, 1), 3);
        }
        for (int sort = 0; sort < 27; sort++) {
            due.is("run from " + sort, new TileDesk().open(0, 1, sort), sort % 9 <= 6 ? NO : BAD);
        }
    }

    private static void openWithOneMissing() {
        due.sentence("BAD: also a RUN that is none; NO: it HOLDS not all of them.");
        for (int missing = 0; missing < 3; missing++) {
            TileDesk desk = new TileDesk();
            for (int k = 0; k < 3; k++) {
                Due.hold(desk, k == missing ? 1 : 0, 12 + k);
            }
            due.is("one is another hand's", desk.open(0, 1, 12), NO);
            Due.hold(desk, 0, 12 + (missing + 1) % 3, 12 + (missing + 2) % 3);
            due.is("two of each other", desk.open(0, 1, 12), NO);
            due.is("nothing is open", desk.about(0, 2), 0);
            due.is("all are held", desk.about(0, 1), 4);
            Due.hold(desk, 0, 12 + missing);
            due.is("now all", desk.open(0, 1, 12), 1);
            due.is("and not again", desk.open(0, 1, 12), NO);
        }
        TileDesk again = Due.laid(new int[] {205}, 5);
        due.is("an open three and one are no four", again.open(0, 3, 5), NO);
        due.is("nor another three", again.open(0, 2, 5), NO);
        TileDesk run = Due.laid(new int[] {105}, 5, 6);
        due.is("what is open is not held", run.open(0, 1, 5), NO);
    }

    private static void openThreesAndFoursOfEachSort() {
        due.sentence("A HAND lays a GROUP (KIND 1 to 3) of tiles that it HOLDS OPEN: how many it has.");
        for (int sort = 0; sort < 34; sort++) {
            TileDesk desk = Due.holding(sort, sort);
            due.is("a three of two", desk.open(0, 2, sort), NO);
            Due.hold(desk, 0, sort);
            due.is("a four of three", desk.open(0, 3, sort), NO);
            due.is("a three", desk.open(0, 2, sort), 1);
            due.is("none is held", desk.about(0, 1), 0);
            due.is("three are open", desk.tiles(sort, OPEN), 3);
            desk.clear(0);
            Due.hold(desk, 0, sort, sort, sort, sort);
            due.is("a four", desk.open(0, 3, sort), 1);
            due.is("none is held", desk.about(0, 1), 0);
            due.is("four are open", desk.tiles(sort, OPEN), 4);
            due.is("its size", desk.about(0, 0), 3);
            due.is("its code", desk.about(0, 3), 300 + sort);
        }
    }

    private static void openFourGroups() {
        due.sentence("A HAND lays a GROUP (KIND 1 to 3) of tiles that it HOLDS OPEN: how many it has.");
        TileDesk desk = Due.holding(0, 1, 2, 3, 4, 5, 6, 7, 8, 33, 33, 33, 9, 9);
        due.is("one", desk.open(0, 1, 6), 1);
        due.is("two", desk.open(0, 2, 33), 2);
        due.is("three", desk.open(0, 1, 0), 3);
        due.is("four", desk.open(0, 1, 3), 4);
        due.is("two are held", desk.about(0, 1), 2);
        for (int sort = 0; sort < 34; sort++) {
            due.is("a fifth", desk.open(0, 2, sort), NO);
            due.is("a fifth", desk.open(0, 3, sort), NO);
        }
        due.is("as they were laid", desk.about(0, 3), 106);
        due.is("as they were laid", desk.about(0, 4), 233);
        due.is("as they were laid", desk.about(0, 5), 100);
        due.is("as they were laid", desk.about(0, 6), 103);
        due.is("cleared", desk.clear(0), 14);
        Due.hold(desk, 0, 9, 9, 9);
        due.is("one again", desk.open(0, 2, 9), 1);
        due.is("the second code is none again", desk.about(0, 4), NONE);
    }

    private static void openBad() {
        due.sentence("BAD: also a RUN that is none; NO: it HOLDS not all of them.");
        TileDesk desk = Due.holding(5, 5, 5, 5);
        for (int h : Due.NO_HANDS) {
            due.is("hand " + h, desk.open(h, 2, 5), BAD);
        }
        for (int kind : new int[] {-1, 0, 4, 5, LEAST, GREATEST}) {
            due.is("kind " + kind, desk.open(0, kind, 5), BAD);
            due.is("kind " + kind + " of none", desk.open(1, kind, 5), BAD);
        }
        for (int kind = 1; kind <= 3; kind++) {
            for (int sort : Due.NO_SORTS) {
                due.is("sort " + sort, desk.open(0, kind, sort), BAD);
            }
        }
        due.is("all are held", desk.about(0, 1), 4);
    }

    // ---- promise 13

    private static void clearOfNone() {
        due.sentence("All of a HAND goes back to THE WALL: how many tiles. BAD.");
        TileDesk desk = Due.holding(1);
        for (int h = 1; h < 4; h++) {
            due.is("none", desk.clear(h), 0);
        }
        due.is("one", desk.clear(0), 1);
        due.is("none then", desk.clear(0), 0);
        due.is("its size", desk.about(0, 0), 0);
        due.is("the wall", desk.tiles(1, WALL), 4);
    }

    private static void clearOfMost() {
        due.sentence("All of a HAND goes back to THE WALL: how many tiles. BAD.");
        TileDesk desk = Due.laid(new int[] {300, 308, 333, 326}, 5, 5);
        due.is("four fours and two", desk.clear(0), 18);
        for (int sort : new int[] {0, 8, 33, 26, 5}) {
            due.is("the wall", desk.tiles(sort, WALL), 4);
            due.is("held", desk.tiles(sort, HELD), 0);
            due.is("open", desk.tiles(sort, OPEN), 0);
        }
        for (int what = 0; what < 7; what++) {
            due.is("about " + what, desk.about(0, what), what < 3 ? 0 : NONE);
        }
        TileDesk runs = Due.laid(new int[] {100, 100, 100, 100}, 5, 5);
        due.is("four runs and two", runs.clear(0), 14);
        due.is("the wall", runs.tiles(2, WALL), 4);
        TileDesk threes = Due.laid(new int[] {200, 109}, 0);
        Due.throwAway(threes, 0, 10);
        due.is("what it threw does not go back", threes.clear(0), 7);
        due.is("the wall", threes.tiles(0, WALL), 4);
        due.is("the wall", threes.tiles(10, WALL), 3);
        due.is("thrown", threes.tiles(10, THROWN), 1);
    }

    private static void clearBad() {
        due.sentence("All of a HAND goes back to THE WALL: how many tiles. BAD.");
        TileDesk desk = Due.holding(1);
        for (int h : Due.NO_HANDS) {
            due.is("hand " + h, desk.clear(h), BAD);
        }
        due.is("still held", desk.about(0, 1), 1);
    }

    // ---- promises 14 and 15

    private static void tilesEdges() {
        due.sentence("How many tiles of a SORT: in place 0 THE WALL, 1 THROWN, 2 + h HELD by a HAND, 6 + h OPEN in one.");
        for (int sort : new int[] {0, 33}) {
            TileDesk desk = new TileDesk();
            due.is("the wall", desk.tiles(sort, WALL), 4);
            Due.hold(desk, 0, sort, sort, sort, sort);
            for (int place = 0; place < 10; place++) {
                due.is("four are held, place " + place, desk.tiles(sort, place), place == HELD ? 4 : 0);
            }
            desk.open(0, 3, sort);
            for (int place = 0; place < 10; place++) {
                due.is("four are open, place " + place, desk.tiles(sort, place), place == OPEN ? 4 : 0);
            }
            desk.clear(0);
            Due.throwAway(desk, 3, sort, sort, sort, sort);
            for (int place = 0; place < 10; place++) {
                due.is("four are thrown, place " + place, desk.tiles(sort, place), place == THROWN ? 4 : 0);
            }
        }
        TileDesk each = new TileDesk();
        for (int h = 0; h < 4; h++) {
            Due.hold(each, h, 20);
        }
        for (int place = 0; place < 10; place++) {
            due.is("one each, place " + place, each.tiles(20, place), place >= HELD && place < OPEN ? 1 : 0);
        }
    }

    private static void tilesBad() {
        due.sentence("BAD: place 0 to 9.");
        TileDesk desk = new TileDesk();
        for (int sort : Due.NO_SORTS) {
            for (int place : new int[] {0, 1, 2, 9, 10, -1}) {
                due.is("sort " + sort + ", place " + place, desk.tiles(sort, place), BAD);
            }
        }
        for (int place : new int[] {-1, 10, 11, LEAST, GREATEST}) {
            due.is("place " + place, desk.tiles(0, place), BAD);
            due.is("place " + place, desk.tiles(33, place), BAD);
        }
        due.is("place 9", desk.tiles(33, 9), 0);
    }

    private static void aboutEdges() {
        due.sentence("0 SIZE, 1 tiles HELD, 2 OPEN GROUPS, 3 + k the CODE of the k-th of these (NONE).");
        TileDesk desk = new TileDesk();
        int[] codes = {333, 100, 226, 124};
        for (int groups = 0; groups <= 4; groups++) {
            due.is("size", desk.about(3, 0), 3 * groups);
            due.is("held", desk.about(3, 1), 0);
            due.is("groups", desk.about(3, 2), groups);
            for (int k = 0; k < 4; k++) {
                due.is(groups + " groups, code " + k, desk.about(3, 3 + k), k < groups ? codes[k] : NONE);
            }
            if (groups < 4) {
                Due.lay(desk, 3, codes[groups]);
            }
        }
        due.is("another hand's codes", desk.about(2, 3), NONE);
    }

    private static void aboutBad() {
        due.sentence("BAD: what 0 to 6.");
        TileDesk desk = new TileDesk();
        for (int what : new int[] {-1, 7, 8, LEAST, GREATEST}) {
            due.is("what " + what, desk.about(0, what), BAD);
        }
        for (int h : Due.NO_HANDS) {
            for (int what = 0; what < 7; what++) {
                due.is("hand " + h, desk.about(h, what), BAD);
            }
        }
        due.is("what 6", desk.about(3, 6), NONE);
    }
}
